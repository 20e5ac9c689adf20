/-! THE CALLS THAT ONLY READ -/
/-- sizes of what was compiled -/
def BD (A : Nat → Nat → Int) : Prop := ∀ p : Int, 0 ≤ p → p ≤ 5 → 0 < A 36 p.toNat → (0 ≤ A 37 p.toNat ∧ 0 ≤ A 38 p.toNat ∧ A 37 p.toNat + A 38 p.toNat ≤ 3997) ∧ 0 ≤ A 54 p.toNat ∧ A 54 p.toNat ≤ 6000
set_option maxRecDepth 20000 in
set_option maxHeartbeats 4000000 in
theorem c_isByte {X : jX} {dd : Nat} {c0 c1 : jC} {G : Nat → Int} {A : Nat → Nat → Int} {T : jH} {p k : Int} {bp cs : Int} (hd : 3 ≤ dd) (hW : Wk G A) (e_bp : A 36 (p).toNat = bp) (e_cs : A 54 (p).toNat = cs) (h_p : (-2147483648 : Int) ≤ p ∧ p ≤ 2147483647) (h_k : (-2147483648 : Int) ≤ k ∧ k ≤ 2147483647) (p_0 : BD A) : wk X dd 404 [.ref 66, .int (i32 p), .int (i32 k)] (rV c0 c1 G A T) (fun o V_q => ∃ (r : Int), V_q = rV c0 c1 G A T ∧ o = .inl (some (.int (i32 r))) ∧ ((0 : Int) ≤ r ∧ r ≤ 1) ∧ ((r = 1 ∧ (0 ≤ p) ∧ (p ≤ 5) ∧ (0 < bp) ∧ (0 ≤ k) ∧ (k < cs)) ∨ (r = 0 ∧ (p < 0 ∨ 5 < p ∨ bp ≤ 0 ∨ k < 0 ∨ cs ≤ k)))) := by
  obtain ⟨d, rfl⟩ : ∃ d, dd = d + 1 := ⟨dd - 1, by omega⟩
  refine wk_of (e := jm404) rfl (Nat.le_of_ble_eq_true rfl) ?_
  show wj X d jm404 (0, [(0, .ref 66), (1, .int (i32 (p))), (2, .int (i32 (k)))], [], rV c0 c1 G A T) _
  have b_bp : (-2147483648 : Int) ≤ bp ∧ bp ≤ 2147483647 := e_bp ▸ hW.2 36 _
  have b_cs : (-2147483648 : Int) ≤ cs ∧ cs ≤ 2147483647 := e_cs ▸ hW.2 54 _
  refine jx_ld (pc_q := 1) (l_q := [(0, .ref 66), (1, .int (i32 (p))), (2, .int (i32 (k)))]) (st_q := [.ref 66]) rfl (jl_aloadn rfl) ?_
  refine jx_ld (pc_q := 2) (l_q := [(0, .ref 66), (1, .int (i32 (p))), (2, .int (i32 (k)))]) (st_q := [.int (i32 (p)), .ref 66]) rfl (jl_iloadn rfl) ?_
  refine jx_vr (pc_q := 5) (as := [.int (i32 (p))]) (st := []) rfl rfl rfl rfl ⟨rfl, rfl, Nat.le_of_ble_eq_true rfl⟩ rfl rfl (c_isCore2 (dd := d) (hd := by omega) (hW := hW) (p := p) (bp := bp) (e_bp := show A 36 (p).toNat = bp from (e_bp))  (h_p := ⟨(Int.le_trans (by decide : (-2147483648 : Int) ≤ -2147483648) h_p.1), (Int.le_trans h_p.2 (by decide : (2147483647 : Int) ≤ 2147483647))⟩)  ) (fun o V_q hq => ?_)
  obtain ⟨r1, rfl, rfl, b2, q3⟩ := hq
  refine .inr ⟨_, rfl, ?_⟩
  rcases q3 with ⟨rfl, a4, a5, a6⟩ | ⟨rfl, a7⟩
  · have _q : True := trivial
    refine jx_if_eq (pc_q := 8) (tg := 41) rfl rfl rfl (by decide) (by decide) (fun h8 => ?_) (fun h8 => ?_)
    · have _q := h8
      exact absurd h8 (by omega)
    · have _q := h8
      have hbd := p_0 p (by omega) (by omega) (by rw [show A 36 (p).toNat = bp from e_bp]; omega); rw [show A 54 (p).toNat = cs from e_cs] at hbd
      refine jx_ld (pc_q := 9) (l_q := [(0, .ref 66), (1, .int (i32 (p))), (2, .int (i32 (k)))]) (st_q := [.int (i32 (k))]) rfl (jl_iloadn rfl) ?_
      refine jx_ar (pc_q := 10) (st_q := [.int (i32 (0)), .int (i32 (k))]) rfl rfl rfl rfl ?_
      refine jx_ld (pc_q := 11) (l_q := [(0, .ref 66), (1, .int (i32 (p))), (2, .int (i32 (k)))]) (st_q := [.ref 66, .int (i32 (0)), .int (i32 (k))]) rfl (jl_aloadn rfl) ?_
      refine jr_get (pc_q := 14) (i := 84) (v := .ref 121) rfl rfl (by decide) rfl rfl ?_
      refine jx_ld (pc_q := 15) (l_q := [(0, .ref 66), (1, .int (i32 (p))), (2, .int (i32 (k)))]) (st_q := [.int (i32 (p)), .ref 121, .int (i32 (0)), .int (i32 (k))]) rfl (jl_iloadn rfl) ?_
      refine jx_ar (pc_q := 16) (st_q := [.int (i32 (0)), .int (i32 (p)), .ref 121, .int (i32 (0)), .int (i32 (k))]) rfl rfl rfl rfl ?_
      refine jx_ar (pc_q := 17) (st_q := [.int (i32 (5)), .int (i32 (0)), .int (i32 (p)), .ref 121, .int (i32 (0)), .int (i32 (k))]) rfl rfl rfl rfl ?_
      refine jx_st (pc_q := 20) (as := [.int (i32 (p)), .int (i32 (0)), .int (i32 (5))]) (st := [.ref 121, .int (i32 (0)), .int (i32 (k))]) rfl rfl ⟨rfl, Nat.le_of_ble_eq_true rfl⟩ rfl rfl rfl (c_in (dd := d) (hd := by omega) (v := p) (a := 0) (b := 5)   (h_v := ⟨(Int.le_trans (by decide : (-2147483648 : Int) ≤ -2147483648) h_p.1), (Int.le_trans h_p.2 (by decide : (2147483647 : Int) ≤ 2147483647))⟩) (h_a := ⟨(by decide), (by decide)⟩) (h_b := ⟨(by decide), (by decide)⟩)  ) (fun o V_q hq => ?_)
      obtain ⟨r9, rfl, rfl, b10, q11⟩ := hq
      refine .inr ⟨_, rfl, ?_⟩
      rcases q11 with ⟨rfl, a12, a13⟩ | ⟨rfl, a14⟩
      · have _q : True := trivial
        refine jx_if_eq (pc_q := 23) (tg := 27) rfl rfl rfl (by decide) (by decide) (fun h15 => ?_) (fun h15 => ?_)
        · have _q := h15
          exact absurd h15 (by omega)
        · have _q := h15
          refine jx_ld (pc_q := 24) (l_q := [(0, .ref 66), (1, .int (i32 (p))), (2, .int (i32 (k)))]) (st_q := [.int (i32 (p)), .ref 121, .int (i32 (0)), .int (i32 (k))]) rfl (jl_iloadn rfl) ?_
          refine jx_go (tg := 28) rfl rfl ?_
          refine jr_ldv (pc_q := 29) (i := 54) (m := 6) (z := p) (y := cs) rfl (by decide) rfl (by decide) (by omega) (by omega) rfl (show A 54 (p).toNat = cs from (e_cs)) ?_
          refine jx_ar (pc_q := 30) (st_q := [.int (i32 (1)), .int (i32 (cs)), .int (i32 (0)), .int (i32 (k))]) rfl rfl rfl rfl ?_
          refine jx_sub (pc_q := 31) rfl rfl ?_
          refine jx_st (pc_q := 34) (as := [.int (i32 (k)), .int (i32 (0)), .int (i32 ((cs - 1)))]) (st := []) rfl rfl ⟨rfl, Nat.le_of_ble_eq_true rfl⟩ rfl rfl rfl (c_in (dd := d) (hd := by omega) (v := k) (a := 0) (b := (cs - 1))   (h_v := ⟨(Int.le_trans (by decide : (-2147483648 : Int) ≤ -2147483648) h_k.1), (Int.le_trans h_k.2 (by decide : (2147483647 : Int) ≤ 2147483647))⟩) (h_a := ⟨(by decide), (by decide)⟩) (h_b := ⟨(by omega), (by omega)⟩)  ) (fun o V_q hq => ?_)
          obtain ⟨r16, rfl, rfl, b17, q18⟩ := hq
          refine .inr ⟨_, rfl, ?_⟩
          rcases q18 with ⟨rfl, a19, a20⟩ | ⟨rfl, a21⟩
          · have _q : True := trivial
            refine jx_if_eq (pc_q := 37) (tg := 41) rfl rfl rfl (by decide) (by decide) (fun h22 => ?_) (fun h22 => ?_)
            · have _q := h22
              exact absurd h22 (by omega)
            · have _q := h22
              refine jx_ar (pc_q := 38) (st_q := [.int (i32 (1))]) rfl rfl rfl rfl ?_
              refine jx_go (tg := 42) rfl rfl ?_
              refine jx_rt (v := some (.int (i32 (1)))) rfl rfl rfl rfl rfl (by first | rfl | exact jRet_b (by omega)) ?_
              exact ⟨_, rfl, rfl, by omega, by first | exact Or.inl (⟨by omega, by omega, by omega, by omega, by omega, by omega⟩) | exact Or.inr ((⟨by omega, by omega⟩))⟩
          · have _q : True := trivial
            refine jx_if_eq (pc_q := 37) (tg := 41) rfl rfl rfl (by decide) (by decide) (fun h23 => ?_) (fun h23 => ?_)
            · have _q := h23
              refine jx_ar (pc_q := 42) (st_q := [.int (i32 (0))]) rfl rfl rfl rfl ?_
              refine jx_rt (v := some (.int (i32 (0)))) rfl rfl rfl rfl rfl (by first | rfl | exact jRet_b (by omega)) ?_
              exact ⟨_, rfl, rfl, by omega, by first | exact Or.inl (⟨by omega, by omega, by omega, by omega, by omega, by omega⟩) | exact Or.inr ((⟨by omega, by omega⟩))⟩
            · have _q := h23
              exact absurd h23 (by omega)
      · have _q : True := trivial
        refine jx_if_eq (pc_q := 23) (tg := 27) rfl rfl rfl (by decide) (by decide) (fun h24 => ?_) (fun h24 => ?_)
        · have _q := h24
          refine jx_ar (pc_q := 28) (st_q := [.int (i32 (0)), .ref 121, .int (i32 (0)), .int (i32 (k))]) rfl rfl rfl rfl ?_
          have b25 : (-2147483648 : Int) ≤ A 54 ((0 : Int)).toNat ∧ A 54 ((0 : Int)).toNat ≤ 2147483647 := hW.2 54 _
          refine jr_ldv (pc_q := 29) (i := 54) (m := 6) (z := (0 : Int)) (y := A 54 ((0 : Int)).toNat) rfl (by decide) rfl (by decide) (by omega) (by omega) rfl (show A 54 ((0 : Int)).toNat = A 54 ((0 : Int)).toNat from rfl) ?_
          refine jx_ar (pc_q := 30) (st_q := [.int (i32 (1)), .int (i32 (A 54 ((0 : Int)).toNat)), .int (i32 (0)), .int (i32 (k))]) rfl rfl rfl rfl ?_
          refine jx_sub (pc_q := 31) rfl rfl ?_
          refine jx_st (pc_q := 34) (as := [.int (i32 (k)), .int (i32 (0)), .int (i32 ((A 54 ((0 : Int)).toNat - 1)))]) (st := []) rfl rfl ⟨rfl, Nat.le_of_ble_eq_true rfl⟩ rfl rfl rfl (c_in (dd := d) (hd := by omega) (v := k) (a := 0) (b := (A 54 ((0 : Int)).toNat - 1))   (h_v := ⟨(Int.le_trans (by decide : (-2147483648 : Int) ≤ -2147483648) h_k.1), (Int.le_trans h_k.2 (by decide : (2147483647 : Int) ≤ 2147483647))⟩) (h_a := ⟨(by decide), (by decide)⟩) (h_b := ⟨(by omega), (by omega)⟩)  ) (fun o V_q hq => ?_)
          obtain ⟨r26, rfl, rfl, b27, q28⟩ := hq
          refine .inr ⟨_, rfl, ?_⟩
          rcases q28 with ⟨rfl, a29, a30⟩ | ⟨rfl, a31⟩
          · have _q : True := trivial
            refine jx_if_eq (pc_q := 37) (tg := 41) rfl rfl rfl (by decide) (by decide) (fun h32 => ?_) (fun h32 => ?_)
            · have _q := h32
              exact absurd h32 (by omega)
            · have _q := h32
              refine jx_ar (pc_q := 38) (st_q := [.int (i32 (1))]) rfl rfl rfl rfl ?_
              refine jx_go (tg := 42) rfl rfl ?_
              refine jx_rt (v := some (.int (i32 (1)))) rfl rfl rfl rfl rfl (by first | rfl | exact jRet_b (by omega)) ?_
              exact ⟨_, rfl, rfl, by omega, by first | exact Or.inl (⟨by omega, by omega, by omega, by omega, by omega, by omega⟩) | exact Or.inr ((⟨by omega, by omega⟩))⟩
          · have _q : True := trivial
            refine jx_if_eq (pc_q := 37) (tg := 41) rfl rfl rfl (by decide) (by decide) (fun h33 => ?_) (fun h33 => ?_)
            · have _q := h33
              refine jx_ar (pc_q := 42) (st_q := [.int (i32 (0))]) rfl rfl rfl rfl ?_
              refine jx_rt (v := some (.int (i32 (0)))) rfl rfl rfl rfl rfl (by first | rfl | exact jRet_b (by omega)) ?_
              exact ⟨_, rfl, rfl, by omega, by first | exact Or.inl (⟨by omega, by omega, by omega, by omega, by omega, by omega⟩) | exact Or.inr ((⟨by omega, by omega⟩))⟩
            · have _q := h33
              exact absurd h33 (by omega)
        · have _q := h24
          exact absurd h24 (by omega)
  · have _q : True := trivial
    refine jx_if_eq (pc_q := 8) (tg := 41) rfl rfl rfl (by decide) (by decide) (fun h34 => ?_) (fun h34 => ?_)
    · have _q := h34
      refine jx_ar (pc_q := 42) (st_q := [.int (i32 (0))]) rfl rfl rfl rfl ?_
      refine jx_rt (v := some (.int (i32 (0)))) rfl rfl rfl rfl rfl (by first | rfl | exact jRet_b (by omega)) ?_
      exact ⟨_, rfl, rfl, by omega, by first | exact Or.inl (⟨by omega, by omega, by omega, by omega, by omega, by omega⟩) | exact Or.inr ((⟨by omega, by omega⟩))⟩
    · have _q := h34
      exact absurd h34 (by omega)
set_option maxRecDepth 20000 in
set_option maxHeartbeats 4000000 in
theorem c_processor_at_70 {X : jX} {d : Nat} {c0 c1 : jC} {G : Nat → Int} {A : Nat → Nat → Int} {T : jH} {p w : Int} {pg bp : Int} (hd : 3 ≤ d + 1) (hW : Wk G A) (e_pg : G 58 = pg) (e_bp : A 36 (p).toNat = bp) (h_p : (-2147483648 : Int) ≤ p ∧ p ≤ 2147483647) (h_w : (-2147483648 : Int) ≤ w ∧ w ≤ 2147483647) : ∀ (L : jL) (Gx : Nat → Int) (Ax : Nat → Nat → Int), jGet L 0 = some (.ref 66) → jGet L 1 = some (.int (i32 (p))) → jGet L 2 = some (.int (i32 (w))) → Wk Gx Ax → Fr [0] [] G A Gx Ax → (0 ≤ p) → (p ≤ 5) → wj X d jm403 (70, L, [], rV c0 c1 Gx Ax T) (fun o V_q => ∃ (G_q : Nat → Int) (A_q : Nat → Nat → Int) (r : Int), V_q = rV c0 c1 G_q A_q T ∧ o = .inl (some (.int (i32 r))) ∧ Wk G_q A_q ∧ Fr [0] [] G A G_q A_q ∧ ((-2147483648 : Int) ≤ r ∧ r ≤ 2147483647) ∧ True) := by
  have hF0 : Fr [0] [] G A G A := Fr_rf
  have b_pg : (0 : Int) ≤ pg ∧ pg ≤ 1 := e_pg ▸ hW.1 58
  have b_bp : (-2147483648 : Int) ≤ bp ∧ bp ≤ 2147483647 := e_bp ▸ hW.2 36 _
  intro L Gx Ax gL_0 gL_1 gL_2 hWx hFx iv_0 iv_1
  refine jx_ld (pc_q := 71) (l_q := L) (st_q := [.int (i32 (w))]) rfl (jl_iloadn gL_2) ?_
  rcases (by omega : w = 0 ∨ w = 1 ∨ w = 2 ∨ (w < 0 ∨ 2 < w)) with h1 | h1 | h1 | h1
  · refine jx_swe (z := 0) (tg := 96) h1 rfl rfl rfl rfl ?_
    refine jx_ld (pc_q := 97) (l_q := L) (st_q := [.ref 66]) rfl (jl_aloadn gL_0) ?_
    refine jr_get (pc_q := 100) (i := 84) (v := .ref 121) rfl rfl (by decide) rfl rfl ?_
    refine jx_ld (pc_q := 101) (l_q := L) (st_q := [.int (i32 (p)), .ref 121]) rfl (jl_iloadn gL_1) ?_
    have b2 : (-2147483648 : Int) ≤ A 54 (p).toNat ∧ A 54 (p).toNat ≤ 2147483647 := hW.2 54 _
    refine jr_ldv (pc_q := 102) (i := 54) (m := 6) (z := p) (y := A 54 (p).toNat) rfl (by decide) rfl (by decide) (by omega) (by omega) rfl (show Ax 54 (p).toNat = A 54 (p).toNat from (congrFun (hFx.2 54 rfl) _)) ?_
    refine jx_rt (v := some (.int (i32 (A 54 (p).toNat)))) rfl rfl rfl rfl rfl rfl ?_
    exact ⟨_, _, _, rfl, rfl, hWx, hFx, by omega, trivial⟩
  · refine jx_swe (z := 1) (tg := 103) h1 rfl rfl rfl rfl ?_
    refine jx_ld (pc_q := 104) (l_q := L) (st_q := [.ref 66]) rfl (jl_aloadn gL_0) ?_
    refine jr_get (pc_q := 107) (i := 56) (v := .ref 104) rfl rfl (by decide) rfl rfl ?_
    refine jx_ld (pc_q := 108) (l_q := L) (st_q := [.int (i32 (p)), .ref 104]) rfl (jl_iloadn gL_1) ?_
    have b3 : (-2147483648 : Int) ≤ A 37 (p).toNat ∧ A 37 (p).toNat ≤ 2147483647 := hW.2 37 _
    refine jr_ldv (pc_q := 109) (i := 37) (m := 6) (z := p) (y := A 37 (p).toNat) rfl (by decide) rfl (by decide) (by omega) (by omega) rfl (show Ax 37 (p).toNat = A 37 (p).toNat from (congrFun (hFx.2 37 rfl) _)) ?_
    refine jx_ld (pc_q := 110) (l_q := L) (st_q := [.ref 66, .int (i32 (A 37 (p).toNat))]) rfl (jl_aloadn gL_0) ?_
    refine jr_get (pc_q := 113) (i := 57) (v := .ref 105) rfl rfl (by decide) rfl rfl ?_
    refine jx_ld (pc_q := 114) (l_q := L) (st_q := [.int (i32 (p)), .ref 105, .int (i32 (A 37 (p).toNat))]) rfl (jl_iloadn gL_1) ?_
    have b4 : (-2147483648 : Int) ≤ A 38 (p).toNat ∧ A 38 (p).toNat ≤ 2147483647 := hW.2 38 _
    refine jr_ldv (pc_q := 115) (i := 38) (m := 6) (z := p) (y := A 38 (p).toNat) rfl (by decide) rfl (by decide) (by omega) (by omega) rfl (show Ax 38 (p).toNat = A 38 (p).toNat from (congrFun (hFx.2 38 rfl) _)) ?_
    refine jx_add (pc_q := 116) rfl rfl ?_
    obtain ⟨v5, ev5⟩ : ∃ z, z = (i32 (A 37 (p).toNat + A 38 (p).toNat)).toInt := ⟨_, rfl⟩; have fv5 : i32 (A 37 (p).toNat + A 38 (p).toNat) = i32 v5 := (by rw [ev5]; exact (i32_of _).symm); rw [fv5]; have rv5 : (-2147483648 : Int) ≤ v5 ∧ v5 ≤ 2147483647 := ev5 ▸ i32_rg _
    refine jx_ar (pc_q := 117) (st_q := [.int (i32 (3)), .int (i32 (v5))]) rfl rfl rfl rfl ?_
    refine jx_add (pc_q := 118) rfl rfl ?_
    obtain ⟨v6, ev6⟩ : ∃ z, z = (i32 (v5 + 3)).toInt := ⟨_, rfl⟩; have fv6 : i32 (v5 + 3) = i32 v6 := (by rw [ev6]; exact (i32_of _).symm); rw [fv6]; have rv6 : (-2147483648 : Int) ≤ v6 ∧ v6 ≤ 2147483647 := ev6 ▸ i32_rg _
    refine jx_rt (v := some (.int (i32 (v6)))) rfl rfl rfl rfl rfl rfl ?_
    exact ⟨_, _, _, rfl, rfl, hWx, hFx, by omega, trivial⟩
  · refine jx_swe (z := 2) (tg := 119) h1 rfl rfl rfl rfl ?_
    refine jx_ld (pc_q := 120) (l_q := L) (st_q := [.ref 66]) rfl (jl_aloadn gL_0) ?_
    refine jr_get (pc_q := 123) (i := 85) (v := .ref 122) rfl rfl (by decide) rfl rfl ?_
    refine jx_ld (pc_q := 124) (l_q := L) (st_q := [.int (i32 (p)), .ref 122]) rfl (jl_iloadn gL_1) ?_
    have b7 : (-2147483648 : Int) ≤ A 55 (p).toNat ∧ A 55 (p).toNat ≤ 2147483647 := hW.2 55 _
    refine jr_ldv (pc_q := 125) (i := 55) (m := 6) (z := p) (y := A 55 (p).toNat) rfl (by decide) rfl (by decide) (by omega) (by omega) rfl (show Ax 55 (p).toNat = A 55 (p).toNat from (congrFun (hFx.2 55 rfl) _)) ?_
    refine jx_rt (v := some (.int (i32 (A 55 (p).toNat)))) rfl rfl rfl rfl rfl rfl ?_
    exact ⟨_, _, _, rfl, rfl, hWx, hFx, by omega, trivial⟩
  · refine jx_swt (tg := 126) (by omega) (by omega) rfl h1 rfl ?_
    refine jx_ar (pc_q := 128) (st_q := [.int (i32 (16))]) rfl rfl rfl rfl ?_
    refine jx_ld (pc_q := 129) (l_q := L) (st_q := [.ref 66, .int (i32 (16))]) rfl (jl_aloadn gL_0) ?_
    refine jr_get (pc_q := 132) (i := 57) (v := .ref 105) rfl rfl (by decide) rfl rfl ?_
    refine jx_ld (pc_q := 133) (l_q := L) (st_q := [.int (i32 (p)), .ref 105, .int (i32 (16))]) rfl (jl_iloadn gL_1) ?_
    have b8 : (-2147483648 : Int) ≤ A 38 (p).toNat ∧ A 38 (p).toNat ≤ 2147483647 := hW.2 38 _
    refine jr_ldv (pc_q := 134) (i := 38) (m := 6) (z := p) (y := A 38 (p).toNat) rfl (by decide) rfl (by decide) (by omega) (by omega) rfl (show Ax 38 (p).toNat = A 38 (p).toNat from (congrFun (hFx.2 38 rfl) _)) ?_
    refine jx_add (pc_q := 135) rfl rfl ?_
    obtain ⟨v9, ev9⟩ : ∃ z, z = (i32 (16 + A 38 (p).toNat)).toInt := ⟨_, rfl⟩; have fv9 : i32 (16 + A 38 (p).toNat) = i32 v9 := (by rw [ev9]; exact (i32_of _).symm); rw [fv9]; have rv9 : (-2147483648 : Int) ≤ v9 ∧ v9 ≤ 2147483647 := ev9 ▸ i32_rg _
    refine jx_ar (pc_q := 136) (st_q := [.int (i32 (3)), .int (i32 (v9))]) rfl rfl rfl rfl ?_
    refine jx_add (pc_q := 137) rfl rfl ?_
    obtain ⟨v10, ev10⟩ : ∃ z, z = (i32 (v9 + 3)).toInt := ⟨_, rfl⟩; have fv10 : i32 (v9 + 3) = i32 v10 := (by rw [ev10]; exact (i32_of _).symm); rw [fv10]; have rv10 : (-2147483648 : Int) ≤ v10 ∧ v10 ≤ 2147483647 := ev10 ▸ i32_rg _
    refine jx_rt (v := some (.int (i32 (v10)))) rfl rfl rfl rfl rfl rfl ?_
    exact ⟨_, _, _, rfl, rfl, hWx, hFx, by omega, trivial⟩
set_option maxRecDepth 20000 in
set_option maxHeartbeats 4000000 in
theorem c_processor {X : jX} {dd : Nat} {c0 c1 : jC} {G : Nat → Int} {A : Nat → Nat → Int} {T : jH} {p w : Int} {pg bp : Int} (hd : 3 ≤ dd) (hW : Wk G A) (e_pg : G 58 = pg) (e_bp : A 36 (p).toNat = bp) (h_p : (-2147483648 : Int) ≤ p ∧ p ≤ 2147483647) (h_w : (-2147483648 : Int) ≤ w ∧ w ≤ 2147483647) : wk X dd 403 [.ref 66, .int (i32 p), .int (i32 w)] (rV c0 c1 G A T) (fun o V_q => ∃ (G_q : Nat → Int) (A_q : Nat → Nat → Int) (r : Int), V_q = rV c0 c1 G_q A_q T ∧ o = .inl (some (.int (i32 r))) ∧ Wk G_q A_q ∧ Fr [0] [] G A G_q A_q ∧ ((-2147483648 : Int) ≤ r ∧ r ≤ 2147483647) ∧ True) := by
  obtain ⟨d, rfl⟩ : ∃ d, dd = d + 1 := ⟨dd - 1, by omega⟩
  refine wk_of (e := jm403) rfl (Nat.le_of_ble_eq_true rfl) ?_
  show wj X d jm403 (0, [(0, .ref 66), (1, .int (i32 (p))), (2, .int (i32 (w)))], [], rV c0 c1 G A T) _
  have hF0 : Fr [0] [] G A G A := Fr_rf
  have b_pg : (0 : Int) ≤ pg ∧ pg ≤ 1 := e_pg ▸ hW.1 58
  have b_bp : (-2147483648 : Int) ≤ bp ∧ bp ≤ 2147483647 := e_bp ▸ hW.2 36 _
  refine jx_ld (pc_q := 1) (l_q := [(0, .ref 66), (1, .int (i32 (p))), (2, .int (i32 (w)))]) (st_q := [.ref 66]) rfl (jl_aloadn rfl) ?_
  refine jx_ld (pc_q := 2) (l_q := [(0, .ref 66), (1, .int (i32 (p))), (2, .int (i32 (w)))]) (st_q := [.ref 66, .ref 66]) rfl (jl_aloadn rfl) ?_
  refine jr_get (pc_q := 5) (i := 58) (v := .int (i32 (pg))) rfl rfl (by decide) (rFv_eq (by decide) (show G 58 = pg from (e_pg))) rfl ?_
  refine jx_if_ne (pc_q := 8) (tg := 12) rfl rfl rfl (Int.le_trans (by decide : (-2147483648 : Int) ≤ 0) b_pg.1) (Int.le_trans b_pg.2 (by decide : (1 : Int) ≤ 2147483647)) (fun h11 => ?_) (fun h11 => ?_)
  · have _q := h11
    refine jx_ar (pc_q := 13) (st_q := [.int (i32 (0)), .ref 66]) rfl rfl rfl rfl ?_
    refine jx_ld (pc_q := 14) (l_q := [(0, .ref 66), (1, .int (i32 (p))), (2, .int (i32 (w)))]) (st_q := [.ref 66, .int (i32 (0)), .ref 66]) rfl (jl_aloadn rfl) ?_
    refine jr_get (pc_q := 17) (i := 58) (v := .int (i32 (pg))) rfl rfl (by decide) (rFv_eq (by decide) (show G 58 = pg from (e_pg))) rfl ?_
    refine jx_if_eq (pc_q := 20) (tg := 32) rfl rfl rfl (Int.le_trans (by decide : (-2147483648 : Int) ≤ 0) b_pg.1) (Int.le_trans b_pg.2 (by decide : (1 : Int) ≤ 2147483647)) (fun h12 => ?_) (fun h12 => ?_)
    · have _q := h12
      refine jx_ar (pc_q := 33) (st_q := [.int (i32 (0)), .int (i32 (0)), .ref 66]) rfl rfl rfl rfl ?_
      refine jx_ld (pc_q := 34) (l_q := [(0, .ref 66), (1, .int (i32 (p))), (2, .int (i32 (w)))]) (st_q := [.ref 66, .int (i32 (0)), .int (i32 (0)), .ref 66]) rfl (jl_aloadn rfl) ?_
      refine jr_get (pc_q := 37) (i := 58) (v := .int (i32 (pg))) rfl rfl (by decide) (rFv_eq (by decide) (show G 58 = pg from (e_pg))) rfl ?_
      refine jx_if_eq (pc_q := 40) (tg := 61) rfl rfl rfl (Int.le_trans (by decide : (-2147483648 : Int) ≤ 0) b_pg.1) (Int.le_trans b_pg.2 (by decide : (1 : Int) ≤ 2147483647)) (fun h13 => ?_) (fun h13 => ?_)
      · have _q := h13
        refine jx_ar (pc_q := 62) (st_q := [.int (i32 (0)), .int (i32 (0)), .int (i32 (0)), .ref 66]) rfl rfl rfl rfl ?_
        refine jx_vr (pc_q := 65) (as := [.int (i32 (0)), .int (i32 (0)), .int (i32 (0))]) (st := []) rfl rfl rfl rfl ⟨rfl, rfl, Nat.le_of_ble_eq_true rfl⟩ rfl rfl (c_refuse (dd := d) (hd := by omega) (hW := hW) (a := 0) (b := 0) (c := 0)   (h_a := ⟨(by decide), (by decide)⟩) (h_b := ⟨(by decide), (by decide)⟩) (h_c := ⟨(by decide), (by decide)⟩)  ) (fun o V_q hq => ?_)
        obtain ⟨G14, A15, r16, th2_17, rfl, rfl, hW18, hF19, b20, e21, q22⟩ := hq
        have hF23 := Fr_tr hF0 hF19 (Fr_sub (by decide)) (Fr_sub (by decide))
        have bth2_17 : (0 : Int) ≤ th2_17 ∧ th2_17 ≤ 4 := e21 ▸ hW18.1 0
        refine .inr ⟨_, rfl, ?_⟩
        rcases q22 with ⟨rfl, a24, a25⟩ | ⟨rfl, a26, a27, a28⟩ | ⟨rfl, a29, a30, a31, a32⟩ | ⟨rfl, a33, a34, a35, a36⟩
        · have _q : True := trivial
          exfalso
          omega
        · have _q : True := trivial
          exfalso
          omega
        · have _q : True := trivial
          exfalso
          omega
        · have _q : True := trivial
          refine jx_if_eq (pc_q := 68) (tg := 70) rfl rfl rfl (by decide) (by decide) (fun h37 => ?_) (fun h37 => ?_)
          · have _q := h37
            exact c_processor_at_70 (X := X) (d := d) (c0 := c0) (c1 := c1) (G := G) (A := A) (T := T) (p := p) (w := w) (pg := pg) (bp := bp) (hd := hd) (hW := hW) (e_pg := e_pg) (e_bp := e_bp) (h_p := h_p) (h_w := h_w) [(0, .ref 66), (1, .int (i32 (p))), (2, .int (i32 (w)))] G14 A15 rfl rfl rfl hW18 hF23 (by omega) (by omega)
          · have _q := h37
            exact absurd h37 (by omega)
      · have _q := h13
        refine jx_ld (pc_q := 41) (l_q := [(0, .ref 66), (1, .int (i32 (p))), (2, .int (i32 (w)))]) (st_q := [.ref 66, .int (i32 (0)), .int (i32 (0)), .ref 66]) rfl (jl_aloadn rfl) ?_
        refine jx_ld (pc_q := 42) (l_q := [(0, .ref 66), (1, .int (i32 (p))), (2, .int (i32 (w)))]) (st_q := [.int (i32 (p)), .ref 66, .int (i32 (0)), .int (i32 (0)), .ref 66]) rfl (jl_iloadn rfl) ?_
        refine jx_vr (pc_q := 45) (as := [.int (i32 (p))]) (st := [.int (i32 (0)), .int (i32 (0)), .ref 66]) rfl rfl rfl rfl ⟨rfl, rfl, Nat.le_of_ble_eq_true rfl⟩ rfl rfl (c_isCore2 (dd := d) (hd := by omega) (hW := hW) (p := p) (bp := bp) (e_bp := show A 36 (p).toNat = bp from (e_bp))  (h_p := ⟨(Int.le_trans (by decide : (-2147483648 : Int) ≤ -2147483648) h_p.1), (Int.le_trans h_p.2 (by decide : (2147483647 : Int) ≤ 2147483647))⟩)  ) (fun o V_q hq => ?_)
        obtain ⟨r38, rfl, rfl, b39, q40⟩ := hq
        refine .inr ⟨_, rfl, ?_⟩
        rcases q40 with ⟨rfl, a41, a42, a43⟩ | ⟨rfl, a44⟩
        · have _q : True := trivial
          refine jx_if_eq (pc_q := 48) (tg := 61) rfl rfl rfl (by decide) (by decide) (fun h45 => ?_) (fun h45 => ?_)
          · have _q := h45
            exact absurd h45 (by omega)
          · have _q := h45
            refine jx_ld (pc_q := 49) (l_q := [(0, .ref 66), (1, .int (i32 (p))), (2, .int (i32 (w)))]) (st_q := [.int (i32 (w)), .int (i32 (0)), .int (i32 (0)), .ref 66]) rfl (jl_iloadn rfl) ?_
            refine jx_ar (pc_q := 50) (st_q := [.int (i32 (0)), .int (i32 (w)), .int (i32 (0)), .int (i32 (0)), .ref 66]) rfl rfl rfl rfl ?_
            refine jx_ar (pc_q := 51) (st_q := [.int (i32 (3)), .int (i32 (0)), .int (i32 (w)), .int (i32 (0)), .int (i32 (0)), .ref 66]) rfl rfl rfl rfl ?_
            refine jx_st (pc_q := 54) (as := [.int (i32 (w)), .int (i32 (0)), .int (i32 (3))]) (st := [.int (i32 (0)), .int (i32 (0)), .ref 66]) rfl rfl ⟨rfl, Nat.le_of_ble_eq_true rfl⟩ rfl rfl rfl (c_in (dd := d) (hd := by omega) (v := w) (a := 0) (b := 3)   (h_v := ⟨(Int.le_trans (by decide : (-2147483648 : Int) ≤ -2147483648) h_w.1), (Int.le_trans h_w.2 (by decide : (2147483647 : Int) ≤ 2147483647))⟩) (h_a := ⟨(by decide), (by decide)⟩) (h_b := ⟨(by decide), (by decide)⟩)  ) (fun o V_q hq => ?_)
            obtain ⟨r46, rfl, rfl, b47, q48⟩ := hq
            refine .inr ⟨_, rfl, ?_⟩
            rcases q48 with ⟨rfl, a49, a50⟩ | ⟨rfl, a51⟩
            · have _q : True := trivial
              refine jx_if_ne (pc_q := 57) (tg := 61) rfl rfl rfl (by decide) (by decide) (fun h52 => ?_) (fun h52 => ?_)
              · have _q := h52
                refine jx_ar (pc_q := 62) (st_q := [.int (i32 (0)), .int (i32 (0)), .int (i32 (0)), .ref 66]) rfl rfl rfl rfl ?_
                refine jx_vr (pc_q := 65) (as := [.int (i32 (0)), .int (i32 (0)), .int (i32 (0))]) (st := []) rfl rfl rfl rfl ⟨rfl, rfl, Nat.le_of_ble_eq_true rfl⟩ rfl rfl (c_refuse (dd := d) (hd := by omega) (hW := hW) (a := 0) (b := 0) (c := 0)   (h_a := ⟨(by decide), (by decide)⟩) (h_b := ⟨(by decide), (by decide)⟩) (h_c := ⟨(by decide), (by decide)⟩)  ) (fun o V_q hq => ?_)
                obtain ⟨G53, A54, r55, th2_56, rfl, rfl, hW57, hF58, b59, e60, q61⟩ := hq
                have hF62 := Fr_tr hF0 hF58 (Fr_sub (by decide)) (Fr_sub (by decide))
                have bth2_56 : (0 : Int) ≤ th2_56 ∧ th2_56 ≤ 4 := e60 ▸ hW57.1 0
                refine .inr ⟨_, rfl, ?_⟩
                rcases q61 with ⟨rfl, a63, a64⟩ | ⟨rfl, a65, a66, a67⟩ | ⟨rfl, a68, a69, a70, a71⟩ | ⟨rfl, a72, a73, a74, a75⟩
                · have _q : True := trivial
                  exfalso
                  omega
                · have _q : True := trivial
                  exfalso
                  omega
                · have _q : True := trivial
                  exfalso
                  omega
                · have _q : True := trivial
                  refine jx_if_eq (pc_q := 68) (tg := 70) rfl rfl rfl (by decide) (by decide) (fun h76 => ?_) (fun h76 => ?_)
                  · have _q := h76
                    exact c_processor_at_70 (X := X) (d := d) (c0 := c0) (c1 := c1) (G := G) (A := A) (T := T) (p := p) (w := w) (pg := pg) (bp := bp) (hd := hd) (hW := hW) (e_pg := e_pg) (e_bp := e_bp) (h_p := h_p) (h_w := h_w) [(0, .ref 66), (1, .int (i32 (p))), (2, .int (i32 (w)))] G53 A54 rfl rfl rfl hW57 hF62 (by omega) (by omega)
                  · have _q := h76
                    exact absurd h76 (by omega)
              · have _q := h52
                exact absurd h52 (by omega)
            · have _q : True := trivial
              refine jx_if_ne (pc_q := 57) (tg := 61) rfl rfl rfl (by decide) (by decide) (fun h77 => ?_) (fun h77 => ?_)
              · have _q := h77
                exact absurd h77 (by omega)
              · have _q := h77
                refine jx_ar (pc_q := 58) (st_q := [.int (i32 (1)), .int (i32 (0)), .int (i32 (0)), .ref 66]) rfl rfl rfl rfl ?_
                refine jx_go (tg := 62) rfl rfl ?_
                refine jx_vr (pc_q := 65) (as := [.int (i32 (0)), .int (i32 (0)), .int (i32 (1))]) (st := []) rfl rfl rfl rfl ⟨rfl, rfl, Nat.le_of_ble_eq_true rfl⟩ rfl rfl (c_refuse (dd := d) (hd := by omega) (hW := hW) (a := 0) (b := 0) (c := 1)   (h_a := ⟨(by decide), (by decide)⟩) (h_b := ⟨(by decide), (by decide)⟩) (h_c := ⟨(by decide), (by decide)⟩)  ) (fun o V_q hq => ?_)
                obtain ⟨G78, A79, r80, th2_81, rfl, rfl, hW82, hF83, b84, e85, q86⟩ := hq
                have hF87 := Fr_tr hF0 hF83 (Fr_sub (by decide)) (Fr_sub (by decide))
                have bth2_81 : (0 : Int) ≤ th2_81 ∧ th2_81 ≤ 4 := e85 ▸ hW82.1 0
                refine .inr ⟨_, rfl, ?_⟩
                rcases q86 with ⟨rfl, a88, a89⟩ | ⟨rfl, a90, a91, a92⟩ | ⟨rfl, a93, a94, a95, a96⟩ | ⟨rfl, a97, a98, a99, a100⟩
                · have _q : True := trivial
                  exfalso
                  omega
                · have _q : True := trivial
                  exfalso
                  omega
                · have _q : True := trivial
                  refine jx_if_eq (pc_q := 68) (tg := 70) rfl rfl rfl (by decide) (by decide) (fun h101 => ?_) (fun h101 => ?_)
                  · have _q := h101
                    exact absurd h101 (by omega)
                  · have _q := h101
                    refine jx_ar (pc_q := 69) (st_q := [.int (i32 (0))]) rfl rfl rfl rfl ?_
                    refine jx_rt (v := some (.int (i32 (0)))) rfl rfl rfl rfl rfl rfl ?_
                    exact ⟨_, _, _, rfl, rfl, hW82, hF87, by omega, trivial⟩
                · have _q : True := trivial
                  exfalso
                  omega
        · have _q : True := trivial
          refine jx_if_eq (pc_q := 48) (tg := 61) rfl rfl rfl (by decide) (by decide) (fun h102 => ?_) (fun h102 => ?_)
          · have _q := h102
            refine jx_ar (pc_q := 62) (st_q := [.int (i32 (0)), .int (i32 (0)), .int (i32 (0)), .ref 66]) rfl rfl rfl rfl ?_
            refine jx_vr (pc_q := 65) (as := [.int (i32 (0)), .int (i32 (0)), .int (i32 (0))]) (st := []) rfl rfl rfl rfl ⟨rfl, rfl, Nat.le_of_ble_eq_true rfl⟩ rfl rfl (c_refuse (dd := d) (hd := by omega) (hW := hW) (a := 0) (b := 0) (c := 0)   (h_a := ⟨(by decide), (by decide)⟩) (h_b := ⟨(by decide), (by decide)⟩) (h_c := ⟨(by decide), (by decide)⟩)  ) (fun o V_q hq => ?_)
            obtain ⟨G103, A104, r105, th2_106, rfl, rfl, hW107, hF108, b109, e110, q111⟩ := hq
            have hF112 := Fr_tr hF0 hF108 (Fr_sub (by decide)) (Fr_sub (by decide))
            have bth2_106 : (0 : Int) ≤ th2_106 ∧ th2_106 ≤ 4 := e110 ▸ hW107.1 0
            refine .inr ⟨_, rfl, ?_⟩
            rcases q111 with ⟨rfl, a113, a114⟩ | ⟨rfl, a115, a116, a117⟩ | ⟨rfl, a118, a119, a120, a121⟩ | ⟨rfl, a122, a123, a124, a125⟩
            · have _q : True := trivial
              exfalso
              omega
            · have _q : True := trivial
              exfalso
              omega
            · have _q : True := trivial
              exfalso
              omega
            · have _q : True := trivial
              refine jx_if_eq (pc_q := 68) (tg := 70) rfl rfl rfl (by decide) (by decide) (fun h126 => ?_) (fun h126 => ?_)
              · have _q := h126
                exact c_processor_at_70 (X := X) (d := d) (c0 := c0) (c1 := c1) (G := G) (A := A) (T := T) (p := p) (w := w) (pg := pg) (bp := bp) (hd := hd) (hW := hW) (e_pg := e_pg) (e_bp := e_bp) (h_p := h_p) (h_w := h_w) [(0, .ref 66), (1, .int (i32 (p))), (2, .int (i32 (w)))] G103 A104 rfl rfl rfl hW107 hF112 (by omega) (by omega)
              · have _q := h126
                exact absurd h126 (by omega)
          · have _q := h102
            exact absurd h102 (by omega)
    · have _q := h12
      refine jx_ld (pc_q := 21) (l_q := [(0, .ref 66), (1, .int (i32 (p))), (2, .int (i32 (w)))]) (st_q := [.ref 66, .int (i32 (0)), .ref 66]) rfl (jl_aloadn rfl) ?_
      refine jx_ld (pc_q := 22) (l_q := [(0, .ref 66), (1, .int (i32 (p))), (2, .int (i32 (w)))]) (st_q := [.int (i32 (p)), .ref 66, .int (i32 (0)), .ref 66]) rfl (jl_iloadn rfl) ?_
      refine jx_vr (pc_q := 25) (as := [.int (i32 (p))]) (st := [.int (i32 (0)), .ref 66]) rfl rfl rfl rfl ⟨rfl, rfl, Nat.le_of_ble_eq_true rfl⟩ rfl rfl (c_isCore2 (dd := d) (hd := by omega) (hW := hW) (p := p) (bp := bp) (e_bp := show A 36 (p).toNat = bp from (e_bp))  (h_p := ⟨(Int.le_trans (by decide : (-2147483648 : Int) ≤ -2147483648) h_p.1), (Int.le_trans h_p.2 (by decide : (2147483647 : Int) ≤ 2147483647))⟩)  ) (fun o V_q hq => ?_)
      obtain ⟨r127, rfl, rfl, b128, q129⟩ := hq
      refine .inr ⟨_, rfl, ?_⟩
      rcases q129 with ⟨rfl, a130, a131, a132⟩ | ⟨rfl, a133⟩
      · have _q : True := trivial
        refine jx_if_ne (pc_q := 28) (tg := 32) rfl rfl rfl (by decide) (by decide) (fun h134 => ?_) (fun h134 => ?_)
        · have _q := h134
          refine jx_ar (pc_q := 33) (st_q := [.int (i32 (0)), .int (i32 (0)), .ref 66]) rfl rfl rfl rfl ?_
          refine jx_ld (pc_q := 34) (l_q := [(0, .ref 66), (1, .int (i32 (p))), (2, .int (i32 (w)))]) (st_q := [.ref 66, .int (i32 (0)), .int (i32 (0)), .ref 66]) rfl (jl_aloadn rfl) ?_
          refine jr_get (pc_q := 37) (i := 58) (v := .int (i32 (pg))) rfl rfl (by decide) (rFv_eq (by decide) (show G 58 = pg from (e_pg))) rfl ?_
          refine jx_if_eq (pc_q := 40) (tg := 61) rfl rfl rfl (Int.le_trans (by decide : (-2147483648 : Int) ≤ 0) b_pg.1) (Int.le_trans b_pg.2 (by decide : (1 : Int) ≤ 2147483647)) (fun h135 => ?_) (fun h135 => ?_)
          · have _q := h135
            refine jx_ar (pc_q := 62) (st_q := [.int (i32 (0)), .int (i32 (0)), .int (i32 (0)), .ref 66]) rfl rfl rfl rfl ?_
            refine jx_vr (pc_q := 65) (as := [.int (i32 (0)), .int (i32 (0)), .int (i32 (0))]) (st := []) rfl rfl rfl rfl ⟨rfl, rfl, Nat.le_of_ble_eq_true rfl⟩ rfl rfl (c_refuse (dd := d) (hd := by omega) (hW := hW) (a := 0) (b := 0) (c := 0)   (h_a := ⟨(by decide), (by decide)⟩) (h_b := ⟨(by decide), (by decide)⟩) (h_c := ⟨(by decide), (by decide)⟩)  ) (fun o V_q hq => ?_)
            obtain ⟨G136, A137, r138, th2_139, rfl, rfl, hW140, hF141, b142, e143, q144⟩ := hq
            have hF145 := Fr_tr hF0 hF141 (Fr_sub (by decide)) (Fr_sub (by decide))
            have bth2_139 : (0 : Int) ≤ th2_139 ∧ th2_139 ≤ 4 := e143 ▸ hW140.1 0
            refine .inr ⟨_, rfl, ?_⟩
            rcases q144 with ⟨rfl, a146, a147⟩ | ⟨rfl, a148, a149, a150⟩ | ⟨rfl, a151, a152, a153, a154⟩ | ⟨rfl, a155, a156, a157, a158⟩
            · have _q : True := trivial
              exfalso
              omega
            · have _q : True := trivial
              exfalso
              omega
            · have _q : True := trivial
              exfalso
              omega
            · have _q : True := trivial
              refine jx_if_eq (pc_q := 68) (tg := 70) rfl rfl rfl (by decide) (by decide) (fun h159 => ?_) (fun h159 => ?_)
              · have _q := h159
                exact c_processor_at_70 (X := X) (d := d) (c0 := c0) (c1 := c1) (G := G) (A := A) (T := T) (p := p) (w := w) (pg := pg) (bp := bp) (hd := hd) (hW := hW) (e_pg := e_pg) (e_bp := e_bp) (h_p := h_p) (h_w := h_w) [(0, .ref 66), (1, .int (i32 (p))), (2, .int (i32 (w)))] G136 A137 rfl rfl rfl hW140 hF145 (by omega) (by omega)
              · have _q := h159
                exact absurd h159 (by omega)
          · have _q := h135
            refine jx_ld (pc_q := 41) (l_q := [(0, .ref 66), (1, .int (i32 (p))), (2, .int (i32 (w)))]) (st_q := [.ref 66, .int (i32 (0)), .int (i32 (0)), .ref 66]) rfl (jl_aloadn rfl) ?_
            refine jx_ld (pc_q := 42) (l_q := [(0, .ref 66), (1, .int (i32 (p))), (2, .int (i32 (w)))]) (st_q := [.int (i32 (p)), .ref 66, .int (i32 (0)), .int (i32 (0)), .ref 66]) rfl (jl_iloadn rfl) ?_
            refine jx_vr (pc_q := 45) (as := [.int (i32 (p))]) (st := [.int (i32 (0)), .int (i32 (0)), .ref 66]) rfl rfl rfl rfl ⟨rfl, rfl, Nat.le_of_ble_eq_true rfl⟩ rfl rfl (c_isCore2 (dd := d) (hd := by omega) (hW := hW) (p := p) (bp := bp) (e_bp := show A 36 (p).toNat = bp from (e_bp))  (h_p := ⟨(Int.le_trans (by decide : (-2147483648 : Int) ≤ -2147483648) h_p.1), (Int.le_trans h_p.2 (by decide : (2147483647 : Int) ≤ 2147483647))⟩)  ) (fun o V_q hq => ?_)
            obtain ⟨r160, rfl, rfl, b161, q162⟩ := hq
            refine .inr ⟨_, rfl, ?_⟩
            rcases q162 with ⟨rfl, a163, a164, a165⟩ | ⟨rfl, a166⟩
            · have _q : True := trivial
              refine jx_if_eq (pc_q := 48) (tg := 61) rfl rfl rfl (by decide) (by decide) (fun h167 => ?_) (fun h167 => ?_)
              · have _q := h167
                exact absurd h167 (by omega)
              · have _q := h167
                refine jx_ld (pc_q := 49) (l_q := [(0, .ref 66), (1, .int (i32 (p))), (2, .int (i32 (w)))]) (st_q := [.int (i32 (w)), .int (i32 (0)), .int (i32 (0)), .ref 66]) rfl (jl_iloadn rfl) ?_
                refine jx_ar (pc_q := 50) (st_q := [.int (i32 (0)), .int (i32 (w)), .int (i32 (0)), .int (i32 (0)), .ref 66]) rfl rfl rfl rfl ?_
                refine jx_ar (pc_q := 51) (st_q := [.int (i32 (3)), .int (i32 (0)), .int (i32 (w)), .int (i32 (0)), .int (i32 (0)), .ref 66]) rfl rfl rfl rfl ?_
                refine jx_st (pc_q := 54) (as := [.int (i32 (w)), .int (i32 (0)), .int (i32 (3))]) (st := [.int (i32 (0)), .int (i32 (0)), .ref 66]) rfl rfl ⟨rfl, Nat.le_of_ble_eq_true rfl⟩ rfl rfl rfl (c_in (dd := d) (hd := by omega) (v := w) (a := 0) (b := 3)   (h_v := ⟨(Int.le_trans (by decide : (-2147483648 : Int) ≤ -2147483648) h_w.1), (Int.le_trans h_w.2 (by decide : (2147483647 : Int) ≤ 2147483647))⟩) (h_a := ⟨(by decide), (by decide)⟩) (h_b := ⟨(by decide), (by decide)⟩)  ) (fun o V_q hq => ?_)
                obtain ⟨r168, rfl, rfl, b169, q170⟩ := hq
                refine .inr ⟨_, rfl, ?_⟩
                rcases q170 with ⟨rfl, a171, a172⟩ | ⟨rfl, a173⟩
                · have _q : True := trivial
                  refine jx_if_ne (pc_q := 57) (tg := 61) rfl rfl rfl (by decide) (by decide) (fun h174 => ?_) (fun h174 => ?_)
                  · have _q := h174
                    refine jx_ar (pc_q := 62) (st_q := [.int (i32 (0)), .int (i32 (0)), .int (i32 (0)), .ref 66]) rfl rfl rfl rfl ?_
                    refine jx_vr (pc_q := 65) (as := [.int (i32 (0)), .int (i32 (0)), .int (i32 (0))]) (st := []) rfl rfl rfl rfl ⟨rfl, rfl, Nat.le_of_ble_eq_true rfl⟩ rfl rfl (c_refuse (dd := d) (hd := by omega) (hW := hW) (a := 0) (b := 0) (c := 0)   (h_a := ⟨(by decide), (by decide)⟩) (h_b := ⟨(by decide), (by decide)⟩) (h_c := ⟨(by decide), (by decide)⟩)  ) (fun o V_q hq => ?_)
                    obtain ⟨G175, A176, r177, th2_178, rfl, rfl, hW179, hF180, b181, e182, q183⟩ := hq
                    have hF184 := Fr_tr hF0 hF180 (Fr_sub (by decide)) (Fr_sub (by decide))
                    have bth2_178 : (0 : Int) ≤ th2_178 ∧ th2_178 ≤ 4 := e182 ▸ hW179.1 0
                    refine .inr ⟨_, rfl, ?_⟩
                    rcases q183 with ⟨rfl, a185, a186⟩ | ⟨rfl, a187, a188, a189⟩ | ⟨rfl, a190, a191, a192, a193⟩ | ⟨rfl, a194, a195, a196, a197⟩
                    · have _q : True := trivial
                      exfalso
                      omega
                    · have _q : True := trivial
                      exfalso
                      omega
                    · have _q : True := trivial
                      exfalso
                      omega
                    · have _q : True := trivial
                      refine jx_if_eq (pc_q := 68) (tg := 70) rfl rfl rfl (by decide) (by decide) (fun h198 => ?_) (fun h198 => ?_)
                      · have _q := h198
                        exact c_processor_at_70 (X := X) (d := d) (c0 := c0) (c1 := c1) (G := G) (A := A) (T := T) (p := p) (w := w) (pg := pg) (bp := bp) (hd := hd) (hW := hW) (e_pg := e_pg) (e_bp := e_bp) (h_p := h_p) (h_w := h_w) [(0, .ref 66), (1, .int (i32 (p))), (2, .int (i32 (w)))] G175 A176 rfl rfl rfl hW179 hF184 (by omega) (by omega)
                      · have _q := h198
                        exact absurd h198 (by omega)
                  · have _q := h174
                    exact absurd h174 (by omega)
                · have _q : True := trivial
                  refine jx_if_ne (pc_q := 57) (tg := 61) rfl rfl rfl (by decide) (by decide) (fun h199 => ?_) (fun h199 => ?_)
                  · have _q := h199
                    exact absurd h199 (by omega)
                  · have _q := h199
                    refine jx_ar (pc_q := 58) (st_q := [.int (i32 (1)), .int (i32 (0)), .int (i32 (0)), .ref 66]) rfl rfl rfl rfl ?_
                    refine jx_go (tg := 62) rfl rfl ?_
                    refine jx_vr (pc_q := 65) (as := [.int (i32 (0)), .int (i32 (0)), .int (i32 (1))]) (st := []) rfl rfl rfl rfl ⟨rfl, rfl, Nat.le_of_ble_eq_true rfl⟩ rfl rfl (c_refuse (dd := d) (hd := by omega) (hW := hW) (a := 0) (b := 0) (c := 1)   (h_a := ⟨(by decide), (by decide)⟩) (h_b := ⟨(by decide), (by decide)⟩) (h_c := ⟨(by decide), (by decide)⟩)  ) (fun o V_q hq => ?_)
                    obtain ⟨G200, A201, r202, th2_203, rfl, rfl, hW204, hF205, b206, e207, q208⟩ := hq
                    have hF209 := Fr_tr hF0 hF205 (Fr_sub (by decide)) (Fr_sub (by decide))
                    have bth2_203 : (0 : Int) ≤ th2_203 ∧ th2_203 ≤ 4 := e207 ▸ hW204.1 0
                    refine .inr ⟨_, rfl, ?_⟩
                    rcases q208 with ⟨rfl, a210, a211⟩ | ⟨rfl, a212, a213, a214⟩ | ⟨rfl, a215, a216, a217, a218⟩ | ⟨rfl, a219, a220, a221, a222⟩
                    · have _q : True := trivial
                      exfalso
                      omega
                    · have _q : True := trivial
                      exfalso
                      omega
                    · have _q : True := trivial
                      refine jx_if_eq (pc_q := 68) (tg := 70) rfl rfl rfl (by decide) (by decide) (fun h223 => ?_) (fun h223 => ?_)
                      · have _q := h223
                        exact absurd h223 (by omega)
                      · have _q := h223
                        refine jx_ar (pc_q := 69) (st_q := [.int (i32 (0))]) rfl rfl rfl rfl ?_
                        refine jx_rt (v := some (.int (i32 (0)))) rfl rfl rfl rfl rfl rfl ?_
                        exact ⟨_, _, _, rfl, rfl, hW204, hF209, by omega, trivial⟩
                    · have _q : True := trivial
                      exfalso
                      omega
            · have _q : True := trivial
              refine jx_if_eq (pc_q := 48) (tg := 61) rfl rfl rfl (by decide) (by decide) (fun h224 => ?_) (fun h224 => ?_)
              · have _q := h224
                refine jx_ar (pc_q := 62) (st_q := [.int (i32 (0)), .int (i32 (0)), .int (i32 (0)), .ref 66]) rfl rfl rfl rfl ?_
                refine jx_vr (pc_q := 65) (as := [.int (i32 (0)), .int (i32 (0)), .int (i32 (0))]) (st := []) rfl rfl rfl rfl ⟨rfl, rfl, Nat.le_of_ble_eq_true rfl⟩ rfl rfl (c_refuse (dd := d) (hd := by omega) (hW := hW) (a := 0) (b := 0) (c := 0)   (h_a := ⟨(by decide), (by decide)⟩) (h_b := ⟨(by decide), (by decide)⟩) (h_c := ⟨(by decide), (by decide)⟩)  ) (fun o V_q hq => ?_)
                obtain ⟨G225, A226, r227, th2_228, rfl, rfl, hW229, hF230, b231, e232, q233⟩ := hq
                have hF234 := Fr_tr hF0 hF230 (Fr_sub (by decide)) (Fr_sub (by decide))
                have bth2_228 : (0 : Int) ≤ th2_228 ∧ th2_228 ≤ 4 := e232 ▸ hW229.1 0
                refine .inr ⟨_, rfl, ?_⟩
                rcases q233 with ⟨rfl, a235, a236⟩ | ⟨rfl, a237, a238, a239⟩ | ⟨rfl, a240, a241, a242, a243⟩ | ⟨rfl, a244, a245, a246, a247⟩
                · have _q : True := trivial
                  exfalso
                  omega
                · have _q : True := trivial
                  exfalso
                  omega
                · have _q : True := trivial
                  exfalso
                  omega
                · have _q : True := trivial
                  refine jx_if_eq (pc_q := 68) (tg := 70) rfl rfl rfl (by decide) (by decide) (fun h248 => ?_) (fun h248 => ?_)
                  · have _q := h248
                    exact c_processor_at_70 (X := X) (d := d) (c0 := c0) (c1 := c1) (G := G) (A := A) (T := T) (p := p) (w := w) (pg := pg) (bp := bp) (hd := hd) (hW := hW) (e_pg := e_pg) (e_bp := e_bp) (h_p := h_p) (h_w := h_w) [(0, .ref 66), (1, .int (i32 (p))), (2, .int (i32 (w)))] G225 A226 rfl rfl rfl hW229 hF234 (by omega) (by omega)
                  · have _q := h248
                    exact absurd h248 (by omega)
              · have _q := h224
                exact absurd h224 (by omega)
        · have _q := h134
          exact absurd h134 (by omega)
      · have _q : True := trivial
        refine jx_if_ne (pc_q := 28) (tg := 32) rfl rfl rfl (by decide) (by decide) (fun h249 => ?_) (fun h249 => ?_)
        · have _q := h249
          exact absurd h249 (by omega)
        · have _q := h249
          refine jx_ar (pc_q := 29) (st_q := [.int (i32 (1)), .int (i32 (0)), .ref 66]) rfl rfl rfl rfl ?_
          refine jx_go (tg := 33) rfl rfl ?_
          refine jx_ld (pc_q := 34) (l_q := [(0, .ref 66), (1, .int (i32 (p))), (2, .int (i32 (w)))]) (st_q := [.ref 66, .int (i32 (1)), .int (i32 (0)), .ref 66]) rfl (jl_aloadn rfl) ?_
          refine jr_get (pc_q := 37) (i := 58) (v := .int (i32 (pg))) rfl rfl (by decide) (rFv_eq (by decide) (show G 58 = pg from (e_pg))) rfl ?_
          refine jx_if_eq (pc_q := 40) (tg := 61) rfl rfl rfl (Int.le_trans (by decide : (-2147483648 : Int) ≤ 0) b_pg.1) (Int.le_trans b_pg.2 (by decide : (1 : Int) ≤ 2147483647)) (fun h250 => ?_) (fun h250 => ?_)
          · have _q := h250
            refine jx_ar (pc_q := 62) (st_q := [.int (i32 (0)), .int (i32 (1)), .int (i32 (0)), .ref 66]) rfl rfl rfl rfl ?_
            refine jx_vr (pc_q := 65) (as := [.int (i32 (0)), .int (i32 (1)), .int (i32 (0))]) (st := []) rfl rfl rfl rfl ⟨rfl, rfl, Nat.le_of_ble_eq_true rfl⟩ rfl rfl (c_refuse (dd := d) (hd := by omega) (hW := hW) (a := 0) (b := 1) (c := 0)   (h_a := ⟨(by decide), (by decide)⟩) (h_b := ⟨(by decide), (by decide)⟩) (h_c := ⟨(by decide), (by decide)⟩)  ) (fun o V_q hq => ?_)
            obtain ⟨G251, A252, r253, th2_254, rfl, rfl, hW255, hF256, b257, e258, q259⟩ := hq
            have hF260 := Fr_tr hF0 hF256 (Fr_sub (by decide)) (Fr_sub (by decide))
            have bth2_254 : (0 : Int) ≤ th2_254 ∧ th2_254 ≤ 4 := e258 ▸ hW255.1 0
            refine .inr ⟨_, rfl, ?_⟩
            rcases q259 with ⟨rfl, a261, a262⟩ | ⟨rfl, a263, a264, a265⟩ | ⟨rfl, a266, a267, a268, a269⟩ | ⟨rfl, a270, a271, a272, a273⟩
            · have _q : True := trivial
              exfalso
              omega
            · have _q : True := trivial
              refine jx_if_eq (pc_q := 68) (tg := 70) rfl rfl rfl (by decide) (by decide) (fun h274 => ?_) (fun h274 => ?_)
              · have _q := h274
                exact absurd h274 (by omega)
              · have _q := h274
                refine jx_ar (pc_q := 69) (st_q := [.int (i32 (0))]) rfl rfl rfl rfl ?_
                refine jx_rt (v := some (.int (i32 (0)))) rfl rfl rfl rfl rfl rfl ?_
                exact ⟨_, _, _, rfl, rfl, hW255, hF260, by omega, trivial⟩
            · have _q : True := trivial
              exfalso
              omega
            · have _q : True := trivial
              exfalso
              omega
          · have _q := h250
            refine jx_ld (pc_q := 41) (l_q := [(0, .ref 66), (1, .int (i32 (p))), (2, .int (i32 (w)))]) (st_q := [.ref 66, .int (i32 (1)), .int (i32 (0)), .ref 66]) rfl (jl_aloadn rfl) ?_
            refine jx_ld (pc_q := 42) (l_q := [(0, .ref 66), (1, .int (i32 (p))), (2, .int (i32 (w)))]) (st_q := [.int (i32 (p)), .ref 66, .int (i32 (1)), .int (i32 (0)), .ref 66]) rfl (jl_iloadn rfl) ?_
            refine jx_vr (pc_q := 45) (as := [.int (i32 (p))]) (st := [.int (i32 (1)), .int (i32 (0)), .ref 66]) rfl rfl rfl rfl ⟨rfl, rfl, Nat.le_of_ble_eq_true rfl⟩ rfl rfl (c_isCore2 (dd := d) (hd := by omega) (hW := hW) (p := p) (bp := bp) (e_bp := show A 36 (p).toNat = bp from (e_bp))  (h_p := ⟨(Int.le_trans (by decide : (-2147483648 : Int) ≤ -2147483648) h_p.1), (Int.le_trans h_p.2 (by decide : (2147483647 : Int) ≤ 2147483647))⟩)  ) (fun o V_q hq => ?_)
            obtain ⟨r275, rfl, rfl, b276, q277⟩ := hq
            refine .inr ⟨_, rfl, ?_⟩
            rcases q277 with ⟨rfl, a278, a279, a280⟩ | ⟨rfl, a281⟩
            · have _q : True := trivial
              refine jx_if_eq (pc_q := 48) (tg := 61) rfl rfl rfl (by decide) (by decide) (fun h282 => ?_) (fun h282 => ?_)
              · have _q := h282
                exact absurd h282 (by omega)
              · have _q := h282
                refine jx_ld (pc_q := 49) (l_q := [(0, .ref 66), (1, .int (i32 (p))), (2, .int (i32 (w)))]) (st_q := [.int (i32 (w)), .int (i32 (1)), .int (i32 (0)), .ref 66]) rfl (jl_iloadn rfl) ?_
                refine jx_ar (pc_q := 50) (st_q := [.int (i32 (0)), .int (i32 (w)), .int (i32 (1)), .int (i32 (0)), .ref 66]) rfl rfl rfl rfl ?_
                refine jx_ar (pc_q := 51) (st_q := [.int (i32 (3)), .int (i32 (0)), .int (i32 (w)), .int (i32 (1)), .int (i32 (0)), .ref 66]) rfl rfl rfl rfl ?_
                refine jx_st (pc_q := 54) (as := [.int (i32 (w)), .int (i32 (0)), .int (i32 (3))]) (st := [.int (i32 (1)), .int (i32 (0)), .ref 66]) rfl rfl ⟨rfl, Nat.le_of_ble_eq_true rfl⟩ rfl rfl rfl (c_in (dd := d) (hd := by omega) (v := w) (a := 0) (b := 3)   (h_v := ⟨(Int.le_trans (by decide : (-2147483648 : Int) ≤ -2147483648) h_w.1), (Int.le_trans h_w.2 (by decide : (2147483647 : Int) ≤ 2147483647))⟩) (h_a := ⟨(by decide), (by decide)⟩) (h_b := ⟨(by decide), (by decide)⟩)  ) (fun o V_q hq => ?_)
                obtain ⟨r283, rfl, rfl, b284, q285⟩ := hq
                refine .inr ⟨_, rfl, ?_⟩
                rcases q285 with ⟨rfl, a286, a287⟩ | ⟨rfl, a288⟩
                · have _q : True := trivial
                  refine jx_if_ne (pc_q := 57) (tg := 61) rfl rfl rfl (by decide) (by decide) (fun h289 => ?_) (fun h289 => ?_)
                  · have _q := h289
                    refine jx_ar (pc_q := 62) (st_q := [.int (i32 (0)), .int (i32 (1)), .int (i32 (0)), .ref 66]) rfl rfl rfl rfl ?_
                    refine jx_vr (pc_q := 65) (as := [.int (i32 (0)), .int (i32 (1)), .int (i32 (0))]) (st := []) rfl rfl rfl rfl ⟨rfl, rfl, Nat.le_of_ble_eq_true rfl⟩ rfl rfl (c_refuse (dd := d) (hd := by omega) (hW := hW) (a := 0) (b := 1) (c := 0)   (h_a := ⟨(by decide), (by decide)⟩) (h_b := ⟨(by decide), (by decide)⟩) (h_c := ⟨(by decide), (by decide)⟩)  ) (fun o V_q hq => ?_)
                    obtain ⟨G290, A291, r292, th2_293, rfl, rfl, hW294, hF295, b296, e297, q298⟩ := hq
                    have hF299 := Fr_tr hF0 hF295 (Fr_sub (by decide)) (Fr_sub (by decide))
                    have bth2_293 : (0 : Int) ≤ th2_293 ∧ th2_293 ≤ 4 := e297 ▸ hW294.1 0
                    refine .inr ⟨_, rfl, ?_⟩
                    rcases q298 with ⟨rfl, a300, a301⟩ | ⟨rfl, a302, a303, a304⟩ | ⟨rfl, a305, a306, a307, a308⟩ | ⟨rfl, a309, a310, a311, a312⟩
                    · have _q : True := trivial
                      exfalso
                      omega
                    · have _q : True := trivial
                      refine jx_if_eq (pc_q := 68) (tg := 70) rfl rfl rfl (by decide) (by decide) (fun h313 => ?_) (fun h313 => ?_)
                      · have _q := h313
                        exact absurd h313 (by omega)
                      · have _q := h313
                        refine jx_ar (pc_q := 69) (st_q := [.int (i32 (0))]) rfl rfl rfl rfl ?_
                        refine jx_rt (v := some (.int (i32 (0)))) rfl rfl rfl rfl rfl rfl ?_
                        exact ⟨_, _, _, rfl, rfl, hW294, hF299, by omega, trivial⟩
                    · have _q : True := trivial
                      exfalso
                      omega
                    · have _q : True := trivial
                      exfalso
                      omega
                  · have _q := h289
                    exact absurd h289 (by omega)
                · have _q : True := trivial
                  refine jx_if_ne (pc_q := 57) (tg := 61) rfl rfl rfl (by decide) (by decide) (fun h314 => ?_) (fun h314 => ?_)
                  · have _q := h314
                    exact absurd h314 (by omega)
                  · have _q := h314
                    refine jx_ar (pc_q := 58) (st_q := [.int (i32 (1)), .int (i32 (1)), .int (i32 (0)), .ref 66]) rfl rfl rfl rfl ?_
                    refine jx_go (tg := 62) rfl rfl ?_
                    refine jx_vr (pc_q := 65) (as := [.int (i32 (0)), .int (i32 (1)), .int (i32 (1))]) (st := []) rfl rfl rfl rfl ⟨rfl, rfl, Nat.le_of_ble_eq_true rfl⟩ rfl rfl (c_refuse (dd := d) (hd := by omega) (hW := hW) (a := 0) (b := 1) (c := 1)   (h_a := ⟨(by decide), (by decide)⟩) (h_b := ⟨(by decide), (by decide)⟩) (h_c := ⟨(by decide), (by decide)⟩)  ) (fun o V_q hq => ?_)
                    obtain ⟨G315, A316, r317, th2_318, rfl, rfl, hW319, hF320, b321, e322, q323⟩ := hq
                    have hF324 := Fr_tr hF0 hF320 (Fr_sub (by decide)) (Fr_sub (by decide))
                    have bth2_318 : (0 : Int) ≤ th2_318 ∧ th2_318 ≤ 4 := e322 ▸ hW319.1 0
                    refine .inr ⟨_, rfl, ?_⟩
                    rcases q323 with ⟨rfl, a325, a326⟩ | ⟨rfl, a327, a328, a329⟩ | ⟨rfl, a330, a331, a332, a333⟩ | ⟨rfl, a334, a335, a336, a337⟩
                    · have _q : True := trivial
                      exfalso
                      omega
                    · have _q : True := trivial
                      refine jx_if_eq (pc_q := 68) (tg := 70) rfl rfl rfl (by decide) (by decide) (fun h338 => ?_) (fun h338 => ?_)
                      · have _q := h338
                        exact absurd h338 (by omega)
                      · have _q := h338
                        refine jx_ar (pc_q := 69) (st_q := [.int (i32 (0))]) rfl rfl rfl rfl ?_
                        refine jx_rt (v := some (.int (i32 (0)))) rfl rfl rfl rfl rfl rfl ?_
                        exact ⟨_, _, _, rfl, rfl, hW319, hF324, by omega, trivial⟩
                    · have _q : True := trivial
                      exfalso
                      omega
                    · have _q : True := trivial
                      exfalso
                      omega
            · have _q : True := trivial
              refine jx_if_eq (pc_q := 48) (tg := 61) rfl rfl rfl (by decide) (by decide) (fun h339 => ?_) (fun h339 => ?_)
              · have _q := h339
                refine jx_ar (pc_q := 62) (st_q := [.int (i32 (0)), .int (i32 (1)), .int (i32 (0)), .ref 66]) rfl rfl rfl rfl ?_
                refine jx_vr (pc_q := 65) (as := [.int (i32 (0)), .int (i32 (1)), .int (i32 (0))]) (st := []) rfl rfl rfl rfl ⟨rfl, rfl, Nat.le_of_ble_eq_true rfl⟩ rfl rfl (c_refuse (dd := d) (hd := by omega) (hW := hW) (a := 0) (b := 1) (c := 0)   (h_a := ⟨(by decide), (by decide)⟩) (h_b := ⟨(by decide), (by decide)⟩) (h_c := ⟨(by decide), (by decide)⟩)  ) (fun o V_q hq => ?_)
                obtain ⟨G340, A341, r342, th2_343, rfl, rfl, hW344, hF345, b346, e347, q348⟩ := hq
                have hF349 := Fr_tr hF0 hF345 (Fr_sub (by decide)) (Fr_sub (by decide))
                have bth2_343 : (0 : Int) ≤ th2_343 ∧ th2_343 ≤ 4 := e347 ▸ hW344.1 0
                refine .inr ⟨_, rfl, ?_⟩
                rcases q348 with ⟨rfl, a350, a351⟩ | ⟨rfl, a352, a353, a354⟩ | ⟨rfl, a355, a356, a357, a358⟩ | ⟨rfl, a359, a360, a361, a362⟩
                · have _q : True := trivial
                  exfalso
                  omega
                · have _q : True := trivial
                  refine jx_if_eq (pc_q := 68) (tg := 70) rfl rfl rfl (by decide) (by decide) (fun h363 => ?_) (fun h363 => ?_)
                  · have _q := h363
                    exact absurd h363 (by omega)
                  · have _q := h363
                    refine jx_ar (pc_q := 69) (st_q := [.int (i32 (0))]) rfl rfl rfl rfl ?_
                    refine jx_rt (v := some (.int (i32 (0)))) rfl rfl rfl rfl rfl rfl ?_
                    exact ⟨_, _, _, rfl, rfl, hW344, hF349, by omega, trivial⟩
                · have _q : True := trivial
                  exfalso
                  omega
                · have _q : True := trivial
                  exfalso
                  omega
              · have _q := h339
                exact absurd h339 (by omega)
  · have _q := h11
    refine jx_ar (pc_q := 9) (st_q := [.int (i32 (1)), .ref 66]) rfl rfl rfl rfl ?_
    refine jx_go (tg := 13) rfl rfl ?_
    refine jx_ld (pc_q := 14) (l_q := [(0, .ref 66), (1, .int (i32 (p))), (2, .int (i32 (w)))]) (st_q := [.ref 66, .int (i32 (1)), .ref 66]) rfl (jl_aloadn rfl) ?_
    refine jr_get (pc_q := 17) (i := 58) (v := .int (i32 (pg))) rfl rfl (by decide) (rFv_eq (by decide) (show G 58 = pg from (e_pg))) rfl ?_
    refine jx_if_eq (pc_q := 20) (tg := 32) rfl rfl rfl (Int.le_trans (by decide : (-2147483648 : Int) ≤ 0) b_pg.1) (Int.le_trans b_pg.2 (by decide : (1 : Int) ≤ 2147483647)) (fun h364 => ?_) (fun h364 => ?_)
    · have _q := h364
      refine jx_ar (pc_q := 33) (st_q := [.int (i32 (0)), .int (i32 (1)), .ref 66]) rfl rfl rfl rfl ?_
      refine jx_ld (pc_q := 34) (l_q := [(0, .ref 66), (1, .int (i32 (p))), (2, .int (i32 (w)))]) (st_q := [.ref 66, .int (i32 (0)), .int (i32 (1)), .ref 66]) rfl (jl_aloadn rfl) ?_
      refine jr_get (pc_q := 37) (i := 58) (v := .int (i32 (pg))) rfl rfl (by decide) (rFv_eq (by decide) (show G 58 = pg from (e_pg))) rfl ?_
      refine jx_if_eq (pc_q := 40) (tg := 61) rfl rfl rfl (Int.le_trans (by decide : (-2147483648 : Int) ≤ 0) b_pg.1) (Int.le_trans b_pg.2 (by decide : (1 : Int) ≤ 2147483647)) (fun h365 => ?_) (fun h365 => ?_)
      · have _q := h365
        refine jx_ar (pc_q := 62) (st_q := [.int (i32 (0)), .int (i32 (0)), .int (i32 (1)), .ref 66]) rfl rfl rfl rfl ?_
        refine jx_vr (pc_q := 65) (as := [.int (i32 (1)), .int (i32 (0)), .int (i32 (0))]) (st := []) rfl rfl rfl rfl ⟨rfl, rfl, Nat.le_of_ble_eq_true rfl⟩ rfl rfl (c_refuse (dd := d) (hd := by omega) (hW := hW) (a := 1) (b := 0) (c := 0)   (h_a := ⟨(by decide), (by decide)⟩) (h_b := ⟨(by decide), (by decide)⟩) (h_c := ⟨(by decide), (by decide)⟩)  ) (fun o V_q hq => ?_)
        obtain ⟨G366, A367, r368, th2_369, rfl, rfl, hW370, hF371, b372, e373, q374⟩ := hq
        have hF375 := Fr_tr hF0 hF371 (Fr_sub (by decide)) (Fr_sub (by decide))
        have bth2_369 : (0 : Int) ≤ th2_369 ∧ th2_369 ≤ 4 := e373 ▸ hW370.1 0
        refine .inr ⟨_, rfl, ?_⟩
        rcases q374 with ⟨rfl, a376, a377⟩ | ⟨rfl, a378, a379, a380⟩ | ⟨rfl, a381, a382, a383, a384⟩ | ⟨rfl, a385, a386, a387, a388⟩
        · have _q : True := trivial
          refine jx_if_eq (pc_q := 68) (tg := 70) rfl rfl rfl (by decide) (by decide) (fun h389 => ?_) (fun h389 => ?_)
          · have _q := h389
            exact absurd h389 (by omega)
          · have _q := h389
            refine jx_ar (pc_q := 69) (st_q := [.int (i32 (0))]) rfl rfl rfl rfl ?_
            refine jx_rt (v := some (.int (i32 (0)))) rfl rfl rfl rfl rfl rfl ?_
            exact ⟨_, _, _, rfl, rfl, hW370, hF375, by omega, trivial⟩
        · have _q : True := trivial
          exfalso
          omega
        · have _q : True := trivial
          exfalso
          omega
        · have _q : True := trivial
          exfalso
          omega
      · have _q := h365
        refine jx_ld (pc_q := 41) (l_q := [(0, .ref 66), (1, .int (i32 (p))), (2, .int (i32 (w)))]) (st_q := [.ref 66, .int (i32 (0)), .int (i32 (1)), .ref 66]) rfl (jl_aloadn rfl) ?_
        refine jx_ld (pc_q := 42) (l_q := [(0, .ref 66), (1, .int (i32 (p))), (2, .int (i32 (w)))]) (st_q := [.int (i32 (p)), .ref 66, .int (i32 (0)), .int (i32 (1)), .ref 66]) rfl (jl_iloadn rfl) ?_
        refine jx_vr (pc_q := 45) (as := [.int (i32 (p))]) (st := [.int (i32 (0)), .int (i32 (1)), .ref 66]) rfl rfl rfl rfl ⟨rfl, rfl, Nat.le_of_ble_eq_true rfl⟩ rfl rfl (c_isCore2 (dd := d) (hd := by omega) (hW := hW) (p := p) (bp := bp) (e_bp := show A 36 (p).toNat = bp from (e_bp))  (h_p := ⟨(Int.le_trans (by decide : (-2147483648 : Int) ≤ -2147483648) h_p.1), (Int.le_trans h_p.2 (by decide : (2147483647 : Int) ≤ 2147483647))⟩)  ) (fun o V_q hq => ?_)
        obtain ⟨r390, rfl, rfl, b391, q392⟩ := hq
        refine .inr ⟨_, rfl, ?_⟩
        rcases q392 with ⟨rfl, a393, a394, a395⟩ | ⟨rfl, a396⟩
        · have _q : True := trivial
          refine jx_if_eq (pc_q := 48) (tg := 61) rfl rfl rfl (by decide) (by decide) (fun h397 => ?_) (fun h397 => ?_)
          · have _q := h397
            exact absurd h397 (by omega)
          · have _q := h397
            refine jx_ld (pc_q := 49) (l_q := [(0, .ref 66), (1, .int (i32 (p))), (2, .int (i32 (w)))]) (st_q := [.int (i32 (w)), .int (i32 (0)), .int (i32 (1)), .ref 66]) rfl (jl_iloadn rfl) ?_
            refine jx_ar (pc_q := 50) (st_q := [.int (i32 (0)), .int (i32 (w)), .int (i32 (0)), .int (i32 (1)), .ref 66]) rfl rfl rfl rfl ?_
            refine jx_ar (pc_q := 51) (st_q := [.int (i32 (3)), .int (i32 (0)), .int (i32 (w)), .int (i32 (0)), .int (i32 (1)), .ref 66]) rfl rfl rfl rfl ?_
            refine jx_st (pc_q := 54) (as := [.int (i32 (w)), .int (i32 (0)), .int (i32 (3))]) (st := [.int (i32 (0)), .int (i32 (1)), .ref 66]) rfl rfl ⟨rfl, Nat.le_of_ble_eq_true rfl⟩ rfl rfl rfl (c_in (dd := d) (hd := by omega) (v := w) (a := 0) (b := 3)   (h_v := ⟨(Int.le_trans (by decide : (-2147483648 : Int) ≤ -2147483648) h_w.1), (Int.le_trans h_w.2 (by decide : (2147483647 : Int) ≤ 2147483647))⟩) (h_a := ⟨(by decide), (by decide)⟩) (h_b := ⟨(by decide), (by decide)⟩)  ) (fun o V_q hq => ?_)
            obtain ⟨r398, rfl, rfl, b399, q400⟩ := hq
            refine .inr ⟨_, rfl, ?_⟩
            rcases q400 with ⟨rfl, a401, a402⟩ | ⟨rfl, a403⟩
            · have _q : True := trivial
              refine jx_if_ne (pc_q := 57) (tg := 61) rfl rfl rfl (by decide) (by decide) (fun h404 => ?_) (fun h404 => ?_)
              · have _q := h404
                refine jx_ar (pc_q := 62) (st_q := [.int (i32 (0)), .int (i32 (0)), .int (i32 (1)), .ref 66]) rfl rfl rfl rfl ?_
                refine jx_vr (pc_q := 65) (as := [.int (i32 (1)), .int (i32 (0)), .int (i32 (0))]) (st := []) rfl rfl rfl rfl ⟨rfl, rfl, Nat.le_of_ble_eq_true rfl⟩ rfl rfl (c_refuse (dd := d) (hd := by omega) (hW := hW) (a := 1) (b := 0) (c := 0)   (h_a := ⟨(by decide), (by decide)⟩) (h_b := ⟨(by decide), (by decide)⟩) (h_c := ⟨(by decide), (by decide)⟩)  ) (fun o V_q hq => ?_)
                obtain ⟨G405, A406, r407, th2_408, rfl, rfl, hW409, hF410, b411, e412, q413⟩ := hq
                have hF414 := Fr_tr hF0 hF410 (Fr_sub (by decide)) (Fr_sub (by decide))
                have bth2_408 : (0 : Int) ≤ th2_408 ∧ th2_408 ≤ 4 := e412 ▸ hW409.1 0
                refine .inr ⟨_, rfl, ?_⟩
                rcases q413 with ⟨rfl, a415, a416⟩ | ⟨rfl, a417, a418, a419⟩ | ⟨rfl, a420, a421, a422, a423⟩ | ⟨rfl, a424, a425, a426, a427⟩
                · have _q : True := trivial
                  refine jx_if_eq (pc_q := 68) (tg := 70) rfl rfl rfl (by decide) (by decide) (fun h428 => ?_) (fun h428 => ?_)
                  · have _q := h428
                    exact absurd h428 (by omega)
                  · have _q := h428
                    refine jx_ar (pc_q := 69) (st_q := [.int (i32 (0))]) rfl rfl rfl rfl ?_
                    refine jx_rt (v := some (.int (i32 (0)))) rfl rfl rfl rfl rfl rfl ?_
                    exact ⟨_, _, _, rfl, rfl, hW409, hF414, by omega, trivial⟩
                · have _q : True := trivial
                  exfalso
                  omega
                · have _q : True := trivial
                  exfalso
                  omega
                · have _q : True := trivial
                  exfalso
                  omega
              · have _q := h404
                exact absurd h404 (by omega)
            · have _q : True := trivial
              refine jx_if_ne (pc_q := 57) (tg := 61) rfl rfl rfl (by decide) (by decide) (fun h429 => ?_) (fun h429 => ?_)
              · have _q := h429
                exact absurd h429 (by omega)
              · have _q := h429
                refine jx_ar (pc_q := 58) (st_q := [.int (i32 (1)), .int (i32 (0)), .int (i32 (1)), .ref 66]) rfl rfl rfl rfl ?_
                refine jx_go (tg := 62) rfl rfl ?_
                refine jx_vr (pc_q := 65) (as := [.int (i32 (1)), .int (i32 (0)), .int (i32 (1))]) (st := []) rfl rfl rfl rfl ⟨rfl, rfl, Nat.le_of_ble_eq_true rfl⟩ rfl rfl (c_refuse (dd := d) (hd := by omega) (hW := hW) (a := 1) (b := 0) (c := 1)   (h_a := ⟨(by decide), (by decide)⟩) (h_b := ⟨(by decide), (by decide)⟩) (h_c := ⟨(by decide), (by decide)⟩)  ) (fun o V_q hq => ?_)
                obtain ⟨G430, A431, r432, th2_433, rfl, rfl, hW434, hF435, b436, e437, q438⟩ := hq
                have hF439 := Fr_tr hF0 hF435 (Fr_sub (by decide)) (Fr_sub (by decide))
                have bth2_433 : (0 : Int) ≤ th2_433 ∧ th2_433 ≤ 4 := e437 ▸ hW434.1 0
                refine .inr ⟨_, rfl, ?_⟩
                rcases q438 with ⟨rfl, a440, a441⟩ | ⟨rfl, a442, a443, a444⟩ | ⟨rfl, a445, a446, a447, a448⟩ | ⟨rfl, a449, a450, a451, a452⟩
                · have _q : True := trivial
                  refine jx_if_eq (pc_q := 68) (tg := 70) rfl rfl rfl (by decide) (by decide) (fun h453 => ?_) (fun h453 => ?_)
                  · have _q := h453
                    exact absurd h453 (by omega)
                  · have _q := h453
                    refine jx_ar (pc_q := 69) (st_q := [.int (i32 (0))]) rfl rfl rfl rfl ?_
                    refine jx_rt (v := some (.int (i32 (0)))) rfl rfl rfl rfl rfl rfl ?_
                    exact ⟨_, _, _, rfl, rfl, hW434, hF439, by omega, trivial⟩
                · have _q : True := trivial
                  exfalso
                  omega
                · have _q : True := trivial
                  exfalso
                  omega
                · have _q : True := trivial
                  exfalso
                  omega
        · have _q : True := trivial
          refine jx_if_eq (pc_q := 48) (tg := 61) rfl rfl rfl (by decide) (by decide) (fun h454 => ?_) (fun h454 => ?_)
          · have _q := h454
            refine jx_ar (pc_q := 62) (st_q := [.int (i32 (0)), .int (i32 (0)), .int (i32 (1)), .ref 66]) rfl rfl rfl rfl ?_
            refine jx_vr (pc_q := 65) (as := [.int (i32 (1)), .int (i32 (0)), .int (i32 (0))]) (st := []) rfl rfl rfl rfl ⟨rfl, rfl, Nat.le_of_ble_eq_true rfl⟩ rfl rfl (c_refuse (dd := d) (hd := by omega) (hW := hW) (a := 1) (b := 0) (c := 0)   (h_a := ⟨(by decide), (by decide)⟩) (h_b := ⟨(by decide), (by decide)⟩) (h_c := ⟨(by decide), (by decide)⟩)  ) (fun o V_q hq => ?_)
            obtain ⟨G455, A456, r457, th2_458, rfl, rfl, hW459, hF460, b461, e462, q463⟩ := hq
            have hF464 := Fr_tr hF0 hF460 (Fr_sub (by decide)) (Fr_sub (by decide))
            have bth2_458 : (0 : Int) ≤ th2_458 ∧ th2_458 ≤ 4 := e462 ▸ hW459.1 0
            refine .inr ⟨_, rfl, ?_⟩
            rcases q463 with ⟨rfl, a465, a466⟩ | ⟨rfl, a467, a468, a469⟩ | ⟨rfl, a470, a471, a472, a473⟩ | ⟨rfl, a474, a475, a476, a477⟩
            · have _q : True := trivial
              refine jx_if_eq (pc_q := 68) (tg := 70) rfl rfl rfl (by decide) (by decide) (fun h478 => ?_) (fun h478 => ?_)
              · have _q := h478
                exact absurd h478 (by omega)
              · have _q := h478
                refine jx_ar (pc_q := 69) (st_q := [.int (i32 (0))]) rfl rfl rfl rfl ?_
                refine jx_rt (v := some (.int (i32 (0)))) rfl rfl rfl rfl rfl rfl ?_
                exact ⟨_, _, _, rfl, rfl, hW459, hF464, by omega, trivial⟩
            · have _q : True := trivial
              exfalso
              omega
            · have _q : True := trivial
              exfalso
              omega
            · have _q : True := trivial
              exfalso
              omega
          · have _q := h454
            exact absurd h454 (by omega)
    · have _q := h364
      refine jx_ld (pc_q := 21) (l_q := [(0, .ref 66), (1, .int (i32 (p))), (2, .int (i32 (w)))]) (st_q := [.ref 66, .int (i32 (1)), .ref 66]) rfl (jl_aloadn rfl) ?_
      refine jx_ld (pc_q := 22) (l_q := [(0, .ref 66), (1, .int (i32 (p))), (2, .int (i32 (w)))]) (st_q := [.int (i32 (p)), .ref 66, .int (i32 (1)), .ref 66]) rfl (jl_iloadn rfl) ?_
      refine jx_vr (pc_q := 25) (as := [.int (i32 (p))]) (st := [.int (i32 (1)), .ref 66]) rfl rfl rfl rfl ⟨rfl, rfl, Nat.le_of_ble_eq_true rfl⟩ rfl rfl (c_isCore2 (dd := d) (hd := by omega) (hW := hW) (p := p) (bp := bp) (e_bp := show A 36 (p).toNat = bp from (e_bp))  (h_p := ⟨(Int.le_trans (by decide : (-2147483648 : Int) ≤ -2147483648) h_p.1), (Int.le_trans h_p.2 (by decide : (2147483647 : Int) ≤ 2147483647))⟩)  ) (fun o V_q hq => ?_)
      obtain ⟨r479, rfl, rfl, b480, q481⟩ := hq
      refine .inr ⟨_, rfl, ?_⟩
      rcases q481 with ⟨rfl, a482, a483, a484⟩ | ⟨rfl, a485⟩
      · have _q : True := trivial
        refine jx_if_ne (pc_q := 28) (tg := 32) rfl rfl rfl (by decide) (by decide) (fun h486 => ?_) (fun h486 => ?_)
        · have _q := h486
          refine jx_ar (pc_q := 33) (st_q := [.int (i32 (0)), .int (i32 (1)), .ref 66]) rfl rfl rfl rfl ?_
          refine jx_ld (pc_q := 34) (l_q := [(0, .ref 66), (1, .int (i32 (p))), (2, .int (i32 (w)))]) (st_q := [.ref 66, .int (i32 (0)), .int (i32 (1)), .ref 66]) rfl (jl_aloadn rfl) ?_
          refine jr_get (pc_q := 37) (i := 58) (v := .int (i32 (pg))) rfl rfl (by decide) (rFv_eq (by decide) (show G 58 = pg from (e_pg))) rfl ?_
          refine jx_if_eq (pc_q := 40) (tg := 61) rfl rfl rfl (Int.le_trans (by decide : (-2147483648 : Int) ≤ 0) b_pg.1) (Int.le_trans b_pg.2 (by decide : (1 : Int) ≤ 2147483647)) (fun h487 => ?_) (fun h487 => ?_)
          · have _q := h487
            refine jx_ar (pc_q := 62) (st_q := [.int (i32 (0)), .int (i32 (0)), .int (i32 (1)), .ref 66]) rfl rfl rfl rfl ?_
            refine jx_vr (pc_q := 65) (as := [.int (i32 (1)), .int (i32 (0)), .int (i32 (0))]) (st := []) rfl rfl rfl rfl ⟨rfl, rfl, Nat.le_of_ble_eq_true rfl⟩ rfl rfl (c_refuse (dd := d) (hd := by omega) (hW := hW) (a := 1) (b := 0) (c := 0)   (h_a := ⟨(by decide), (by decide)⟩) (h_b := ⟨(by decide), (by decide)⟩) (h_c := ⟨(by decide), (by decide)⟩)  ) (fun o V_q hq => ?_)
            obtain ⟨G488, A489, r490, th2_491, rfl, rfl, hW492, hF493, b494, e495, q496⟩ := hq
            have hF497 := Fr_tr hF0 hF493 (Fr_sub (by decide)) (Fr_sub (by decide))
            have bth2_491 : (0 : Int) ≤ th2_491 ∧ th2_491 ≤ 4 := e495 ▸ hW492.1 0
            refine .inr ⟨_, rfl, ?_⟩
            rcases q496 with ⟨rfl, a498, a499⟩ | ⟨rfl, a500, a501, a502⟩ | ⟨rfl, a503, a504, a505, a506⟩ | ⟨rfl, a507, a508, a509, a510⟩
            · have _q : True := trivial
              refine jx_if_eq (pc_q := 68) (tg := 70) rfl rfl rfl (by decide) (by decide) (fun h511 => ?_) (fun h511 => ?_)
              · have _q := h511
                exact absurd h511 (by omega)
              · have _q := h511
                refine jx_ar (pc_q := 69) (st_q := [.int (i32 (0))]) rfl rfl rfl rfl ?_
                refine jx_rt (v := some (.int (i32 (0)))) rfl rfl rfl rfl rfl rfl ?_
                exact ⟨_, _, _, rfl, rfl, hW492, hF497, by omega, trivial⟩
            · have _q : True := trivial
              exfalso
              omega
            · have _q : True := trivial
              exfalso
              omega
            · have _q : True := trivial
              exfalso
              omega
          · have _q := h487
            refine jx_ld (pc_q := 41) (l_q := [(0, .ref 66), (1, .int (i32 (p))), (2, .int (i32 (w)))]) (st_q := [.ref 66, .int (i32 (0)), .int (i32 (1)), .ref 66]) rfl (jl_aloadn rfl) ?_
            refine jx_ld (pc_q := 42) (l_q := [(0, .ref 66), (1, .int (i32 (p))), (2, .int (i32 (w)))]) (st_q := [.int (i32 (p)), .ref 66, .int (i32 (0)), .int (i32 (1)), .ref 66]) rfl (jl_iloadn rfl) ?_
            refine jx_vr (pc_q := 45) (as := [.int (i32 (p))]) (st := [.int (i32 (0)), .int (i32 (1)), .ref 66]) rfl rfl rfl rfl ⟨rfl, rfl, Nat.le_of_ble_eq_true rfl⟩ rfl rfl (c_isCore2 (dd := d) (hd := by omega) (hW := hW) (p := p) (bp := bp) (e_bp := show A 36 (p).toNat = bp from (e_bp))  (h_p := ⟨(Int.le_trans (by decide : (-2147483648 : Int) ≤ -2147483648) h_p.1), (Int.le_trans h_p.2 (by decide : (2147483647 : Int) ≤ 2147483647))⟩)  ) (fun o V_q hq => ?_)
            obtain ⟨r512, rfl, rfl, b513, q514⟩ := hq
            refine .inr ⟨_, rfl, ?_⟩
            rcases q514 with ⟨rfl, a515, a516, a517⟩ | ⟨rfl, a518⟩
            · have _q : True := trivial
              refine jx_if_eq (pc_q := 48) (tg := 61) rfl rfl rfl (by decide) (by decide) (fun h519 => ?_) (fun h519 => ?_)
              · have _q := h519
                exact absurd h519 (by omega)
              · have _q := h519
                refine jx_ld (pc_q := 49) (l_q := [(0, .ref 66), (1, .int (i32 (p))), (2, .int (i32 (w)))]) (st_q := [.int (i32 (w)), .int (i32 (0)), .int (i32 (1)), .ref 66]) rfl (jl_iloadn rfl) ?_
                refine jx_ar (pc_q := 50) (st_q := [.int (i32 (0)), .int (i32 (w)), .int (i32 (0)), .int (i32 (1)), .ref 66]) rfl rfl rfl rfl ?_
                refine jx_ar (pc_q := 51) (st_q := [.int (i32 (3)), .int (i32 (0)), .int (i32 (w)), .int (i32 (0)), .int (i32 (1)), .ref 66]) rfl rfl rfl rfl ?_
                refine jx_st (pc_q := 54) (as := [.int (i32 (w)), .int (i32 (0)), .int (i32 (3))]) (st := [.int (i32 (0)), .int (i32 (1)), .ref 66]) rfl rfl ⟨rfl, Nat.le_of_ble_eq_true rfl⟩ rfl rfl rfl (c_in (dd := d) (hd := by omega) (v := w) (a := 0) (b := 3)   (h_v := ⟨(Int.le_trans (by decide : (-2147483648 : Int) ≤ -2147483648) h_w.1), (Int.le_trans h_w.2 (by decide : (2147483647 : Int) ≤ 2147483647))⟩) (h_a := ⟨(by decide), (by decide)⟩) (h_b := ⟨(by decide), (by decide)⟩)  ) (fun o V_q hq => ?_)
                obtain ⟨r520, rfl, rfl, b521, q522⟩ := hq
                refine .inr ⟨_, rfl, ?_⟩
                rcases q522 with ⟨rfl, a523, a524⟩ | ⟨rfl, a525⟩
                · have _q : True := trivial
                  refine jx_if_ne (pc_q := 57) (tg := 61) rfl rfl rfl (by decide) (by decide) (fun h526 => ?_) (fun h526 => ?_)
                  · have _q := h526
                    refine jx_ar (pc_q := 62) (st_q := [.int (i32 (0)), .int (i32 (0)), .int (i32 (1)), .ref 66]) rfl rfl rfl rfl ?_
                    refine jx_vr (pc_q := 65) (as := [.int (i32 (1)), .int (i32 (0)), .int (i32 (0))]) (st := []) rfl rfl rfl rfl ⟨rfl, rfl, Nat.le_of_ble_eq_true rfl⟩ rfl rfl (c_refuse (dd := d) (hd := by omega) (hW := hW) (a := 1) (b := 0) (c := 0)   (h_a := ⟨(by decide), (by decide)⟩) (h_b := ⟨(by decide), (by decide)⟩) (h_c := ⟨(by decide), (by decide)⟩)  ) (fun o V_q hq => ?_)
                    obtain ⟨G527, A528, r529, th2_530, rfl, rfl, hW531, hF532, b533, e534, q535⟩ := hq
                    have hF536 := Fr_tr hF0 hF532 (Fr_sub (by decide)) (Fr_sub (by decide))
                    have bth2_530 : (0 : Int) ≤ th2_530 ∧ th2_530 ≤ 4 := e534 ▸ hW531.1 0
                    refine .inr ⟨_, rfl, ?_⟩
                    rcases q535 with ⟨rfl, a537, a538⟩ | ⟨rfl, a539, a540, a541⟩ | ⟨rfl, a542, a543, a544, a545⟩ | ⟨rfl, a546, a547, a548, a549⟩
                    · have _q : True := trivial
                      refine jx_if_eq (pc_q := 68) (tg := 70) rfl rfl rfl (by decide) (by decide) (fun h550 => ?_) (fun h550 => ?_)
                      · have _q := h550
                        exact absurd h550 (by omega)
                      · have _q := h550
                        refine jx_ar (pc_q := 69) (st_q := [.int (i32 (0))]) rfl rfl rfl rfl ?_
                        refine jx_rt (v := some (.int (i32 (0)))) rfl rfl rfl rfl rfl rfl ?_
                        exact ⟨_, _, _, rfl, rfl, hW531, hF536, by omega, trivial⟩
                    · have _q : True := trivial
                      exfalso
                      omega
                    · have _q : True := trivial
                      exfalso
                      omega
                    · have _q : True := trivial
                      exfalso
                      omega
                  · have _q := h526
                    exact absurd h526 (by omega)
                · have _q : True := trivial
                  refine jx_if_ne (pc_q := 57) (tg := 61) rfl rfl rfl (by decide) (by decide) (fun h551 => ?_) (fun h551 => ?_)
                  · have _q := h551
                    exact absurd h551 (by omega)
                  · have _q := h551
                    refine jx_ar (pc_q := 58) (st_q := [.int (i32 (1)), .int (i32 (0)), .int (i32 (1)), .ref 66]) rfl rfl rfl rfl ?_
                    refine jx_go (tg := 62) rfl rfl ?_
                    refine jx_vr (pc_q := 65) (as := [.int (i32 (1)), .int (i32 (0)), .int (i32 (1))]) (st := []) rfl rfl rfl rfl ⟨rfl, rfl, Nat.le_of_ble_eq_true rfl⟩ rfl rfl (c_refuse (dd := d) (hd := by omega) (hW := hW) (a := 1) (b := 0) (c := 1)   (h_a := ⟨(by decide), (by decide)⟩) (h_b := ⟨(by decide), (by decide)⟩) (h_c := ⟨(by decide), (by decide)⟩)  ) (fun o V_q hq => ?_)
                    obtain ⟨G552, A553, r554, th2_555, rfl, rfl, hW556, hF557, b558, e559, q560⟩ := hq
                    have hF561 := Fr_tr hF0 hF557 (Fr_sub (by decide)) (Fr_sub (by decide))
                    have bth2_555 : (0 : Int) ≤ th2_555 ∧ th2_555 ≤ 4 := e559 ▸ hW556.1 0
                    refine .inr ⟨_, rfl, ?_⟩
                    rcases q560 with ⟨rfl, a562, a563⟩ | ⟨rfl, a564, a565, a566⟩ | ⟨rfl, a567, a568, a569, a570⟩ | ⟨rfl, a571, a572, a573, a574⟩
                    · have _q : True := trivial
                      refine jx_if_eq (pc_q := 68) (tg := 70) rfl rfl rfl (by decide) (by decide) (fun h575 => ?_) (fun h575 => ?_)
                      · have _q := h575
                        exact absurd h575 (by omega)
                      · have _q := h575
                        refine jx_ar (pc_q := 69) (st_q := [.int (i32 (0))]) rfl rfl rfl rfl ?_
                        refine jx_rt (v := some (.int (i32 (0)))) rfl rfl rfl rfl rfl rfl ?_
                        exact ⟨_, _, _, rfl, rfl, hW556, hF561, by omega, trivial⟩
                    · have _q : True := trivial
                      exfalso
                      omega
                    · have _q : True := trivial
                      exfalso
                      omega
                    · have _q : True := trivial
                      exfalso
                      omega
            · have _q : True := trivial
              refine jx_if_eq (pc_q := 48) (tg := 61) rfl rfl rfl (by decide) (by decide) (fun h576 => ?_) (fun h576 => ?_)
              · have _q := h576
                refine jx_ar (pc_q := 62) (st_q := [.int (i32 (0)), .int (i32 (0)), .int (i32 (1)), .ref 66]) rfl rfl rfl rfl ?_
                refine jx_vr (pc_q := 65) (as := [.int (i32 (1)), .int (i32 (0)), .int (i32 (0))]) (st := []) rfl rfl rfl rfl ⟨rfl, rfl, Nat.le_of_ble_eq_true rfl⟩ rfl rfl (c_refuse (dd := d) (hd := by omega) (hW := hW) (a := 1) (b := 0) (c := 0)   (h_a := ⟨(by decide), (by decide)⟩) (h_b := ⟨(by decide), (by decide)⟩) (h_c := ⟨(by decide), (by decide)⟩)  ) (fun o V_q hq => ?_)
                obtain ⟨G577, A578, r579, th2_580, rfl, rfl, hW581, hF582, b583, e584, q585⟩ := hq
                have hF586 := Fr_tr hF0 hF582 (Fr_sub (by decide)) (Fr_sub (by decide))
                have bth2_580 : (0 : Int) ≤ th2_580 ∧ th2_580 ≤ 4 := e584 ▸ hW581.1 0
                refine .inr ⟨_, rfl, ?_⟩
                rcases q585 with ⟨rfl, a587, a588⟩ | ⟨rfl, a589, a590, a591⟩ | ⟨rfl, a592, a593, a594, a595⟩ | ⟨rfl, a596, a597, a598, a599⟩
                · have _q : True := trivial
                  refine jx_if_eq (pc_q := 68) (tg := 70) rfl rfl rfl (by decide) (by decide) (fun h600 => ?_) (fun h600 => ?_)
                  · have _q := h600
                    exact absurd h600 (by omega)
                  · have _q := h600
                    refine jx_ar (pc_q := 69) (st_q := [.int (i32 (0))]) rfl rfl rfl rfl ?_
                    refine jx_rt (v := some (.int (i32 (0)))) rfl rfl rfl rfl rfl rfl ?_
                    exact ⟨_, _, _, rfl, rfl, hW581, hF586, by omega, trivial⟩
                · have _q : True := trivial
                  exfalso
                  omega
                · have _q : True := trivial
                  exfalso
                  omega
                · have _q : True := trivial
                  exfalso
                  omega
              · have _q := h576
                exact absurd h576 (by omega)
        · have _q := h486
          exact absurd h486 (by omega)
      · have _q : True := trivial
        refine jx_if_ne (pc_q := 28) (tg := 32) rfl rfl rfl (by decide) (by decide) (fun h601 => ?_) (fun h601 => ?_)
        · have _q := h601
          exact absurd h601 (by omega)
        · have _q := h601
          refine jx_ar (pc_q := 29) (st_q := [.int (i32 (1)), .int (i32 (1)), .ref 66]) rfl rfl rfl rfl ?_
          refine jx_go (tg := 33) rfl rfl ?_
          refine jx_ld (pc_q := 34) (l_q := [(0, .ref 66), (1, .int (i32 (p))), (2, .int (i32 (w)))]) (st_q := [.ref 66, .int (i32 (1)), .int (i32 (1)), .ref 66]) rfl (jl_aloadn rfl) ?_
          refine jr_get (pc_q := 37) (i := 58) (v := .int (i32 (pg))) rfl rfl (by decide) (rFv_eq (by decide) (show G 58 = pg from (e_pg))) rfl ?_
          refine jx_if_eq (pc_q := 40) (tg := 61) rfl rfl rfl (Int.le_trans (by decide : (-2147483648 : Int) ≤ 0) b_pg.1) (Int.le_trans b_pg.2 (by decide : (1 : Int) ≤ 2147483647)) (fun h602 => ?_) (fun h602 => ?_)
          · have _q := h602
            refine jx_ar (pc_q := 62) (st_q := [.int (i32 (0)), .int (i32 (1)), .int (i32 (1)), .ref 66]) rfl rfl rfl rfl ?_
            refine jx_vr (pc_q := 65) (as := [.int (i32 (1)), .int (i32 (1)), .int (i32 (0))]) (st := []) rfl rfl rfl rfl ⟨rfl, rfl, Nat.le_of_ble_eq_true rfl⟩ rfl rfl (c_refuse (dd := d) (hd := by omega) (hW := hW) (a := 1) (b := 1) (c := 0)   (h_a := ⟨(by decide), (by decide)⟩) (h_b := ⟨(by decide), (by decide)⟩) (h_c := ⟨(by decide), (by decide)⟩)  ) (fun o V_q hq => ?_)
            obtain ⟨G603, A604, r605, th2_606, rfl, rfl, hW607, hF608, b609, e610, q611⟩ := hq
            have hF612 := Fr_tr hF0 hF608 (Fr_sub (by decide)) (Fr_sub (by decide))
            have bth2_606 : (0 : Int) ≤ th2_606 ∧ th2_606 ≤ 4 := e610 ▸ hW607.1 0
            refine .inr ⟨_, rfl, ?_⟩
            rcases q611 with ⟨rfl, a613, a614⟩ | ⟨rfl, a615, a616, a617⟩ | ⟨rfl, a618, a619, a620, a621⟩ | ⟨rfl, a622, a623, a624, a625⟩
            · have _q : True := trivial
              refine jx_if_eq (pc_q := 68) (tg := 70) rfl rfl rfl (by decide) (by decide) (fun h626 => ?_) (fun h626 => ?_)
              · have _q := h626
                exact absurd h626 (by omega)
              · have _q := h626
                refine jx_ar (pc_q := 69) (st_q := [.int (i32 (0))]) rfl rfl rfl rfl ?_
                refine jx_rt (v := some (.int (i32 (0)))) rfl rfl rfl rfl rfl rfl ?_
                exact ⟨_, _, _, rfl, rfl, hW607, hF612, by omega, trivial⟩
            · have _q : True := trivial
              exfalso
              omega
            · have _q : True := trivial
              exfalso
              omega
            · have _q : True := trivial
              exfalso
              omega
          · have _q := h602
            refine jx_ld (pc_q := 41) (l_q := [(0, .ref 66), (1, .int (i32 (p))), (2, .int (i32 (w)))]) (st_q := [.ref 66, .int (i32 (1)), .int (i32 (1)), .ref 66]) rfl (jl_aloadn rfl) ?_
            refine jx_ld (pc_q := 42) (l_q := [(0, .ref 66), (1, .int (i32 (p))), (2, .int (i32 (w)))]) (st_q := [.int (i32 (p)), .ref 66, .int (i32 (1)), .int (i32 (1)), .ref 66]) rfl (jl_iloadn rfl) ?_
            refine jx_vr (pc_q := 45) (as := [.int (i32 (p))]) (st := [.int (i32 (1)), .int (i32 (1)), .ref 66]) rfl rfl rfl rfl ⟨rfl, rfl, Nat.le_of_ble_eq_true rfl⟩ rfl rfl (c_isCore2 (dd := d) (hd := by omega) (hW := hW) (p := p) (bp := bp) (e_bp := show A 36 (p).toNat = bp from (e_bp))  (h_p := ⟨(Int.le_trans (by decide : (-2147483648 : Int) ≤ -2147483648) h_p.1), (Int.le_trans h_p.2 (by decide : (2147483647 : Int) ≤ 2147483647))⟩)  ) (fun o V_q hq => ?_)
            obtain ⟨r627, rfl, rfl, b628, q629⟩ := hq
            refine .inr ⟨_, rfl, ?_⟩
            rcases q629 with ⟨rfl, a630, a631, a632⟩ | ⟨rfl, a633⟩
            · have _q : True := trivial
              refine jx_if_eq (pc_q := 48) (tg := 61) rfl rfl rfl (by decide) (by decide) (fun h634 => ?_) (fun h634 => ?_)
              · have _q := h634
                exact absurd h634 (by omega)
              · have _q := h634
                refine jx_ld (pc_q := 49) (l_q := [(0, .ref 66), (1, .int (i32 (p))), (2, .int (i32 (w)))]) (st_q := [.int (i32 (w)), .int (i32 (1)), .int (i32 (1)), .ref 66]) rfl (jl_iloadn rfl) ?_
                refine jx_ar (pc_q := 50) (st_q := [.int (i32 (0)), .int (i32 (w)), .int (i32 (1)), .int (i32 (1)), .ref 66]) rfl rfl rfl rfl ?_
                refine jx_ar (pc_q := 51) (st_q := [.int (i32 (3)), .int (i32 (0)), .int (i32 (w)), .int (i32 (1)), .int (i32 (1)), .ref 66]) rfl rfl rfl rfl ?_
                refine jx_st (pc_q := 54) (as := [.int (i32 (w)), .int (i32 (0)), .int (i32 (3))]) (st := [.int (i32 (1)), .int (i32 (1)), .ref 66]) rfl rfl ⟨rfl, Nat.le_of_ble_eq_true rfl⟩ rfl rfl rfl (c_in (dd := d) (hd := by omega) (v := w) (a := 0) (b := 3)   (h_v := ⟨(Int.le_trans (by decide : (-2147483648 : Int) ≤ -2147483648) h_w.1), (Int.le_trans h_w.2 (by decide : (2147483647 : Int) ≤ 2147483647))⟩) (h_a := ⟨(by decide), (by decide)⟩) (h_b := ⟨(by decide), (by decide)⟩)  ) (fun o V_q hq => ?_)
                obtain ⟨r635, rfl, rfl, b636, q637⟩ := hq
                refine .inr ⟨_, rfl, ?_⟩
                rcases q637 with ⟨rfl, a638, a639⟩ | ⟨rfl, a640⟩
                · have _q : True := trivial
                  refine jx_if_ne (pc_q := 57) (tg := 61) rfl rfl rfl (by decide) (by decide) (fun h641 => ?_) (fun h641 => ?_)
                  · have _q := h641
                    refine jx_ar (pc_q := 62) (st_q := [.int (i32 (0)), .int (i32 (1)), .int (i32 (1)), .ref 66]) rfl rfl rfl rfl ?_
                    refine jx_vr (pc_q := 65) (as := [.int (i32 (1)), .int (i32 (1)), .int (i32 (0))]) (st := []) rfl rfl rfl rfl ⟨rfl, rfl, Nat.le_of_ble_eq_true rfl⟩ rfl rfl (c_refuse (dd := d) (hd := by omega) (hW := hW) (a := 1) (b := 1) (c := 0)   (h_a := ⟨(by decide), (by decide)⟩) (h_b := ⟨(by decide), (by decide)⟩) (h_c := ⟨(by decide), (by decide)⟩)  ) (fun o V_q hq => ?_)
                    obtain ⟨G642, A643, r644, th2_645, rfl, rfl, hW646, hF647, b648, e649, q650⟩ := hq
                    have hF651 := Fr_tr hF0 hF647 (Fr_sub (by decide)) (Fr_sub (by decide))
                    have bth2_645 : (0 : Int) ≤ th2_645 ∧ th2_645 ≤ 4 := e649 ▸ hW646.1 0
                    refine .inr ⟨_, rfl, ?_⟩
                    rcases q650 with ⟨rfl, a652, a653⟩ | ⟨rfl, a654, a655, a656⟩ | ⟨rfl, a657, a658, a659, a660⟩ | ⟨rfl, a661, a662, a663, a664⟩
                    · have _q : True := trivial
                      refine jx_if_eq (pc_q := 68) (tg := 70) rfl rfl rfl (by decide) (by decide) (fun h665 => ?_) (fun h665 => ?_)
                      · have _q := h665
                        exact absurd h665 (by omega)
                      · have _q := h665
                        refine jx_ar (pc_q := 69) (st_q := [.int (i32 (0))]) rfl rfl rfl rfl ?_
                        refine jx_rt (v := some (.int (i32 (0)))) rfl rfl rfl rfl rfl rfl ?_
                        exact ⟨_, _, _, rfl, rfl, hW646, hF651, by omega, trivial⟩
                    · have _q : True := trivial
                      exfalso
                      omega
                    · have _q : True := trivial
                      exfalso
                      omega
                    · have _q : True := trivial
                      exfalso
                      omega
                  · have _q := h641
                    exact absurd h641 (by omega)
                · have _q : True := trivial
                  refine jx_if_ne (pc_q := 57) (tg := 61) rfl rfl rfl (by decide) (by decide) (fun h666 => ?_) (fun h666 => ?_)
                  · have _q := h666
                    exact absurd h666 (by omega)
                  · have _q := h666
                    refine jx_ar (pc_q := 58) (st_q := [.int (i32 (1)), .int (i32 (1)), .int (i32 (1)), .ref 66]) rfl rfl rfl rfl ?_
                    refine jx_go (tg := 62) rfl rfl ?_
                    refine jx_vr (pc_q := 65) (as := [.int (i32 (1)), .int (i32 (1)), .int (i32 (1))]) (st := []) rfl rfl rfl rfl ⟨rfl, rfl, Nat.le_of_ble_eq_true rfl⟩ rfl rfl (c_refuse (dd := d) (hd := by omega) (hW := hW) (a := 1) (b := 1) (c := 1)   (h_a := ⟨(by decide), (by decide)⟩) (h_b := ⟨(by decide), (by decide)⟩) (h_c := ⟨(by decide), (by decide)⟩)  ) (fun o V_q hq => ?_)
                    obtain ⟨G667, A668, r669, th2_670, rfl, rfl, hW671, hF672, b673, e674, q675⟩ := hq
                    have hF676 := Fr_tr hF0 hF672 (Fr_sub (by decide)) (Fr_sub (by decide))
                    have bth2_670 : (0 : Int) ≤ th2_670 ∧ th2_670 ≤ 4 := e674 ▸ hW671.1 0
                    refine .inr ⟨_, rfl, ?_⟩
                    rcases q675 with ⟨rfl, a677, a678⟩ | ⟨rfl, a679, a680, a681⟩ | ⟨rfl, a682, a683, a684, a685⟩ | ⟨rfl, a686, a687, a688, a689⟩
                    · have _q : True := trivial
                      refine jx_if_eq (pc_q := 68) (tg := 70) rfl rfl rfl (by decide) (by decide) (fun h690 => ?_) (fun h690 => ?_)
                      · have _q := h690
                        exact absurd h690 (by omega)
                      · have _q := h690
                        refine jx_ar (pc_q := 69) (st_q := [.int (i32 (0))]) rfl rfl rfl rfl ?_
                        refine jx_rt (v := some (.int (i32 (0)))) rfl rfl rfl rfl rfl rfl ?_
                        exact ⟨_, _, _, rfl, rfl, hW671, hF676, by omega, trivial⟩
                    · have _q : True := trivial
                      exfalso
                      omega
                    · have _q : True := trivial
                      exfalso
                      omega
                    · have _q : True := trivial
                      exfalso
                      omega
            · have _q : True := trivial
              refine jx_if_eq (pc_q := 48) (tg := 61) rfl rfl rfl (by decide) (by decide) (fun h691 => ?_) (fun h691 => ?_)
              · have _q := h691
                refine jx_ar (pc_q := 62) (st_q := [.int (i32 (0)), .int (i32 (1)), .int (i32 (1)), .ref 66]) rfl rfl rfl rfl ?_
                refine jx_vr (pc_q := 65) (as := [.int (i32 (1)), .int (i32 (1)), .int (i32 (0))]) (st := []) rfl rfl rfl rfl ⟨rfl, rfl, Nat.le_of_ble_eq_true rfl⟩ rfl rfl (c_refuse (dd := d) (hd := by omega) (hW := hW) (a := 1) (b := 1) (c := 0)   (h_a := ⟨(by decide), (by decide)⟩) (h_b := ⟨(by decide), (by decide)⟩) (h_c := ⟨(by decide), (by decide)⟩)  ) (fun o V_q hq => ?_)
                obtain ⟨G692, A693, r694, th2_695, rfl, rfl, hW696, hF697, b698, e699, q700⟩ := hq
                have hF701 := Fr_tr hF0 hF697 (Fr_sub (by decide)) (Fr_sub (by decide))
                have bth2_695 : (0 : Int) ≤ th2_695 ∧ th2_695 ≤ 4 := e699 ▸ hW696.1 0
                refine .inr ⟨_, rfl, ?_⟩
                rcases q700 with ⟨rfl, a702, a703⟩ | ⟨rfl, a704, a705, a706⟩ | ⟨rfl, a707, a708, a709, a710⟩ | ⟨rfl, a711, a712, a713, a714⟩
                · have _q : True := trivial
                  refine jx_if_eq (pc_q := 68) (tg := 70) rfl rfl rfl (by decide) (by decide) (fun h715 => ?_) (fun h715 => ?_)
                  · have _q := h715
                    exact absurd h715 (by omega)
                  · have _q := h715
                    refine jx_ar (pc_q := 69) (st_q := [.int (i32 (0))]) rfl rfl rfl rfl ?_
                    refine jx_rt (v := some (.int (i32 (0)))) rfl rfl rfl rfl rfl rfl ?_
                    exact ⟨_, _, _, rfl, rfl, hW696, hF701, by omega, trivial⟩
                · have _q : True := trivial
                  exfalso
                  omega
                · have _q : True := trivial
                  exfalso
                  omega
                · have _q : True := trivial
                  exfalso
                  omega
              · have _q := h691
                exact absurd h691 (by omega)
set_option maxRecDepth 20000 in
set_option maxHeartbeats 4000000 in
theorem c_code_at_70 {X : jX} {d : Nat} {c0 c1 : jC} {G : Nat → Int} {A : Nat → Nat → Int} {T : jH} {p k : Int} {pg bp cs : Int} (hd : 4 ≤ d + 1) (hW : Wk G A) (e_pg : G 58 = pg) (e_bp : A 36 (p).toNat = bp) (e_cs : A 54 (p).toNat = cs) (h_p : (-2147483648 : Int) ≤ p ∧ p ≤ 2147483647) (h_k : (-2147483648 : Int) ≤ k ∧ k ≤ 2147483647) (p_0 : (pg) = 1 → BD A) : ∀ (L : jL) (Gx : Nat → Int) (Ax : Nat → Nat → Int), jGet L 0 = some (.ref 66) → jGet L 1 = some (.int (i32 (p))) → jGet L 2 = some (.int (i32 (k))) → Wk Gx Ax → Fr [0] [] G A Gx Ax → (0 ≤ p) → (p ≤ 5) → (0 ≤ k) → (k ≤ 5999) → wj X d jm405 (70, L, [], rV c0 c1 Gx Ax T) (fun o V_q => ∃ (G_q : Nat → Int) (A_q : Nat → Nat → Int) (r : Int), V_q = rV c0 c1 G_q A_q T ∧ o = .inl (some (.int (i32 r))) ∧ Wk G_q A_q ∧ Fr [0] [] G A G_q A_q ∧ ((-2147483648 : Int) ≤ r ∧ r ≤ 2147483647) ∧ True) := by
  have hF0 : Fr [0] [] G A G A := Fr_rf
  have b_pg : (0 : Int) ≤ pg ∧ pg ≤ 1 := e_pg ▸ hW.1 58
  have b_bp : (-2147483648 : Int) ≤ bp ∧ bp ≤ 2147483647 := e_bp ▸ hW.2 36 _
  have b_cs : (-2147483648 : Int) ≤ cs ∧ cs ≤ 2147483647 := e_cs ▸ hW.2 54 _
  intro L Gx Ax gL_0 gL_1 gL_2 hWx hFx iv_0 iv_1 iv_2 iv_3
  refine jx_ld (pc_q := 71) (l_q := L) (st_q := [.ref 66]) rfl (jl_aloadn gL_0) ?_
  refine jr_get (pc_q := 74) (i := 83) (v := .ref 120) rfl rfl (by decide) rfl rfl ?_
  refine jx_ar (pc_q := 77) (st_q := [.int (i32 (6000)), .ref 120]) rfl rfl rfl rfl ?_
  refine jx_ld (pc_q := 78) (l_q := L) (st_q := [.int (i32 (p)), .int (i32 (6000)), .ref 120]) rfl (jl_iloadn gL_1) ?_
  refine jx_mul (pc_q := 79) rfl rfl ?_
  refine jx_ld (pc_q := 80) (l_q := L) (st_q := [.int (i32 (k)), .int (i32 ((6000 * p))), .ref 120]) rfl (jl_iloadn gL_2) ?_
  refine jx_add (pc_q := 81) rfl rfl ?_
  have b1 : (-2147483648 : Int) ≤ A 53 (((6000 * p) + k)).toNat ∧ A 53 (((6000 * p) + k)).toNat ≤ 2147483647 := hW.2 53 _
  refine jr_ldv (pc_q := 82) (i := 53) (m := 36000) (z := ((6000 * p) + k)) (y := A 53 (((6000 * p) + k)).toNat) rfl (by decide) rfl (by decide) (by omega) (by omega) rfl (show Ax 53 (((6000 * p) + k)).toNat = A 53 (((6000 * p) + k)).toNat from (congrFun (hFx.2 53 rfl) _)) ?_
  refine jx_rt (v := some (.int (i32 (A 53 (((6000 * p) + k)).toNat)))) rfl rfl rfl rfl rfl rfl ?_
  exact ⟨_, _, _, rfl, rfl, hWx, hFx, by omega, trivial⟩
set_option maxRecDepth 20000 in
set_option maxHeartbeats 4000000 in
theorem c_code {X : jX} {dd : Nat} {c0 c1 : jC} {G : Nat → Int} {A : Nat → Nat → Int} {T : jH} {p k : Int} {pg bp cs : Int} (hd : 4 ≤ dd) (hW : Wk G A) (e_pg : G 58 = pg) (e_bp : A 36 (p).toNat = bp) (e_cs : A 54 (p).toNat = cs) (h_p : (-2147483648 : Int) ≤ p ∧ p ≤ 2147483647) (h_k : (-2147483648 : Int) ≤ k ∧ k ≤ 2147483647) (p_0 : (pg) = 1 → BD A) : wk X dd 405 [.ref 66, .int (i32 p), .int (i32 k)] (rV c0 c1 G A T) (fun o V_q => ∃ (G_q : Nat → Int) (A_q : Nat → Nat → Int) (r : Int), V_q = rV c0 c1 G_q A_q T ∧ o = .inl (some (.int (i32 r))) ∧ Wk G_q A_q ∧ Fr [0] [] G A G_q A_q ∧ ((-2147483648 : Int) ≤ r ∧ r ≤ 2147483647) ∧ True) := by
  obtain ⟨d, rfl⟩ : ∃ d, dd = d + 1 := ⟨dd - 1, by omega⟩
  refine wk_of (e := jm405) rfl (Nat.le_of_ble_eq_true rfl) ?_
  show wj X d jm405 (0, [(0, .ref 66), (1, .int (i32 (p))), (2, .int (i32 (k)))], [], rV c0 c1 G A T) _
  have hF0 : Fr [0] [] G A G A := Fr_rf
  have b_pg : (0 : Int) ≤ pg ∧ pg ≤ 1 := e_pg ▸ hW.1 58
  have b_bp : (-2147483648 : Int) ≤ bp ∧ bp ≤ 2147483647 := e_bp ▸ hW.2 36 _
  have b_cs : (-2147483648 : Int) ≤ cs ∧ cs ≤ 2147483647 := e_cs ▸ hW.2 54 _
  refine jx_ld (pc_q := 1) (l_q := [(0, .ref 66), (1, .int (i32 (p))), (2, .int (i32 (k)))]) (st_q := [.ref 66]) rfl (jl_aloadn rfl) ?_
  refine jx_ld (pc_q := 2) (l_q := [(0, .ref 66), (1, .int (i32 (p))), (2, .int (i32 (k)))]) (st_q := [.ref 66, .ref 66]) rfl (jl_aloadn rfl) ?_
  refine jr_get (pc_q := 5) (i := 58) (v := .int (i32 (pg))) rfl rfl (by decide) (rFv_eq (by decide) (show G 58 = pg from (e_pg))) rfl ?_
  refine jx_if_ne (pc_q := 8) (tg := 12) rfl rfl rfl (Int.le_trans (by decide : (-2147483648 : Int) ≤ 0) b_pg.1) (Int.le_trans b_pg.2 (by decide : (1 : Int) ≤ 2147483647)) (fun h2 => ?_) (fun h2 => ?_)
  · have _q := h2
    refine jx_ar (pc_q := 13) (st_q := [.int (i32 (0)), .ref 66]) rfl rfl rfl rfl ?_
    refine jx_ld (pc_q := 14) (l_q := [(0, .ref 66), (1, .int (i32 (p))), (2, .int (i32 (k)))]) (st_q := [.ref 66, .int (i32 (0)), .ref 66]) rfl (jl_aloadn rfl) ?_
    refine jr_get (pc_q := 17) (i := 58) (v := .int (i32 (pg))) rfl rfl (by decide) (rFv_eq (by decide) (show G 58 = pg from (e_pg))) rfl ?_
    refine jx_if_eq (pc_q := 20) (tg := 32) rfl rfl rfl (Int.le_trans (by decide : (-2147483648 : Int) ≤ 0) b_pg.1) (Int.le_trans b_pg.2 (by decide : (1 : Int) ≤ 2147483647)) (fun h3 => ?_) (fun h3 => ?_)
    · have _q := h3
      refine jx_ar (pc_q := 33) (st_q := [.int (i32 (0)), .int (i32 (0)), .ref 66]) rfl rfl rfl rfl ?_
      refine jx_ld (pc_q := 34) (l_q := [(0, .ref 66), (1, .int (i32 (p))), (2, .int (i32 (k)))]) (st_q := [.ref 66, .int (i32 (0)), .int (i32 (0)), .ref 66]) rfl (jl_aloadn rfl) ?_
      refine jr_get (pc_q := 37) (i := 58) (v := .int (i32 (pg))) rfl rfl (by decide) (rFv_eq (by decide) (show G 58 = pg from (e_pg))) rfl ?_
      refine jx_if_eq (pc_q := 40) (tg := 61) rfl rfl rfl (Int.le_trans (by decide : (-2147483648 : Int) ≤ 0) b_pg.1) (Int.le_trans b_pg.2 (by decide : (1 : Int) ≤ 2147483647)) (fun h4 => ?_) (fun h4 => ?_)
      · have _q := h4
        refine jx_ar (pc_q := 62) (st_q := [.int (i32 (0)), .int (i32 (0)), .int (i32 (0)), .ref 66]) rfl rfl rfl rfl ?_
        refine jx_vr (pc_q := 65) (as := [.int (i32 (0)), .int (i32 (0)), .int (i32 (0))]) (st := []) rfl rfl rfl rfl ⟨rfl, rfl, Nat.le_of_ble_eq_true rfl⟩ rfl rfl (c_refuse (dd := d) (hd := by omega) (hW := hW) (a := 0) (b := 0) (c := 0)   (h_a := ⟨(by decide), (by decide)⟩) (h_b := ⟨(by decide), (by decide)⟩) (h_c := ⟨(by decide), (by decide)⟩)  ) (fun o V_q hq => ?_)
        obtain ⟨G5, A6, r7, th2_8, rfl, rfl, hW9, hF10, b11, e12, q13⟩ := hq
        have hF14 := Fr_tr hF0 hF10 (Fr_sub (by decide)) (Fr_sub (by decide))
        have sf15 : (pg) = 1 → BD A6 := (show A6 = A from funext (fun k => hF10.2 k rfl)) ▸ p_0
        have bth2_8 : (0 : Int) ≤ th2_8 ∧ th2_8 ≤ 4 := e12 ▸ hW9.1 0
        refine .inr ⟨_, rfl, ?_⟩
        rcases q13 with ⟨rfl, a16, a17⟩ | ⟨rfl, a18, a19, a20⟩ | ⟨rfl, a21, a22, a23, a24⟩ | ⟨rfl, a25, a26, a27, a28⟩
        · have _q : True := trivial
          exfalso
          omega
        · have _q : True := trivial
          exfalso
          omega
        · have _q : True := trivial
          exfalso
          omega
        · have _q : True := trivial
          refine jx_if_eq (pc_q := 68) (tg := 70) rfl rfl rfl (by decide) (by decide) (fun h29 => ?_) (fun h29 => ?_)
          · have _q := h29
            exact c_code_at_70 (X := X) (d := d) (c0 := c0) (c1 := c1) (G := G) (A := A) (T := T) (p := p) (k := k) (pg := pg) (bp := bp) (cs := cs) (hd := hd) (hW := hW) (e_pg := e_pg) (e_bp := e_bp) (e_cs := e_cs) (h_p := h_p) (h_k := h_k) (p_0 := p_0) [(0, .ref 66), (1, .int (i32 (p))), (2, .int (i32 (k)))] G5 A6 rfl rfl rfl hW9 hF14 (by omega) (by omega) (by omega) (by omega)
          · have _q := h29
            exact absurd h29 (by omega)
      · have _q := h4
        refine jx_ld (pc_q := 41) (l_q := [(0, .ref 66), (1, .int (i32 (p))), (2, .int (i32 (k)))]) (st_q := [.ref 66, .int (i32 (0)), .int (i32 (0)), .ref 66]) rfl (jl_aloadn rfl) ?_
        refine jx_ld (pc_q := 42) (l_q := [(0, .ref 66), (1, .int (i32 (p))), (2, .int (i32 (k)))]) (st_q := [.int (i32 (p)), .ref 66, .int (i32 (0)), .int (i32 (0)), .ref 66]) rfl (jl_iloadn rfl) ?_
        refine jx_vr (pc_q := 45) (as := [.int (i32 (p))]) (st := [.int (i32 (0)), .int (i32 (0)), .ref 66]) rfl rfl rfl rfl ⟨rfl, rfl, Nat.le_of_ble_eq_true rfl⟩ rfl rfl (c_isCore2 (dd := d) (hd := by omega) (hW := hW) (p := p) (bp := bp) (e_bp := show A 36 (p).toNat = bp from (e_bp))  (h_p := ⟨(Int.le_trans (by decide : (-2147483648 : Int) ≤ -2147483648) h_p.1), (Int.le_trans h_p.2 (by decide : (2147483647 : Int) ≤ 2147483647))⟩)  ) (fun o V_q hq => ?_)
        obtain ⟨r30, rfl, rfl, b31, q32⟩ := hq
        refine .inr ⟨_, rfl, ?_⟩
        rcases q32 with ⟨rfl, a33, a34, a35⟩ | ⟨rfl, a36⟩
        · have _q : True := trivial
          refine jx_if_eq (pc_q := 48) (tg := 61) rfl rfl rfl (by decide) (by decide) (fun h37 => ?_) (fun h37 => ?_)
          · have _q := h37
            exact absurd h37 (by omega)
          · have _q := h37
            have hbd := p_0 (by omega) p (by omega) (by omega) (by rw [show A 36 (p).toNat = bp from e_bp]; omega); rw [show A 54 (p).toNat = cs from e_cs] at hbd
            refine jx_ld (pc_q := 49) (l_q := [(0, .ref 66), (1, .int (i32 (p))), (2, .int (i32 (k)))]) (st_q := [.ref 66, .int (i32 (0)), .int (i32 (0)), .ref 66]) rfl (jl_aloadn rfl) ?_
            refine jx_ld (pc_q := 50) (l_q := [(0, .ref 66), (1, .int (i32 (p))), (2, .int (i32 (k)))]) (st_q := [.int (i32 (p)), .ref 66, .int (i32 (0)), .int (i32 (0)), .ref 66]) rfl (jl_iloadn rfl) ?_
            refine jx_ld (pc_q := 51) (l_q := [(0, .ref 66), (1, .int (i32 (p))), (2, .int (i32 (k)))]) (st_q := [.int (i32 (k)), .int (i32 (p)), .ref 66, .int (i32 (0)), .int (i32 (0)), .ref 66]) rfl (jl_iloadn rfl) ?_
            refine jx_vr (pc_q := 54) (as := [.int (i32 (p)), .int (i32 (k))]) (st := [.int (i32 (0)), .int (i32 (0)), .ref 66]) rfl rfl rfl rfl ⟨rfl, rfl, Nat.le_of_ble_eq_true rfl⟩ rfl rfl (c_isByte (dd := d) (hd := by omega) (hW := hW) (p := p) (k := k) (bp := bp) (e_bp := show A 36 (p).toNat = bp from (e_bp)) (cs := cs) (e_cs := show A 54 (p).toNat = cs from (e_cs))  (h_p := ⟨(Int.le_trans (by decide : (-2147483648 : Int) ≤ -2147483648) h_p.1), (Int.le_trans h_p.2 (by decide : (2147483647 : Int) ≤ 2147483647))⟩) (h_k := ⟨(Int.le_trans (by decide : (-2147483648 : Int) ≤ -2147483648) h_k.1), (Int.le_trans h_k.2 (by decide : (2147483647 : Int) ≤ 2147483647))⟩)  (p_0 := (p_0 (by omega)))) (fun o V_q hq => ?_)
            obtain ⟨r38, rfl, rfl, b39, q40⟩ := hq
            refine .inr ⟨_, rfl, ?_⟩
            rcases q40 with ⟨rfl, a41, a42, a43, a44, a45⟩ | ⟨rfl, a46⟩
            · have _q : True := trivial
              refine jx_if_ne (pc_q := 57) (tg := 61) rfl rfl rfl (by decide) (by decide) (fun h47 => ?_) (fun h47 => ?_)
              · have _q := h47
                refine jx_ar (pc_q := 62) (st_q := [.int (i32 (0)), .int (i32 (0)), .int (i32 (0)), .ref 66]) rfl rfl rfl rfl ?_
                refine jx_vr (pc_q := 65) (as := [.int (i32 (0)), .int (i32 (0)), .int (i32 (0))]) (st := []) rfl rfl rfl rfl ⟨rfl, rfl, Nat.le_of_ble_eq_true rfl⟩ rfl rfl (c_refuse (dd := d) (hd := by omega) (hW := hW) (a := 0) (b := 0) (c := 0)   (h_a := ⟨(by decide), (by decide)⟩) (h_b := ⟨(by decide), (by decide)⟩) (h_c := ⟨(by decide), (by decide)⟩)  ) (fun o V_q hq => ?_)
                obtain ⟨G48, A49, r50, th2_51, rfl, rfl, hW52, hF53, b54, e55, q56⟩ := hq
                have hF57 := Fr_tr hF0 hF53 (Fr_sub (by decide)) (Fr_sub (by decide))
                have sf58 : (pg) = 1 → BD A49 := (show A49 = A from funext (fun k => hF53.2 k rfl)) ▸ p_0
                have bth2_51 : (0 : Int) ≤ th2_51 ∧ th2_51 ≤ 4 := e55 ▸ hW52.1 0
                refine .inr ⟨_, rfl, ?_⟩
                rcases q56 with ⟨rfl, a59, a60⟩ | ⟨rfl, a61, a62, a63⟩ | ⟨rfl, a64, a65, a66, a67⟩ | ⟨rfl, a68, a69, a70, a71⟩
                · have _q : True := trivial
                  exfalso
                  omega
                · have _q : True := trivial
                  exfalso
                  omega
                · have _q : True := trivial
                  exfalso
                  omega
                · have _q : True := trivial
                  refine jx_if_eq (pc_q := 68) (tg := 70) rfl rfl rfl (by decide) (by decide) (fun h72 => ?_) (fun h72 => ?_)
                  · have _q := h72
                    exact c_code_at_70 (X := X) (d := d) (c0 := c0) (c1 := c1) (G := G) (A := A) (T := T) (p := p) (k := k) (pg := pg) (bp := bp) (cs := cs) (hd := hd) (hW := hW) (e_pg := e_pg) (e_bp := e_bp) (e_cs := e_cs) (h_p := h_p) (h_k := h_k) (p_0 := p_0) [(0, .ref 66), (1, .int (i32 (p))), (2, .int (i32 (k)))] G48 A49 rfl rfl rfl hW52 hF57 (by omega) (by omega) (by omega) (by omega)
                  · have _q := h72
                    exact absurd h72 (by omega)
              · have _q := h47
                exact absurd h47 (by omega)
            · have _q : True := trivial
              refine jx_if_ne (pc_q := 57) (tg := 61) rfl rfl rfl (by decide) (by decide) (fun h73 => ?_) (fun h73 => ?_)
              · have _q := h73
                exact absurd h73 (by omega)
              · have _q := h73
                refine jx_ar (pc_q := 58) (st_q := [.int (i32 (1)), .int (i32 (0)), .int (i32 (0)), .ref 66]) rfl rfl rfl rfl ?_
                refine jx_go (tg := 62) rfl rfl ?_
                refine jx_vr (pc_q := 65) (as := [.int (i32 (0)), .int (i32 (0)), .int (i32 (1))]) (st := []) rfl rfl rfl rfl ⟨rfl, rfl, Nat.le_of_ble_eq_true rfl⟩ rfl rfl (c_refuse (dd := d) (hd := by omega) (hW := hW) (a := 0) (b := 0) (c := 1)   (h_a := ⟨(by decide), (by decide)⟩) (h_b := ⟨(by decide), (by decide)⟩) (h_c := ⟨(by decide), (by decide)⟩)  ) (fun o V_q hq => ?_)
                obtain ⟨G74, A75, r76, th2_77, rfl, rfl, hW78, hF79, b80, e81, q82⟩ := hq
                have hF83 := Fr_tr hF0 hF79 (Fr_sub (by decide)) (Fr_sub (by decide))
                have sf84 : (pg) = 1 → BD A75 := (show A75 = A from funext (fun k => hF79.2 k rfl)) ▸ p_0
                have bth2_77 : (0 : Int) ≤ th2_77 ∧ th2_77 ≤ 4 := e81 ▸ hW78.1 0
                refine .inr ⟨_, rfl, ?_⟩
                rcases q82 with ⟨rfl, a85, a86⟩ | ⟨rfl, a87, a88, a89⟩ | ⟨rfl, a90, a91, a92, a93⟩ | ⟨rfl, a94, a95, a96, a97⟩
                · have _q : True := trivial
                  exfalso
                  omega
                · have _q : True := trivial
                  exfalso
                  omega
                · have _q : True := trivial
                  refine jx_if_eq (pc_q := 68) (tg := 70) rfl rfl rfl (by decide) (by decide) (fun h98 => ?_) (fun h98 => ?_)
                  · have _q := h98
                    exact absurd h98 (by omega)
                  · have _q := h98
                    refine jx_ar (pc_q := 69) (st_q := [.int (i32 (0))]) rfl rfl rfl rfl ?_
                    refine jx_rt (v := some (.int (i32 (0)))) rfl rfl rfl rfl rfl rfl ?_
                    exact ⟨_, _, _, rfl, rfl, hW78, hF83, by omega, trivial⟩
                · have _q : True := trivial
                  exfalso
                  omega
        · have _q : True := trivial
          refine jx_if_eq (pc_q := 48) (tg := 61) rfl rfl rfl (by decide) (by decide) (fun h99 => ?_) (fun h99 => ?_)
          · have _q := h99
            refine jx_ar (pc_q := 62) (st_q := [.int (i32 (0)), .int (i32 (0)), .int (i32 (0)), .ref 66]) rfl rfl rfl rfl ?_
            refine jx_vr (pc_q := 65) (as := [.int (i32 (0)), .int (i32 (0)), .int (i32 (0))]) (st := []) rfl rfl rfl rfl ⟨rfl, rfl, Nat.le_of_ble_eq_true rfl⟩ rfl rfl (c_refuse (dd := d) (hd := by omega) (hW := hW) (a := 0) (b := 0) (c := 0)   (h_a := ⟨(by decide), (by decide)⟩) (h_b := ⟨(by decide), (by decide)⟩) (h_c := ⟨(by decide), (by decide)⟩)  ) (fun o V_q hq => ?_)
            obtain ⟨G100, A101, r102, th2_103, rfl, rfl, hW104, hF105, b106, e107, q108⟩ := hq
            have hF109 := Fr_tr hF0 hF105 (Fr_sub (by decide)) (Fr_sub (by decide))
            have sf110 : (pg) = 1 → BD A101 := (show A101 = A from funext (fun k => hF105.2 k rfl)) ▸ p_0
            have bth2_103 : (0 : Int) ≤ th2_103 ∧ th2_103 ≤ 4 := e107 ▸ hW104.1 0
            refine .inr ⟨_, rfl, ?_⟩
            rcases q108 with ⟨rfl, a111, a112⟩ | ⟨rfl, a113, a114, a115⟩ | ⟨rfl, a116, a117, a118, a119⟩ | ⟨rfl, a120, a121, a122, a123⟩
            · have _q : True := trivial
              exfalso
              omega
            · have _q : True := trivial
              exfalso
              omega
            · have _q : True := trivial
              exfalso
              omega
            · have _q : True := trivial
              refine jx_if_eq (pc_q := 68) (tg := 70) rfl rfl rfl (by decide) (by decide) (fun h124 => ?_) (fun h124 => ?_)
              · have _q := h124
                exact c_code_at_70 (X := X) (d := d) (c0 := c0) (c1 := c1) (G := G) (A := A) (T := T) (p := p) (k := k) (pg := pg) (bp := bp) (cs := cs) (hd := hd) (hW := hW) (e_pg := e_pg) (e_bp := e_bp) (e_cs := e_cs) (h_p := h_p) (h_k := h_k) (p_0 := p_0) [(0, .ref 66), (1, .int (i32 (p))), (2, .int (i32 (k)))] G100 A101 rfl rfl rfl hW104 hF109 (by omega) (by omega) (by omega) (by omega)
              · have _q := h124
                exact absurd h124 (by omega)
          · have _q := h99
            exact absurd h99 (by omega)
    · have _q := h3
      refine jx_ld (pc_q := 21) (l_q := [(0, .ref 66), (1, .int (i32 (p))), (2, .int (i32 (k)))]) (st_q := [.ref 66, .int (i32 (0)), .ref 66]) rfl (jl_aloadn rfl) ?_
      refine jx_ld (pc_q := 22) (l_q := [(0, .ref 66), (1, .int (i32 (p))), (2, .int (i32 (k)))]) (st_q := [.int (i32 (p)), .ref 66, .int (i32 (0)), .ref 66]) rfl (jl_iloadn rfl) ?_
      refine jx_vr (pc_q := 25) (as := [.int (i32 (p))]) (st := [.int (i32 (0)), .ref 66]) rfl rfl rfl rfl ⟨rfl, rfl, Nat.le_of_ble_eq_true rfl⟩ rfl rfl (c_isCore2 (dd := d) (hd := by omega) (hW := hW) (p := p) (bp := bp) (e_bp := show A 36 (p).toNat = bp from (e_bp))  (h_p := ⟨(Int.le_trans (by decide : (-2147483648 : Int) ≤ -2147483648) h_p.1), (Int.le_trans h_p.2 (by decide : (2147483647 : Int) ≤ 2147483647))⟩)  ) (fun o V_q hq => ?_)
      obtain ⟨r125, rfl, rfl, b126, q127⟩ := hq
      refine .inr ⟨_, rfl, ?_⟩
      rcases q127 with ⟨rfl, a128, a129, a130⟩ | ⟨rfl, a131⟩
      · have _q : True := trivial
        refine jx_if_ne (pc_q := 28) (tg := 32) rfl rfl rfl (by decide) (by decide) (fun h132 => ?_) (fun h132 => ?_)
        · have _q := h132
          refine jx_ar (pc_q := 33) (st_q := [.int (i32 (0)), .int (i32 (0)), .ref 66]) rfl rfl rfl rfl ?_
          refine jx_ld (pc_q := 34) (l_q := [(0, .ref 66), (1, .int (i32 (p))), (2, .int (i32 (k)))]) (st_q := [.ref 66, .int (i32 (0)), .int (i32 (0)), .ref 66]) rfl (jl_aloadn rfl) ?_
          refine jr_get (pc_q := 37) (i := 58) (v := .int (i32 (pg))) rfl rfl (by decide) (rFv_eq (by decide) (show G 58 = pg from (e_pg))) rfl ?_
          refine jx_if_eq (pc_q := 40) (tg := 61) rfl rfl rfl (Int.le_trans (by decide : (-2147483648 : Int) ≤ 0) b_pg.1) (Int.le_trans b_pg.2 (by decide : (1 : Int) ≤ 2147483647)) (fun h133 => ?_) (fun h133 => ?_)
          · have _q := h133
            refine jx_ar (pc_q := 62) (st_q := [.int (i32 (0)), .int (i32 (0)), .int (i32 (0)), .ref 66]) rfl rfl rfl rfl ?_
            refine jx_vr (pc_q := 65) (as := [.int (i32 (0)), .int (i32 (0)), .int (i32 (0))]) (st := []) rfl rfl rfl rfl ⟨rfl, rfl, Nat.le_of_ble_eq_true rfl⟩ rfl rfl (c_refuse (dd := d) (hd := by omega) (hW := hW) (a := 0) (b := 0) (c := 0)   (h_a := ⟨(by decide), (by decide)⟩) (h_b := ⟨(by decide), (by decide)⟩) (h_c := ⟨(by decide), (by decide)⟩)  ) (fun o V_q hq => ?_)
            obtain ⟨G134, A135, r136, th2_137, rfl, rfl, hW138, hF139, b140, e141, q142⟩ := hq
            have hF143 := Fr_tr hF0 hF139 (Fr_sub (by decide)) (Fr_sub (by decide))
            have sf144 : (pg) = 1 → BD A135 := (show A135 = A from funext (fun k => hF139.2 k rfl)) ▸ p_0
            have bth2_137 : (0 : Int) ≤ th2_137 ∧ th2_137 ≤ 4 := e141 ▸ hW138.1 0
            refine .inr ⟨_, rfl, ?_⟩
            rcases q142 with ⟨rfl, a145, a146⟩ | ⟨rfl, a147, a148, a149⟩ | ⟨rfl, a150, a151, a152, a153⟩ | ⟨rfl, a154, a155, a156, a157⟩
            · have _q : True := trivial
              exfalso
              omega
            · have _q : True := trivial
              exfalso
              omega
            · have _q : True := trivial
              exfalso
              omega
            · have _q : True := trivial
              refine jx_if_eq (pc_q := 68) (tg := 70) rfl rfl rfl (by decide) (by decide) (fun h158 => ?_) (fun h158 => ?_)
              · have _q := h158
                exact c_code_at_70 (X := X) (d := d) (c0 := c0) (c1 := c1) (G := G) (A := A) (T := T) (p := p) (k := k) (pg := pg) (bp := bp) (cs := cs) (hd := hd) (hW := hW) (e_pg := e_pg) (e_bp := e_bp) (e_cs := e_cs) (h_p := h_p) (h_k := h_k) (p_0 := p_0) [(0, .ref 66), (1, .int (i32 (p))), (2, .int (i32 (k)))] G134 A135 rfl rfl rfl hW138 hF143 (by omega) (by omega) (by omega) (by omega)
              · have _q := h158
                exact absurd h158 (by omega)
          · have _q := h133
            refine jx_ld (pc_q := 41) (l_q := [(0, .ref 66), (1, .int (i32 (p))), (2, .int (i32 (k)))]) (st_q := [.ref 66, .int (i32 (0)), .int (i32 (0)), .ref 66]) rfl (jl_aloadn rfl) ?_
            refine jx_ld (pc_q := 42) (l_q := [(0, .ref 66), (1, .int (i32 (p))), (2, .int (i32 (k)))]) (st_q := [.int (i32 (p)), .ref 66, .int (i32 (0)), .int (i32 (0)), .ref 66]) rfl (jl_iloadn rfl) ?_
            refine jx_vr (pc_q := 45) (as := [.int (i32 (p))]) (st := [.int (i32 (0)), .int (i32 (0)), .ref 66]) rfl rfl rfl rfl ⟨rfl, rfl, Nat.le_of_ble_eq_true rfl⟩ rfl rfl (c_isCore2 (dd := d) (hd := by omega) (hW := hW) (p := p) (bp := bp) (e_bp := show A 36 (p).toNat = bp from (e_bp))  (h_p := ⟨(Int.le_trans (by decide : (-2147483648 : Int) ≤ -2147483648) h_p.1), (Int.le_trans h_p.2 (by decide : (2147483647 : Int) ≤ 2147483647))⟩)  ) (fun o V_q hq => ?_)
            obtain ⟨r159, rfl, rfl, b160, q161⟩ := hq
            refine .inr ⟨_, rfl, ?_⟩
            rcases q161 with ⟨rfl, a162, a163, a164⟩ | ⟨rfl, a165⟩
            · have _q : True := trivial
              refine jx_if_eq (pc_q := 48) (tg := 61) rfl rfl rfl (by decide) (by decide) (fun h166 => ?_) (fun h166 => ?_)
              · have _q := h166
                exact absurd h166 (by omega)
              · have _q := h166
                have hbd := p_0 (by omega) p (by omega) (by omega) (by rw [show A 36 (p).toNat = bp from e_bp]; omega); rw [show A 54 (p).toNat = cs from e_cs] at hbd
                refine jx_ld (pc_q := 49) (l_q := [(0, .ref 66), (1, .int (i32 (p))), (2, .int (i32 (k)))]) (st_q := [.ref 66, .int (i32 (0)), .int (i32 (0)), .ref 66]) rfl (jl_aloadn rfl) ?_
                refine jx_ld (pc_q := 50) (l_q := [(0, .ref 66), (1, .int (i32 (p))), (2, .int (i32 (k)))]) (st_q := [.int (i32 (p)), .ref 66, .int (i32 (0)), .int (i32 (0)), .ref 66]) rfl (jl_iloadn rfl) ?_
                refine jx_ld (pc_q := 51) (l_q := [(0, .ref 66), (1, .int (i32 (p))), (2, .int (i32 (k)))]) (st_q := [.int (i32 (k)), .int (i32 (p)), .ref 66, .int (i32 (0)), .int (i32 (0)), .ref 66]) rfl (jl_iloadn rfl) ?_
                refine jx_vr (pc_q := 54) (as := [.int (i32 (p)), .int (i32 (k))]) (st := [.int (i32 (0)), .int (i32 (0)), .ref 66]) rfl rfl rfl rfl ⟨rfl, rfl, Nat.le_of_ble_eq_true rfl⟩ rfl rfl (c_isByte (dd := d) (hd := by omega) (hW := hW) (p := p) (k := k) (bp := bp) (e_bp := show A 36 (p).toNat = bp from (e_bp)) (cs := cs) (e_cs := show A 54 (p).toNat = cs from (e_cs))  (h_p := ⟨(Int.le_trans (by decide : (-2147483648 : Int) ≤ -2147483648) h_p.1), (Int.le_trans h_p.2 (by decide : (2147483647 : Int) ≤ 2147483647))⟩) (h_k := ⟨(Int.le_trans (by decide : (-2147483648 : Int) ≤ -2147483648) h_k.1), (Int.le_trans h_k.2 (by decide : (2147483647 : Int) ≤ 2147483647))⟩)  (p_0 := (p_0 (by omega)))) (fun o V_q hq => ?_)
                obtain ⟨r167, rfl, rfl, b168, q169⟩ := hq
                refine .inr ⟨_, rfl, ?_⟩
                rcases q169 with ⟨rfl, a170, a171, a172, a173, a174⟩ | ⟨rfl, a175⟩
                · have _q : True := trivial
                  refine jx_if_ne (pc_q := 57) (tg := 61) rfl rfl rfl (by decide) (by decide) (fun h176 => ?_) (fun h176 => ?_)
                  · have _q := h176
                    refine jx_ar (pc_q := 62) (st_q := [.int (i32 (0)), .int (i32 (0)), .int (i32 (0)), .ref 66]) rfl rfl rfl rfl ?_
                    refine jx_vr (pc_q := 65) (as := [.int (i32 (0)), .int (i32 (0)), .int (i32 (0))]) (st := []) rfl rfl rfl rfl ⟨rfl, rfl, Nat.le_of_ble_eq_true rfl⟩ rfl rfl (c_refuse (dd := d) (hd := by omega) (hW := hW) (a := 0) (b := 0) (c := 0)   (h_a := ⟨(by decide), (by decide)⟩) (h_b := ⟨(by decide), (by decide)⟩) (h_c := ⟨(by decide), (by decide)⟩)  ) (fun o V_q hq => ?_)
                    obtain ⟨G177, A178, r179, th2_180, rfl, rfl, hW181, hF182, b183, e184, q185⟩ := hq
                    have hF186 := Fr_tr hF0 hF182 (Fr_sub (by decide)) (Fr_sub (by decide))
                    have sf187 : (pg) = 1 → BD A178 := (show A178 = A from funext (fun k => hF182.2 k rfl)) ▸ p_0
                    have bth2_180 : (0 : Int) ≤ th2_180 ∧ th2_180 ≤ 4 := e184 ▸ hW181.1 0
                    refine .inr ⟨_, rfl, ?_⟩
                    rcases q185 with ⟨rfl, a188, a189⟩ | ⟨rfl, a190, a191, a192⟩ | ⟨rfl, a193, a194, a195, a196⟩ | ⟨rfl, a197, a198, a199, a200⟩
                    · have _q : True := trivial
                      exfalso
                      omega
                    · have _q : True := trivial
                      exfalso
                      omega
                    · have _q : True := trivial
                      exfalso
                      omega
                    · have _q : True := trivial
                      refine jx_if_eq (pc_q := 68) (tg := 70) rfl rfl rfl (by decide) (by decide) (fun h201 => ?_) (fun h201 => ?_)
                      · have _q := h201
                        exact c_code_at_70 (X := X) (d := d) (c0 := c0) (c1 := c1) (G := G) (A := A) (T := T) (p := p) (k := k) (pg := pg) (bp := bp) (cs := cs) (hd := hd) (hW := hW) (e_pg := e_pg) (e_bp := e_bp) (e_cs := e_cs) (h_p := h_p) (h_k := h_k) (p_0 := p_0) [(0, .ref 66), (1, .int (i32 (p))), (2, .int (i32 (k)))] G177 A178 rfl rfl rfl hW181 hF186 (by omega) (by omega) (by omega) (by omega)
                      · have _q := h201
                        exact absurd h201 (by omega)
                  · have _q := h176
                    exact absurd h176 (by omega)
                · have _q : True := trivial
                  refine jx_if_ne (pc_q := 57) (tg := 61) rfl rfl rfl (by decide) (by decide) (fun h202 => ?_) (fun h202 => ?_)
                  · have _q := h202
                    exact absurd h202 (by omega)
                  · have _q := h202
                    refine jx_ar (pc_q := 58) (st_q := [.int (i32 (1)), .int (i32 (0)), .int (i32 (0)), .ref 66]) rfl rfl rfl rfl ?_
                    refine jx_go (tg := 62) rfl rfl ?_
                    refine jx_vr (pc_q := 65) (as := [.int (i32 (0)), .int (i32 (0)), .int (i32 (1))]) (st := []) rfl rfl rfl rfl ⟨rfl, rfl, Nat.le_of_ble_eq_true rfl⟩ rfl rfl (c_refuse (dd := d) (hd := by omega) (hW := hW) (a := 0) (b := 0) (c := 1)   (h_a := ⟨(by decide), (by decide)⟩) (h_b := ⟨(by decide), (by decide)⟩) (h_c := ⟨(by decide), (by decide)⟩)  ) (fun o V_q hq => ?_)
                    obtain ⟨G203, A204, r205, th2_206, rfl, rfl, hW207, hF208, b209, e210, q211⟩ := hq
                    have hF212 := Fr_tr hF0 hF208 (Fr_sub (by decide)) (Fr_sub (by decide))
                    have sf213 : (pg) = 1 → BD A204 := (show A204 = A from funext (fun k => hF208.2 k rfl)) ▸ p_0
                    have bth2_206 : (0 : Int) ≤ th2_206 ∧ th2_206 ≤ 4 := e210 ▸ hW207.1 0
                    refine .inr ⟨_, rfl, ?_⟩
                    rcases q211 with ⟨rfl, a214, a215⟩ | ⟨rfl, a216, a217, a218⟩ | ⟨rfl, a219, a220, a221, a222⟩ | ⟨rfl, a223, a224, a225, a226⟩
                    · have _q : True := trivial
                      exfalso
                      omega
                    · have _q : True := trivial
                      exfalso
                      omega
                    · have _q : True := trivial
                      refine jx_if_eq (pc_q := 68) (tg := 70) rfl rfl rfl (by decide) (by decide) (fun h227 => ?_) (fun h227 => ?_)
                      · have _q := h227
                        exact absurd h227 (by omega)
                      · have _q := h227
                        refine jx_ar (pc_q := 69) (st_q := [.int (i32 (0))]) rfl rfl rfl rfl ?_
                        refine jx_rt (v := some (.int (i32 (0)))) rfl rfl rfl rfl rfl rfl ?_
                        exact ⟨_, _, _, rfl, rfl, hW207, hF212, by omega, trivial⟩
                    · have _q : True := trivial
                      exfalso
                      omega
            · have _q : True := trivial
              refine jx_if_eq (pc_q := 48) (tg := 61) rfl rfl rfl (by decide) (by decide) (fun h228 => ?_) (fun h228 => ?_)
              · have _q := h228
                refine jx_ar (pc_q := 62) (st_q := [.int (i32 (0)), .int (i32 (0)), .int (i32 (0)), .ref 66]) rfl rfl rfl rfl ?_
                refine jx_vr (pc_q := 65) (as := [.int (i32 (0)), .int (i32 (0)), .int (i32 (0))]) (st := []) rfl rfl rfl rfl ⟨rfl, rfl, Nat.le_of_ble_eq_true rfl⟩ rfl rfl (c_refuse (dd := d) (hd := by omega) (hW := hW) (a := 0) (b := 0) (c := 0)   (h_a := ⟨(by decide), (by decide)⟩) (h_b := ⟨(by decide), (by decide)⟩) (h_c := ⟨(by decide), (by decide)⟩)  ) (fun o V_q hq => ?_)
                obtain ⟨G229, A230, r231, th2_232, rfl, rfl, hW233, hF234, b235, e236, q237⟩ := hq
                have hF238 := Fr_tr hF0 hF234 (Fr_sub (by decide)) (Fr_sub (by decide))
                have sf239 : (pg) = 1 → BD A230 := (show A230 = A from funext (fun k => hF234.2 k rfl)) ▸ p_0
                have bth2_232 : (0 : Int) ≤ th2_232 ∧ th2_232 ≤ 4 := e236 ▸ hW233.1 0
                refine .inr ⟨_, rfl, ?_⟩
                rcases q237 with ⟨rfl, a240, a241⟩ | ⟨rfl, a242, a243, a244⟩ | ⟨rfl, a245, a246, a247, a248⟩ | ⟨rfl, a249, a250, a251, a252⟩
                · have _q : True := trivial
                  exfalso
                  omega
                · have _q : True := trivial
                  exfalso
                  omega
                · have _q : True := trivial
                  exfalso
                  omega
                · have _q : True := trivial
                  refine jx_if_eq (pc_q := 68) (tg := 70) rfl rfl rfl (by decide) (by decide) (fun h253 => ?_) (fun h253 => ?_)
                  · have _q := h253
                    exact c_code_at_70 (X := X) (d := d) (c0 := c0) (c1 := c1) (G := G) (A := A) (T := T) (p := p) (k := k) (pg := pg) (bp := bp) (cs := cs) (hd := hd) (hW := hW) (e_pg := e_pg) (e_bp := e_bp) (e_cs := e_cs) (h_p := h_p) (h_k := h_k) (p_0 := p_0) [(0, .ref 66), (1, .int (i32 (p))), (2, .int (i32 (k)))] G229 A230 rfl rfl rfl hW233 hF238 (by omega) (by omega) (by omega) (by omega)
                  · have _q := h253
                    exact absurd h253 (by omega)
              · have _q := h228
                exact absurd h228 (by omega)
        · have _q := h132
          exact absurd h132 (by omega)
      · have _q : True := trivial
        refine jx_if_ne (pc_q := 28) (tg := 32) rfl rfl rfl (by decide) (by decide) (fun h254 => ?_) (fun h254 => ?_)
        · have _q := h254
          exact absurd h254 (by omega)
        · have _q := h254
          refine jx_ar (pc_q := 29) (st_q := [.int (i32 (1)), .int (i32 (0)), .ref 66]) rfl rfl rfl rfl ?_
          refine jx_go (tg := 33) rfl rfl ?_
          refine jx_ld (pc_q := 34) (l_q := [(0, .ref 66), (1, .int (i32 (p))), (2, .int (i32 (k)))]) (st_q := [.ref 66, .int (i32 (1)), .int (i32 (0)), .ref 66]) rfl (jl_aloadn rfl) ?_
          refine jr_get (pc_q := 37) (i := 58) (v := .int (i32 (pg))) rfl rfl (by decide) (rFv_eq (by decide) (show G 58 = pg from (e_pg))) rfl ?_
          refine jx_if_eq (pc_q := 40) (tg := 61) rfl rfl rfl (Int.le_trans (by decide : (-2147483648 : Int) ≤ 0) b_pg.1) (Int.le_trans b_pg.2 (by decide : (1 : Int) ≤ 2147483647)) (fun h255 => ?_) (fun h255 => ?_)
          · have _q := h255
            refine jx_ar (pc_q := 62) (st_q := [.int (i32 (0)), .int (i32 (1)), .int (i32 (0)), .ref 66]) rfl rfl rfl rfl ?_
            refine jx_vr (pc_q := 65) (as := [.int (i32 (0)), .int (i32 (1)), .int (i32 (0))]) (st := []) rfl rfl rfl rfl ⟨rfl, rfl, Nat.le_of_ble_eq_true rfl⟩ rfl rfl (c_refuse (dd := d) (hd := by omega) (hW := hW) (a := 0) (b := 1) (c := 0)   (h_a := ⟨(by decide), (by decide)⟩) (h_b := ⟨(by decide), (by decide)⟩) (h_c := ⟨(by decide), (by decide)⟩)  ) (fun o V_q hq => ?_)
            obtain ⟨G256, A257, r258, th2_259, rfl, rfl, hW260, hF261, b262, e263, q264⟩ := hq
            have hF265 := Fr_tr hF0 hF261 (Fr_sub (by decide)) (Fr_sub (by decide))
            have sf266 : (pg) = 1 → BD A257 := (show A257 = A from funext (fun k => hF261.2 k rfl)) ▸ p_0
            have bth2_259 : (0 : Int) ≤ th2_259 ∧ th2_259 ≤ 4 := e263 ▸ hW260.1 0
            refine .inr ⟨_, rfl, ?_⟩
            rcases q264 with ⟨rfl, a267, a268⟩ | ⟨rfl, a269, a270, a271⟩ | ⟨rfl, a272, a273, a274, a275⟩ | ⟨rfl, a276, a277, a278, a279⟩
            · have _q : True := trivial
              exfalso
              omega
            · have _q : True := trivial
              refine jx_if_eq (pc_q := 68) (tg := 70) rfl rfl rfl (by decide) (by decide) (fun h280 => ?_) (fun h280 => ?_)
              · have _q := h280
                exact absurd h280 (by omega)
              · have _q := h280
                refine jx_ar (pc_q := 69) (st_q := [.int (i32 (0))]) rfl rfl rfl rfl ?_
                refine jx_rt (v := some (.int (i32 (0)))) rfl rfl rfl rfl rfl rfl ?_
                exact ⟨_, _, _, rfl, rfl, hW260, hF265, by omega, trivial⟩
            · have _q : True := trivial
              exfalso
              omega
            · have _q : True := trivial
              exfalso
              omega
          · have _q := h255
            refine jx_ld (pc_q := 41) (l_q := [(0, .ref 66), (1, .int (i32 (p))), (2, .int (i32 (k)))]) (st_q := [.ref 66, .int (i32 (1)), .int (i32 (0)), .ref 66]) rfl (jl_aloadn rfl) ?_
            refine jx_ld (pc_q := 42) (l_q := [(0, .ref 66), (1, .int (i32 (p))), (2, .int (i32 (k)))]) (st_q := [.int (i32 (p)), .ref 66, .int (i32 (1)), .int (i32 (0)), .ref 66]) rfl (jl_iloadn rfl) ?_
            refine jx_vr (pc_q := 45) (as := [.int (i32 (p))]) (st := [.int (i32 (1)), .int (i32 (0)), .ref 66]) rfl rfl rfl rfl ⟨rfl, rfl, Nat.le_of_ble_eq_true rfl⟩ rfl rfl (c_isCore2 (dd := d) (hd := by omega) (hW := hW) (p := p) (bp := bp) (e_bp := show A 36 (p).toNat = bp from (e_bp))  (h_p := ⟨(Int.le_trans (by decide : (-2147483648 : Int) ≤ -2147483648) h_p.1), (Int.le_trans h_p.2 (by decide : (2147483647 : Int) ≤ 2147483647))⟩)  ) (fun o V_q hq => ?_)
            obtain ⟨r281, rfl, rfl, b282, q283⟩ := hq
            refine .inr ⟨_, rfl, ?_⟩
            rcases q283 with ⟨rfl, a284, a285, a286⟩ | ⟨rfl, a287⟩
            · have _q : True := trivial
              refine jx_if_eq (pc_q := 48) (tg := 61) rfl rfl rfl (by decide) (by decide) (fun h288 => ?_) (fun h288 => ?_)
              · have _q := h288
                exact absurd h288 (by omega)
              · have _q := h288
                have hbd := p_0 (by omega) p (by omega) (by omega) (by rw [show A 36 (p).toNat = bp from e_bp]; omega); rw [show A 54 (p).toNat = cs from e_cs] at hbd
                refine jx_ld (pc_q := 49) (l_q := [(0, .ref 66), (1, .int (i32 (p))), (2, .int (i32 (k)))]) (st_q := [.ref 66, .int (i32 (1)), .int (i32 (0)), .ref 66]) rfl (jl_aloadn rfl) ?_
                refine jx_ld (pc_q := 50) (l_q := [(0, .ref 66), (1, .int (i32 (p))), (2, .int (i32 (k)))]) (st_q := [.int (i32 (p)), .ref 66, .int (i32 (1)), .int (i32 (0)), .ref 66]) rfl (jl_iloadn rfl) ?_
                refine jx_ld (pc_q := 51) (l_q := [(0, .ref 66), (1, .int (i32 (p))), (2, .int (i32 (k)))]) (st_q := [.int (i32 (k)), .int (i32 (p)), .ref 66, .int (i32 (1)), .int (i32 (0)), .ref 66]) rfl (jl_iloadn rfl) ?_
                refine jx_vr (pc_q := 54) (as := [.int (i32 (p)), .int (i32 (k))]) (st := [.int (i32 (1)), .int (i32 (0)), .ref 66]) rfl rfl rfl rfl ⟨rfl, rfl, Nat.le_of_ble_eq_true rfl⟩ rfl rfl (c_isByte (dd := d) (hd := by omega) (hW := hW) (p := p) (k := k) (bp := bp) (e_bp := show A 36 (p).toNat = bp from (e_bp)) (cs := cs) (e_cs := show A 54 (p).toNat = cs from (e_cs))  (h_p := ⟨(Int.le_trans (by decide : (-2147483648 : Int) ≤ -2147483648) h_p.1), (Int.le_trans h_p.2 (by decide : (2147483647 : Int) ≤ 2147483647))⟩) (h_k := ⟨(Int.le_trans (by decide : (-2147483648 : Int) ≤ -2147483648) h_k.1), (Int.le_trans h_k.2 (by decide : (2147483647 : Int) ≤ 2147483647))⟩)  (p_0 := (p_0 (by omega)))) (fun o V_q hq => ?_)
                obtain ⟨r289, rfl, rfl, b290, q291⟩ := hq
                refine .inr ⟨_, rfl, ?_⟩
                rcases q291 with ⟨rfl, a292, a293, a294, a295, a296⟩ | ⟨rfl, a297⟩
                · have _q : True := trivial
                  refine jx_if_ne (pc_q := 57) (tg := 61) rfl rfl rfl (by decide) (by decide) (fun h298 => ?_) (fun h298 => ?_)
                  · have _q := h298
                    refine jx_ar (pc_q := 62) (st_q := [.int (i32 (0)), .int (i32 (1)), .int (i32 (0)), .ref 66]) rfl rfl rfl rfl ?_
                    refine jx_vr (pc_q := 65) (as := [.int (i32 (0)), .int (i32 (1)), .int (i32 (0))]) (st := []) rfl rfl rfl rfl ⟨rfl, rfl, Nat.le_of_ble_eq_true rfl⟩ rfl rfl (c_refuse (dd := d) (hd := by omega) (hW := hW) (a := 0) (b := 1) (c := 0)   (h_a := ⟨(by decide), (by decide)⟩) (h_b := ⟨(by decide), (by decide)⟩) (h_c := ⟨(by decide), (by decide)⟩)  ) (fun o V_q hq => ?_)
                    obtain ⟨G299, A300, r301, th2_302, rfl, rfl, hW303, hF304, b305, e306, q307⟩ := hq
                    have hF308 := Fr_tr hF0 hF304 (Fr_sub (by decide)) (Fr_sub (by decide))
                    have sf309 : (pg) = 1 → BD A300 := (show A300 = A from funext (fun k => hF304.2 k rfl)) ▸ p_0
                    have bth2_302 : (0 : Int) ≤ th2_302 ∧ th2_302 ≤ 4 := e306 ▸ hW303.1 0
                    refine .inr ⟨_, rfl, ?_⟩
                    rcases q307 with ⟨rfl, a310, a311⟩ | ⟨rfl, a312, a313, a314⟩ | ⟨rfl, a315, a316, a317, a318⟩ | ⟨rfl, a319, a320, a321, a322⟩
                    · have _q : True := trivial
                      exfalso
                      omega
                    · have _q : True := trivial
                      refine jx_if_eq (pc_q := 68) (tg := 70) rfl rfl rfl (by decide) (by decide) (fun h323 => ?_) (fun h323 => ?_)
                      · have _q := h323
                        exact absurd h323 (by omega)
                      · have _q := h323
                        refine jx_ar (pc_q := 69) (st_q := [.int (i32 (0))]) rfl rfl rfl rfl ?_
                        refine jx_rt (v := some (.int (i32 (0)))) rfl rfl rfl rfl rfl rfl ?_
                        exact ⟨_, _, _, rfl, rfl, hW303, hF308, by omega, trivial⟩
                    · have _q : True := trivial
                      exfalso
                      omega
                    · have _q : True := trivial
                      exfalso
                      omega
                  · have _q := h298
                    exact absurd h298 (by omega)
                · have _q : True := trivial
                  refine jx_if_ne (pc_q := 57) (tg := 61) rfl rfl rfl (by decide) (by decide) (fun h324 => ?_) (fun h324 => ?_)
                  · have _q := h324
                    exact absurd h324 (by omega)
                  · have _q := h324
                    refine jx_ar (pc_q := 58) (st_q := [.int (i32 (1)), .int (i32 (1)), .int (i32 (0)), .ref 66]) rfl rfl rfl rfl ?_
                    refine jx_go (tg := 62) rfl rfl ?_
                    refine jx_vr (pc_q := 65) (as := [.int (i32 (0)), .int (i32 (1)), .int (i32 (1))]) (st := []) rfl rfl rfl rfl ⟨rfl, rfl, Nat.le_of_ble_eq_true rfl⟩ rfl rfl (c_refuse (dd := d) (hd := by omega) (hW := hW) (a := 0) (b := 1) (c := 1)   (h_a := ⟨(by decide), (by decide)⟩) (h_b := ⟨(by decide), (by decide)⟩) (h_c := ⟨(by decide), (by decide)⟩)  ) (fun o V_q hq => ?_)
                    obtain ⟨G325, A326, r327, th2_328, rfl, rfl, hW329, hF330, b331, e332, q333⟩ := hq
                    have hF334 := Fr_tr hF0 hF330 (Fr_sub (by decide)) (Fr_sub (by decide))
                    have sf335 : (pg) = 1 → BD A326 := (show A326 = A from funext (fun k => hF330.2 k rfl)) ▸ p_0
                    have bth2_328 : (0 : Int) ≤ th2_328 ∧ th2_328 ≤ 4 := e332 ▸ hW329.1 0
                    refine .inr ⟨_, rfl, ?_⟩
                    rcases q333 with ⟨rfl, a336, a337⟩ | ⟨rfl, a338, a339, a340⟩ | ⟨rfl, a341, a342, a343, a344⟩ | ⟨rfl, a345, a346, a347, a348⟩
                    · have _q : True := trivial
                      exfalso
                      omega
                    · have _q : True := trivial
                      refine jx_if_eq (pc_q := 68) (tg := 70) rfl rfl rfl (by decide) (by decide) (fun h349 => ?_) (fun h349 => ?_)
                      · have _q := h349
                        exact absurd h349 (by omega)
                      · have _q := h349
                        refine jx_ar (pc_q := 69) (st_q := [.int (i32 (0))]) rfl rfl rfl rfl ?_
                        refine jx_rt (v := some (.int (i32 (0)))) rfl rfl rfl rfl rfl rfl ?_
                        exact ⟨_, _, _, rfl, rfl, hW329, hF334, by omega, trivial⟩
                    · have _q : True := trivial
                      exfalso
                      omega
                    · have _q : True := trivial
                      exfalso
                      omega
            · have _q : True := trivial
              refine jx_if_eq (pc_q := 48) (tg := 61) rfl rfl rfl (by decide) (by decide) (fun h350 => ?_) (fun h350 => ?_)
              · have _q := h350
                refine jx_ar (pc_q := 62) (st_q := [.int (i32 (0)), .int (i32 (1)), .int (i32 (0)), .ref 66]) rfl rfl rfl rfl ?_
                refine jx_vr (pc_q := 65) (as := [.int (i32 (0)), .int (i32 (1)), .int (i32 (0))]) (st := []) rfl rfl rfl rfl ⟨rfl, rfl, Nat.le_of_ble_eq_true rfl⟩ rfl rfl (c_refuse (dd := d) (hd := by omega) (hW := hW) (a := 0) (b := 1) (c := 0)   (h_a := ⟨(by decide), (by decide)⟩) (h_b := ⟨(by decide), (by decide)⟩) (h_c := ⟨(by decide), (by decide)⟩)  ) (fun o V_q hq => ?_)
                obtain ⟨G351, A352, r353, th2_354, rfl, rfl, hW355, hF356, b357, e358, q359⟩ := hq
                have hF360 := Fr_tr hF0 hF356 (Fr_sub (by decide)) (Fr_sub (by decide))
                have sf361 : (pg) = 1 → BD A352 := (show A352 = A from funext (fun k => hF356.2 k rfl)) ▸ p_0
                have bth2_354 : (0 : Int) ≤ th2_354 ∧ th2_354 ≤ 4 := e358 ▸ hW355.1 0
                refine .inr ⟨_, rfl, ?_⟩
                rcases q359 with ⟨rfl, a362, a363⟩ | ⟨rfl, a364, a365, a366⟩ | ⟨rfl, a367, a368, a369, a370⟩ | ⟨rfl, a371, a372, a373, a374⟩
                · have _q : True := trivial
                  exfalso
                  omega
                · have _q : True := trivial
                  refine jx_if_eq (pc_q := 68) (tg := 70) rfl rfl rfl (by decide) (by decide) (fun h375 => ?_) (fun h375 => ?_)
                  · have _q := h375
                    exact absurd h375 (by omega)
                  · have _q := h375
                    refine jx_ar (pc_q := 69) (st_q := [.int (i32 (0))]) rfl rfl rfl rfl ?_
                    refine jx_rt (v := some (.int (i32 (0)))) rfl rfl rfl rfl rfl rfl ?_
                    exact ⟨_, _, _, rfl, rfl, hW355, hF360, by omega, trivial⟩
                · have _q : True := trivial
                  exfalso
                  omega
                · have _q : True := trivial
                  exfalso
                  omega
              · have _q := h350
                exact absurd h350 (by omega)
  · have _q := h2
    refine jx_ar (pc_q := 9) (st_q := [.int (i32 (1)), .ref 66]) rfl rfl rfl rfl ?_
    refine jx_go (tg := 13) rfl rfl ?_
    refine jx_ld (pc_q := 14) (l_q := [(0, .ref 66), (1, .int (i32 (p))), (2, .int (i32 (k)))]) (st_q := [.ref 66, .int (i32 (1)), .ref 66]) rfl (jl_aloadn rfl) ?_
    refine jr_get (pc_q := 17) (i := 58) (v := .int (i32 (pg))) rfl rfl (by decide) (rFv_eq (by decide) (show G 58 = pg from (e_pg))) rfl ?_
    refine jx_if_eq (pc_q := 20) (tg := 32) rfl rfl rfl (Int.le_trans (by decide : (-2147483648 : Int) ≤ 0) b_pg.1) (Int.le_trans b_pg.2 (by decide : (1 : Int) ≤ 2147483647)) (fun h376 => ?_) (fun h376 => ?_)
    · have _q := h376
      refine jx_ar (pc_q := 33) (st_q := [.int (i32 (0)), .int (i32 (1)), .ref 66]) rfl rfl rfl rfl ?_
      refine jx_ld (pc_q := 34) (l_q := [(0, .ref 66), (1, .int (i32 (p))), (2, .int (i32 (k)))]) (st_q := [.ref 66, .int (i32 (0)), .int (i32 (1)), .ref 66]) rfl (jl_aloadn rfl) ?_
      refine jr_get (pc_q := 37) (i := 58) (v := .int (i32 (pg))) rfl rfl (by decide) (rFv_eq (by decide) (show G 58 = pg from (e_pg))) rfl ?_
      refine jx_if_eq (pc_q := 40) (tg := 61) rfl rfl rfl (Int.le_trans (by decide : (-2147483648 : Int) ≤ 0) b_pg.1) (Int.le_trans b_pg.2 (by decide : (1 : Int) ≤ 2147483647)) (fun h377 => ?_) (fun h377 => ?_)
      · have _q := h377
        refine jx_ar (pc_q := 62) (st_q := [.int (i32 (0)), .int (i32 (0)), .int (i32 (1)), .ref 66]) rfl rfl rfl rfl ?_
        refine jx_vr (pc_q := 65) (as := [.int (i32 (1)), .int (i32 (0)), .int (i32 (0))]) (st := []) rfl rfl rfl rfl ⟨rfl, rfl, Nat.le_of_ble_eq_true rfl⟩ rfl rfl (c_refuse (dd := d) (hd := by omega) (hW := hW) (a := 1) (b := 0) (c := 0)   (h_a := ⟨(by decide), (by decide)⟩) (h_b := ⟨(by decide), (by decide)⟩) (h_c := ⟨(by decide), (by decide)⟩)  ) (fun o V_q hq => ?_)
        obtain ⟨G378, A379, r380, th2_381, rfl, rfl, hW382, hF383, b384, e385, q386⟩ := hq
        have hF387 := Fr_tr hF0 hF383 (Fr_sub (by decide)) (Fr_sub (by decide))
        have sf388 : (pg) = 1 → BD A379 := (show A379 = A from funext (fun k => hF383.2 k rfl)) ▸ p_0
        have bth2_381 : (0 : Int) ≤ th2_381 ∧ th2_381 ≤ 4 := e385 ▸ hW382.1 0
        refine .inr ⟨_, rfl, ?_⟩
        rcases q386 with ⟨rfl, a389, a390⟩ | ⟨rfl, a391, a392, a393⟩ | ⟨rfl, a394, a395, a396, a397⟩ | ⟨rfl, a398, a399, a400, a401⟩
        · have _q : True := trivial
          refine jx_if_eq (pc_q := 68) (tg := 70) rfl rfl rfl (by decide) (by decide) (fun h402 => ?_) (fun h402 => ?_)
          · have _q := h402
            exact absurd h402 (by omega)
          · have _q := h402
            refine jx_ar (pc_q := 69) (st_q := [.int (i32 (0))]) rfl rfl rfl rfl ?_
            refine jx_rt (v := some (.int (i32 (0)))) rfl rfl rfl rfl rfl rfl ?_
            exact ⟨_, _, _, rfl, rfl, hW382, hF387, by omega, trivial⟩
        · have _q : True := trivial
          exfalso
          omega
        · have _q : True := trivial
          exfalso
          omega
        · have _q : True := trivial
          exfalso
          omega
      · have _q := h377
        refine jx_ld (pc_q := 41) (l_q := [(0, .ref 66), (1, .int (i32 (p))), (2, .int (i32 (k)))]) (st_q := [.ref 66, .int (i32 (0)), .int (i32 (1)), .ref 66]) rfl (jl_aloadn rfl) ?_
        refine jx_ld (pc_q := 42) (l_q := [(0, .ref 66), (1, .int (i32 (p))), (2, .int (i32 (k)))]) (st_q := [.int (i32 (p)), .ref 66, .int (i32 (0)), .int (i32 (1)), .ref 66]) rfl (jl_iloadn rfl) ?_
        refine jx_vr (pc_q := 45) (as := [.int (i32 (p))]) (st := [.int (i32 (0)), .int (i32 (1)), .ref 66]) rfl rfl rfl rfl ⟨rfl, rfl, Nat.le_of_ble_eq_true rfl⟩ rfl rfl (c_isCore2 (dd := d) (hd := by omega) (hW := hW) (p := p) (bp := bp) (e_bp := show A 36 (p).toNat = bp from (e_bp))  (h_p := ⟨(Int.le_trans (by decide : (-2147483648 : Int) ≤ -2147483648) h_p.1), (Int.le_trans h_p.2 (by decide : (2147483647 : Int) ≤ 2147483647))⟩)  ) (fun o V_q hq => ?_)
        obtain ⟨r403, rfl, rfl, b404, q405⟩ := hq
        refine .inr ⟨_, rfl, ?_⟩
        rcases q405 with ⟨rfl, a406, a407, a408⟩ | ⟨rfl, a409⟩
        · have _q : True := trivial
          refine jx_if_eq (pc_q := 48) (tg := 61) rfl rfl rfl (by decide) (by decide) (fun h410 => ?_) (fun h410 => ?_)
          · have _q := h410
            exact absurd h410 (by omega)
          · have _q := h410
            have hbd := p_0 (by omega) p (by omega) (by omega) (by rw [show A 36 (p).toNat = bp from e_bp]; omega); rw [show A 54 (p).toNat = cs from e_cs] at hbd
            refine jx_ld (pc_q := 49) (l_q := [(0, .ref 66), (1, .int (i32 (p))), (2, .int (i32 (k)))]) (st_q := [.ref 66, .int (i32 (0)), .int (i32 (1)), .ref 66]) rfl (jl_aloadn rfl) ?_
            refine jx_ld (pc_q := 50) (l_q := [(0, .ref 66), (1, .int (i32 (p))), (2, .int (i32 (k)))]) (st_q := [.int (i32 (p)), .ref 66, .int (i32 (0)), .int (i32 (1)), .ref 66]) rfl (jl_iloadn rfl) ?_
            refine jx_ld (pc_q := 51) (l_q := [(0, .ref 66), (1, .int (i32 (p))), (2, .int (i32 (k)))]) (st_q := [.int (i32 (k)), .int (i32 (p)), .ref 66, .int (i32 (0)), .int (i32 (1)), .ref 66]) rfl (jl_iloadn rfl) ?_
            refine jx_vr (pc_q := 54) (as := [.int (i32 (p)), .int (i32 (k))]) (st := [.int (i32 (0)), .int (i32 (1)), .ref 66]) rfl rfl rfl rfl ⟨rfl, rfl, Nat.le_of_ble_eq_true rfl⟩ rfl rfl (c_isByte (dd := d) (hd := by omega) (hW := hW) (p := p) (k := k) (bp := bp) (e_bp := show A 36 (p).toNat = bp from (e_bp)) (cs := cs) (e_cs := show A 54 (p).toNat = cs from (e_cs))  (h_p := ⟨(Int.le_trans (by decide : (-2147483648 : Int) ≤ -2147483648) h_p.1), (Int.le_trans h_p.2 (by decide : (2147483647 : Int) ≤ 2147483647))⟩) (h_k := ⟨(Int.le_trans (by decide : (-2147483648 : Int) ≤ -2147483648) h_k.1), (Int.le_trans h_k.2 (by decide : (2147483647 : Int) ≤ 2147483647))⟩)  (p_0 := (p_0 (by omega)))) (fun o V_q hq => ?_)
            obtain ⟨r411, rfl, rfl, b412, q413⟩ := hq
            refine .inr ⟨_, rfl, ?_⟩
            rcases q413 with ⟨rfl, a414, a415, a416, a417, a418⟩ | ⟨rfl, a419⟩
            · have _q : True := trivial
              refine jx_if_ne (pc_q := 57) (tg := 61) rfl rfl rfl (by decide) (by decide) (fun h420 => ?_) (fun h420 => ?_)
              · have _q := h420
                refine jx_ar (pc_q := 62) (st_q := [.int (i32 (0)), .int (i32 (0)), .int (i32 (1)), .ref 66]) rfl rfl rfl rfl ?_
                refine jx_vr (pc_q := 65) (as := [.int (i32 (1)), .int (i32 (0)), .int (i32 (0))]) (st := []) rfl rfl rfl rfl ⟨rfl, rfl, Nat.le_of_ble_eq_true rfl⟩ rfl rfl (c_refuse (dd := d) (hd := by omega) (hW := hW) (a := 1) (b := 0) (c := 0)   (h_a := ⟨(by decide), (by decide)⟩) (h_b := ⟨(by decide), (by decide)⟩) (h_c := ⟨(by decide), (by decide)⟩)  ) (fun o V_q hq => ?_)
                obtain ⟨G421, A422, r423, th2_424, rfl, rfl, hW425, hF426, b427, e428, q429⟩ := hq
                have hF430 := Fr_tr hF0 hF426 (Fr_sub (by decide)) (Fr_sub (by decide))
                have sf431 : (pg) = 1 → BD A422 := (show A422 = A from funext (fun k => hF426.2 k rfl)) ▸ p_0
                have bth2_424 : (0 : Int) ≤ th2_424 ∧ th2_424 ≤ 4 := e428 ▸ hW425.1 0
                refine .inr ⟨_, rfl, ?_⟩
                rcases q429 with ⟨rfl, a432, a433⟩ | ⟨rfl, a434, a435, a436⟩ | ⟨rfl, a437, a438, a439, a440⟩ | ⟨rfl, a441, a442, a443, a444⟩
                · have _q : True := trivial
                  refine jx_if_eq (pc_q := 68) (tg := 70) rfl rfl rfl (by decide) (by decide) (fun h445 => ?_) (fun h445 => ?_)
                  · have _q := h445
                    exact absurd h445 (by omega)
                  · have _q := h445
                    refine jx_ar (pc_q := 69) (st_q := [.int (i32 (0))]) rfl rfl rfl rfl ?_
                    refine jx_rt (v := some (.int (i32 (0)))) rfl rfl rfl rfl rfl rfl ?_
                    exact ⟨_, _, _, rfl, rfl, hW425, hF430, by omega, trivial⟩
                · have _q : True := trivial
                  exfalso
                  omega
                · have _q : True := trivial
                  exfalso
                  omega
                · have _q : True := trivial
                  exfalso
                  omega
              · have _q := h420
                exact absurd h420 (by omega)
            · have _q : True := trivial
              refine jx_if_ne (pc_q := 57) (tg := 61) rfl rfl rfl (by decide) (by decide) (fun h446 => ?_) (fun h446 => ?_)
              · have _q := h446
                exact absurd h446 (by omega)
              · have _q := h446
                refine jx_ar (pc_q := 58) (st_q := [.int (i32 (1)), .int (i32 (0)), .int (i32 (1)), .ref 66]) rfl rfl rfl rfl ?_
                refine jx_go (tg := 62) rfl rfl ?_
                refine jx_vr (pc_q := 65) (as := [.int (i32 (1)), .int (i32 (0)), .int (i32 (1))]) (st := []) rfl rfl rfl rfl ⟨rfl, rfl, Nat.le_of_ble_eq_true rfl⟩ rfl rfl (c_refuse (dd := d) (hd := by omega) (hW := hW) (a := 1) (b := 0) (c := 1)   (h_a := ⟨(by decide), (by decide)⟩) (h_b := ⟨(by decide), (by decide)⟩) (h_c := ⟨(by decide), (by decide)⟩)  ) (fun o V_q hq => ?_)
                obtain ⟨G447, A448, r449, th2_450, rfl, rfl, hW451, hF452, b453, e454, q455⟩ := hq
                have hF456 := Fr_tr hF0 hF452 (Fr_sub (by decide)) (Fr_sub (by decide))
                have sf457 : (pg) = 1 → BD A448 := (show A448 = A from funext (fun k => hF452.2 k rfl)) ▸ p_0
                have bth2_450 : (0 : Int) ≤ th2_450 ∧ th2_450 ≤ 4 := e454 ▸ hW451.1 0
                refine .inr ⟨_, rfl, ?_⟩
                rcases q455 with ⟨rfl, a458, a459⟩ | ⟨rfl, a460, a461, a462⟩ | ⟨rfl, a463, a464, a465, a466⟩ | ⟨rfl, a467, a468, a469, a470⟩
                · have _q : True := trivial
                  refine jx_if_eq (pc_q := 68) (tg := 70) rfl rfl rfl (by decide) (by decide) (fun h471 => ?_) (fun h471 => ?_)
                  · have _q := h471
                    exact absurd h471 (by omega)
                  · have _q := h471
                    refine jx_ar (pc_q := 69) (st_q := [.int (i32 (0))]) rfl rfl rfl rfl ?_
                    refine jx_rt (v := some (.int (i32 (0)))) rfl rfl rfl rfl rfl rfl ?_
                    exact ⟨_, _, _, rfl, rfl, hW451, hF456, by omega, trivial⟩
                · have _q : True := trivial
                  exfalso
                  omega
                · have _q : True := trivial
                  exfalso
                  omega
                · have _q : True := trivial
                  exfalso
                  omega
        · have _q : True := trivial
          refine jx_if_eq (pc_q := 48) (tg := 61) rfl rfl rfl (by decide) (by decide) (fun h472 => ?_) (fun h472 => ?_)
          · have _q := h472
            refine jx_ar (pc_q := 62) (st_q := [.int (i32 (0)), .int (i32 (0)), .int (i32 (1)), .ref 66]) rfl rfl rfl rfl ?_
            refine jx_vr (pc_q := 65) (as := [.int (i32 (1)), .int (i32 (0)), .int (i32 (0))]) (st := []) rfl rfl rfl rfl ⟨rfl, rfl, Nat.le_of_ble_eq_true rfl⟩ rfl rfl (c_refuse (dd := d) (hd := by omega) (hW := hW) (a := 1) (b := 0) (c := 0)   (h_a := ⟨(by decide), (by decide)⟩) (h_b := ⟨(by decide), (by decide)⟩) (h_c := ⟨(by decide), (by decide)⟩)  ) (fun o V_q hq => ?_)
            obtain ⟨G473, A474, r475, th2_476, rfl, rfl, hW477, hF478, b479, e480, q481⟩ := hq
            have hF482 := Fr_tr hF0 hF478 (Fr_sub (by decide)) (Fr_sub (by decide))
            have sf483 : (pg) = 1 → BD A474 := (show A474 = A from funext (fun k => hF478.2 k rfl)) ▸ p_0
            have bth2_476 : (0 : Int) ≤ th2_476 ∧ th2_476 ≤ 4 := e480 ▸ hW477.1 0
            refine .inr ⟨_, rfl, ?_⟩
            rcases q481 with ⟨rfl, a484, a485⟩ | ⟨rfl, a486, a487, a488⟩ | ⟨rfl, a489, a490, a491, a492⟩ | ⟨rfl, a493, a494, a495, a496⟩
            · have _q : True := trivial
              refine jx_if_eq (pc_q := 68) (tg := 70) rfl rfl rfl (by decide) (by decide) (fun h497 => ?_) (fun h497 => ?_)
              · have _q := h497
                exact absurd h497 (by omega)
              · have _q := h497
                refine jx_ar (pc_q := 69) (st_q := [.int (i32 (0))]) rfl rfl rfl rfl ?_
                refine jx_rt (v := some (.int (i32 (0)))) rfl rfl rfl rfl rfl rfl ?_
                exact ⟨_, _, _, rfl, rfl, hW477, hF482, by omega, trivial⟩
            · have _q : True := trivial
              exfalso
              omega
            · have _q : True := trivial
              exfalso
              omega
            · have _q : True := trivial
              exfalso
              omega
          · have _q := h472
            exact absurd h472 (by omega)
    · have _q := h376
      refine jx_ld (pc_q := 21) (l_q := [(0, .ref 66), (1, .int (i32 (p))), (2, .int (i32 (k)))]) (st_q := [.ref 66, .int (i32 (1)), .ref 66]) rfl (jl_aloadn rfl) ?_
      refine jx_ld (pc_q := 22) (l_q := [(0, .ref 66), (1, .int (i32 (p))), (2, .int (i32 (k)))]) (st_q := [.int (i32 (p)), .ref 66, .int (i32 (1)), .ref 66]) rfl (jl_iloadn rfl) ?_
      refine jx_vr (pc_q := 25) (as := [.int (i32 (p))]) (st := [.int (i32 (1)), .ref 66]) rfl rfl rfl rfl ⟨rfl, rfl, Nat.le_of_ble_eq_true rfl⟩ rfl rfl (c_isCore2 (dd := d) (hd := by omega) (hW := hW) (p := p) (bp := bp) (e_bp := show A 36 (p).toNat = bp from (e_bp))  (h_p := ⟨(Int.le_trans (by decide : (-2147483648 : Int) ≤ -2147483648) h_p.1), (Int.le_trans h_p.2 (by decide : (2147483647 : Int) ≤ 2147483647))⟩)  ) (fun o V_q hq => ?_)
      obtain ⟨r498, rfl, rfl, b499, q500⟩ := hq
      refine .inr ⟨_, rfl, ?_⟩
      rcases q500 with ⟨rfl, a501, a502, a503⟩ | ⟨rfl, a504⟩
      · have _q : True := trivial
        refine jx_if_ne (pc_q := 28) (tg := 32) rfl rfl rfl (by decide) (by decide) (fun h505 => ?_) (fun h505 => ?_)
        · have _q := h505
          refine jx_ar (pc_q := 33) (st_q := [.int (i32 (0)), .int (i32 (1)), .ref 66]) rfl rfl rfl rfl ?_
          refine jx_ld (pc_q := 34) (l_q := [(0, .ref 66), (1, .int (i32 (p))), (2, .int (i32 (k)))]) (st_q := [.ref 66, .int (i32 (0)), .int (i32 (1)), .ref 66]) rfl (jl_aloadn rfl) ?_
          refine jr_get (pc_q := 37) (i := 58) (v := .int (i32 (pg))) rfl rfl (by decide) (rFv_eq (by decide) (show G 58 = pg from (e_pg))) rfl ?_
          refine jx_if_eq (pc_q := 40) (tg := 61) rfl rfl rfl (Int.le_trans (by decide : (-2147483648 : Int) ≤ 0) b_pg.1) (Int.le_trans b_pg.2 (by decide : (1 : Int) ≤ 2147483647)) (fun h506 => ?_) (fun h506 => ?_)
          · have _q := h506
            refine jx_ar (pc_q := 62) (st_q := [.int (i32 (0)), .int (i32 (0)), .int (i32 (1)), .ref 66]) rfl rfl rfl rfl ?_
            refine jx_vr (pc_q := 65) (as := [.int (i32 (1)), .int (i32 (0)), .int (i32 (0))]) (st := []) rfl rfl rfl rfl ⟨rfl, rfl, Nat.le_of_ble_eq_true rfl⟩ rfl rfl (c_refuse (dd := d) (hd := by omega) (hW := hW) (a := 1) (b := 0) (c := 0)   (h_a := ⟨(by decide), (by decide)⟩) (h_b := ⟨(by decide), (by decide)⟩) (h_c := ⟨(by decide), (by decide)⟩)  ) (fun o V_q hq => ?_)
            obtain ⟨G507, A508, r509, th2_510, rfl, rfl, hW511, hF512, b513, e514, q515⟩ := hq
            have hF516 := Fr_tr hF0 hF512 (Fr_sub (by decide)) (Fr_sub (by decide))
            have sf517 : (pg) = 1 → BD A508 := (show A508 = A from funext (fun k => hF512.2 k rfl)) ▸ p_0
            have bth2_510 : (0 : Int) ≤ th2_510 ∧ th2_510 ≤ 4 := e514 ▸ hW511.1 0
            refine .inr ⟨_, rfl, ?_⟩
            rcases q515 with ⟨rfl, a518, a519⟩ | ⟨rfl, a520, a521, a522⟩ | ⟨rfl, a523, a524, a525, a526⟩ | ⟨rfl, a527, a528, a529, a530⟩
            · have _q : True := trivial
              refine jx_if_eq (pc_q := 68) (tg := 70) rfl rfl rfl (by decide) (by decide) (fun h531 => ?_) (fun h531 => ?_)
              · have _q := h531
                exact absurd h531 (by omega)
              · have _q := h531
                refine jx_ar (pc_q := 69) (st_q := [.int (i32 (0))]) rfl rfl rfl rfl ?_
                refine jx_rt (v := some (.int (i32 (0)))) rfl rfl rfl rfl rfl rfl ?_
                exact ⟨_, _, _, rfl, rfl, hW511, hF516, by omega, trivial⟩
            · have _q : True := trivial
              exfalso
              omega
            · have _q : True := trivial
              exfalso
              omega
            · have _q : True := trivial
              exfalso
              omega
          · have _q := h506
            refine jx_ld (pc_q := 41) (l_q := [(0, .ref 66), (1, .int (i32 (p))), (2, .int (i32 (k)))]) (st_q := [.ref 66, .int (i32 (0)), .int (i32 (1)), .ref 66]) rfl (jl_aloadn rfl) ?_
            refine jx_ld (pc_q := 42) (l_q := [(0, .ref 66), (1, .int (i32 (p))), (2, .int (i32 (k)))]) (st_q := [.int (i32 (p)), .ref 66, .int (i32 (0)), .int (i32 (1)), .ref 66]) rfl (jl_iloadn rfl) ?_
            refine jx_vr (pc_q := 45) (as := [.int (i32 (p))]) (st := [.int (i32 (0)), .int (i32 (1)), .ref 66]) rfl rfl rfl rfl ⟨rfl, rfl, Nat.le_of_ble_eq_true rfl⟩ rfl rfl (c_isCore2 (dd := d) (hd := by omega) (hW := hW) (p := p) (bp := bp) (e_bp := show A 36 (p).toNat = bp from (e_bp))  (h_p := ⟨(Int.le_trans (by decide : (-2147483648 : Int) ≤ -2147483648) h_p.1), (Int.le_trans h_p.2 (by decide : (2147483647 : Int) ≤ 2147483647))⟩)  ) (fun o V_q hq => ?_)
            obtain ⟨r532, rfl, rfl, b533, q534⟩ := hq
            refine .inr ⟨_, rfl, ?_⟩
            rcases q534 with ⟨rfl, a535, a536, a537⟩ | ⟨rfl, a538⟩
            · have _q : True := trivial
              refine jx_if_eq (pc_q := 48) (tg := 61) rfl rfl rfl (by decide) (by decide) (fun h539 => ?_) (fun h539 => ?_)
              · have _q := h539
                exact absurd h539 (by omega)
              · have _q := h539
                have hbd := p_0 (by omega) p (by omega) (by omega) (by rw [show A 36 (p).toNat = bp from e_bp]; omega); rw [show A 54 (p).toNat = cs from e_cs] at hbd
                refine jx_ld (pc_q := 49) (l_q := [(0, .ref 66), (1, .int (i32 (p))), (2, .int (i32 (k)))]) (st_q := [.ref 66, .int (i32 (0)), .int (i32 (1)), .ref 66]) rfl (jl_aloadn rfl) ?_
                refine jx_ld (pc_q := 50) (l_q := [(0, .ref 66), (1, .int (i32 (p))), (2, .int (i32 (k)))]) (st_q := [.int (i32 (p)), .ref 66, .int (i32 (0)), .int (i32 (1)), .ref 66]) rfl (jl_iloadn rfl) ?_
                refine jx_ld (pc_q := 51) (l_q := [(0, .ref 66), (1, .int (i32 (p))), (2, .int (i32 (k)))]) (st_q := [.int (i32 (k)), .int (i32 (p)), .ref 66, .int (i32 (0)), .int (i32 (1)), .ref 66]) rfl (jl_iloadn rfl) ?_
                refine jx_vr (pc_q := 54) (as := [.int (i32 (p)), .int (i32 (k))]) (st := [.int (i32 (0)), .int (i32 (1)), .ref 66]) rfl rfl rfl rfl ⟨rfl, rfl, Nat.le_of_ble_eq_true rfl⟩ rfl rfl (c_isByte (dd := d) (hd := by omega) (hW := hW) (p := p) (k := k) (bp := bp) (e_bp := show A 36 (p).toNat = bp from (e_bp)) (cs := cs) (e_cs := show A 54 (p).toNat = cs from (e_cs))  (h_p := ⟨(Int.le_trans (by decide : (-2147483648 : Int) ≤ -2147483648) h_p.1), (Int.le_trans h_p.2 (by decide : (2147483647 : Int) ≤ 2147483647))⟩) (h_k := ⟨(Int.le_trans (by decide : (-2147483648 : Int) ≤ -2147483648) h_k.1), (Int.le_trans h_k.2 (by decide : (2147483647 : Int) ≤ 2147483647))⟩)  (p_0 := (p_0 (by omega)))) (fun o V_q hq => ?_)
                obtain ⟨r540, rfl, rfl, b541, q542⟩ := hq
                refine .inr ⟨_, rfl, ?_⟩
                rcases q542 with ⟨rfl, a543, a544, a545, a546, a547⟩ | ⟨rfl, a548⟩
                · have _q : True := trivial
                  refine jx_if_ne (pc_q := 57) (tg := 61) rfl rfl rfl (by decide) (by decide) (fun h549 => ?_) (fun h549 => ?_)
                  · have _q := h549
                    refine jx_ar (pc_q := 62) (st_q := [.int (i32 (0)), .int (i32 (0)), .int (i32 (1)), .ref 66]) rfl rfl rfl rfl ?_
                    refine jx_vr (pc_q := 65) (as := [.int (i32 (1)), .int (i32 (0)), .int (i32 (0))]) (st := []) rfl rfl rfl rfl ⟨rfl, rfl, Nat.le_of_ble_eq_true rfl⟩ rfl rfl (c_refuse (dd := d) (hd := by omega) (hW := hW) (a := 1) (b := 0) (c := 0)   (h_a := ⟨(by decide), (by decide)⟩) (h_b := ⟨(by decide), (by decide)⟩) (h_c := ⟨(by decide), (by decide)⟩)  ) (fun o V_q hq => ?_)
                    obtain ⟨G550, A551, r552, th2_553, rfl, rfl, hW554, hF555, b556, e557, q558⟩ := hq
                    have hF559 := Fr_tr hF0 hF555 (Fr_sub (by decide)) (Fr_sub (by decide))
                    have sf560 : (pg) = 1 → BD A551 := (show A551 = A from funext (fun k => hF555.2 k rfl)) ▸ p_0
                    have bth2_553 : (0 : Int) ≤ th2_553 ∧ th2_553 ≤ 4 := e557 ▸ hW554.1 0
                    refine .inr ⟨_, rfl, ?_⟩
                    rcases q558 with ⟨rfl, a561, a562⟩ | ⟨rfl, a563, a564, a565⟩ | ⟨rfl, a566, a567, a568, a569⟩ | ⟨rfl, a570, a571, a572, a573⟩
                    · have _q : True := trivial
                      refine jx_if_eq (pc_q := 68) (tg := 70) rfl rfl rfl (by decide) (by decide) (fun h574 => ?_) (fun h574 => ?_)
                      · have _q := h574
                        exact absurd h574 (by omega)
                      · have _q := h574
                        refine jx_ar (pc_q := 69) (st_q := [.int (i32 (0))]) rfl rfl rfl rfl ?_
                        refine jx_rt (v := some (.int (i32 (0)))) rfl rfl rfl rfl rfl rfl ?_
                        exact ⟨_, _, _, rfl, rfl, hW554, hF559, by omega, trivial⟩
                    · have _q : True := trivial
                      exfalso
                      omega
                    · have _q : True := trivial
                      exfalso
                      omega
                    · have _q : True := trivial
                      exfalso
                      omega
                  · have _q := h549
                    exact absurd h549 (by omega)
                · have _q : True := trivial
                  refine jx_if_ne (pc_q := 57) (tg := 61) rfl rfl rfl (by decide) (by decide) (fun h575 => ?_) (fun h575 => ?_)
                  · have _q := h575
                    exact absurd h575 (by omega)
                  · have _q := h575
                    refine jx_ar (pc_q := 58) (st_q := [.int (i32 (1)), .int (i32 (0)), .int (i32 (1)), .ref 66]) rfl rfl rfl rfl ?_
                    refine jx_go (tg := 62) rfl rfl ?_
                    refine jx_vr (pc_q := 65) (as := [.int (i32 (1)), .int (i32 (0)), .int (i32 (1))]) (st := []) rfl rfl rfl rfl ⟨rfl, rfl, Nat.le_of_ble_eq_true rfl⟩ rfl rfl (c_refuse (dd := d) (hd := by omega) (hW := hW) (a := 1) (b := 0) (c := 1)   (h_a := ⟨(by decide), (by decide)⟩) (h_b := ⟨(by decide), (by decide)⟩) (h_c := ⟨(by decide), (by decide)⟩)  ) (fun o V_q hq => ?_)
                    obtain ⟨G576, A577, r578, th2_579, rfl, rfl, hW580, hF581, b582, e583, q584⟩ := hq
                    have hF585 := Fr_tr hF0 hF581 (Fr_sub (by decide)) (Fr_sub (by decide))
                    have sf586 : (pg) = 1 → BD A577 := (show A577 = A from funext (fun k => hF581.2 k rfl)) ▸ p_0
                    have bth2_579 : (0 : Int) ≤ th2_579 ∧ th2_579 ≤ 4 := e583 ▸ hW580.1 0
                    refine .inr ⟨_, rfl, ?_⟩
                    rcases q584 with ⟨rfl, a587, a588⟩ | ⟨rfl, a589, a590, a591⟩ | ⟨rfl, a592, a593, a594, a595⟩ | ⟨rfl, a596, a597, a598, a599⟩
                    · have _q : True := trivial
                      refine jx_if_eq (pc_q := 68) (tg := 70) rfl rfl rfl (by decide) (by decide) (fun h600 => ?_) (fun h600 => ?_)
                      · have _q := h600
                        exact absurd h600 (by omega)
                      · have _q := h600
                        refine jx_ar (pc_q := 69) (st_q := [.int (i32 (0))]) rfl rfl rfl rfl ?_
                        refine jx_rt (v := some (.int (i32 (0)))) rfl rfl rfl rfl rfl rfl ?_
                        exact ⟨_, _, _, rfl, rfl, hW580, hF585, by omega, trivial⟩
                    · have _q : True := trivial
                      exfalso
                      omega
                    · have _q : True := trivial
                      exfalso
                      omega
                    · have _q : True := trivial
                      exfalso
                      omega
            · have _q : True := trivial
              refine jx_if_eq (pc_q := 48) (tg := 61) rfl rfl rfl (by decide) (by decide) (fun h601 => ?_) (fun h601 => ?_)
              · have _q := h601
                refine jx_ar (pc_q := 62) (st_q := [.int (i32 (0)), .int (i32 (0)), .int (i32 (1)), .ref 66]) rfl rfl rfl rfl ?_
                refine jx_vr (pc_q := 65) (as := [.int (i32 (1)), .int (i32 (0)), .int (i32 (0))]) (st := []) rfl rfl rfl rfl ⟨rfl, rfl, Nat.le_of_ble_eq_true rfl⟩ rfl rfl (c_refuse (dd := d) (hd := by omega) (hW := hW) (a := 1) (b := 0) (c := 0)   (h_a := ⟨(by decide), (by decide)⟩) (h_b := ⟨(by decide), (by decide)⟩) (h_c := ⟨(by decide), (by decide)⟩)  ) (fun o V_q hq => ?_)
                obtain ⟨G602, A603, r604, th2_605, rfl, rfl, hW606, hF607, b608, e609, q610⟩ := hq
                have hF611 := Fr_tr hF0 hF607 (Fr_sub (by decide)) (Fr_sub (by decide))
                have sf612 : (pg) = 1 → BD A603 := (show A603 = A from funext (fun k => hF607.2 k rfl)) ▸ p_0
                have bth2_605 : (0 : Int) ≤ th2_605 ∧ th2_605 ≤ 4 := e609 ▸ hW606.1 0
                refine .inr ⟨_, rfl, ?_⟩
                rcases q610 with ⟨rfl, a613, a614⟩ | ⟨rfl, a615, a616, a617⟩ | ⟨rfl, a618, a619, a620, a621⟩ | ⟨rfl, a622, a623, a624, a625⟩
                · have _q : True := trivial
                  refine jx_if_eq (pc_q := 68) (tg := 70) rfl rfl rfl (by decide) (by decide) (fun h626 => ?_) (fun h626 => ?_)
                  · have _q := h626
                    exact absurd h626 (by omega)
                  · have _q := h626
                    refine jx_ar (pc_q := 69) (st_q := [.int (i32 (0))]) rfl rfl rfl rfl ?_
                    refine jx_rt (v := some (.int (i32 (0)))) rfl rfl rfl rfl rfl rfl ?_
                    exact ⟨_, _, _, rfl, rfl, hW606, hF611, by omega, trivial⟩
                · have _q : True := trivial
                  exfalso
                  omega
                · have _q : True := trivial
                  exfalso
                  omega
                · have _q : True := trivial
                  exfalso
                  omega
              · have _q := h601
                exact absurd h601 (by omega)
        · have _q := h505
          exact absurd h505 (by omega)
      · have _q : True := trivial
        refine jx_if_ne (pc_q := 28) (tg := 32) rfl rfl rfl (by decide) (by decide) (fun h627 => ?_) (fun h627 => ?_)
        · have _q := h627
          exact absurd h627 (by omega)
        · have _q := h627
          refine jx_ar (pc_q := 29) (st_q := [.int (i32 (1)), .int (i32 (1)), .ref 66]) rfl rfl rfl rfl ?_
          refine jx_go (tg := 33) rfl rfl ?_
          refine jx_ld (pc_q := 34) (l_q := [(0, .ref 66), (1, .int (i32 (p))), (2, .int (i32 (k)))]) (st_q := [.ref 66, .int (i32 (1)), .int (i32 (1)), .ref 66]) rfl (jl_aloadn rfl) ?_
          refine jr_get (pc_q := 37) (i := 58) (v := .int (i32 (pg))) rfl rfl (by decide) (rFv_eq (by decide) (show G 58 = pg from (e_pg))) rfl ?_
          refine jx_if_eq (pc_q := 40) (tg := 61) rfl rfl rfl (Int.le_trans (by decide : (-2147483648 : Int) ≤ 0) b_pg.1) (Int.le_trans b_pg.2 (by decide : (1 : Int) ≤ 2147483647)) (fun h628 => ?_) (fun h628 => ?_)
          · have _q := h628
            refine jx_ar (pc_q := 62) (st_q := [.int (i32 (0)), .int (i32 (1)), .int (i32 (1)), .ref 66]) rfl rfl rfl rfl ?_
            refine jx_vr (pc_q := 65) (as := [.int (i32 (1)), .int (i32 (1)), .int (i32 (0))]) (st := []) rfl rfl rfl rfl ⟨rfl, rfl, Nat.le_of_ble_eq_true rfl⟩ rfl rfl (c_refuse (dd := d) (hd := by omega) (hW := hW) (a := 1) (b := 1) (c := 0)   (h_a := ⟨(by decide), (by decide)⟩) (h_b := ⟨(by decide), (by decide)⟩) (h_c := ⟨(by decide), (by decide)⟩)  ) (fun o V_q hq => ?_)
            obtain ⟨G629, A630, r631, th2_632, rfl, rfl, hW633, hF634, b635, e636, q637⟩ := hq
            have hF638 := Fr_tr hF0 hF634 (Fr_sub (by decide)) (Fr_sub (by decide))
            have sf639 : (pg) = 1 → BD A630 := (show A630 = A from funext (fun k => hF634.2 k rfl)) ▸ p_0
            have bth2_632 : (0 : Int) ≤ th2_632 ∧ th2_632 ≤ 4 := e636 ▸ hW633.1 0
            refine .inr ⟨_, rfl, ?_⟩
            rcases q637 with ⟨rfl, a640, a641⟩ | ⟨rfl, a642, a643, a644⟩ | ⟨rfl, a645, a646, a647, a648⟩ | ⟨rfl, a649, a650, a651, a652⟩
            · have _q : True := trivial
              refine jx_if_eq (pc_q := 68) (tg := 70) rfl rfl rfl (by decide) (by decide) (fun h653 => ?_) (fun h653 => ?_)
              · have _q := h653
                exact absurd h653 (by omega)
              · have _q := h653
                refine jx_ar (pc_q := 69) (st_q := [.int (i32 (0))]) rfl rfl rfl rfl ?_
                refine jx_rt (v := some (.int (i32 (0)))) rfl rfl rfl rfl rfl rfl ?_
                exact ⟨_, _, _, rfl, rfl, hW633, hF638, by omega, trivial⟩
            · have _q : True := trivial
              exfalso
              omega
            · have _q : True := trivial
              exfalso
              omega
            · have _q : True := trivial
              exfalso
              omega
          · have _q := h628
            refine jx_ld (pc_q := 41) (l_q := [(0, .ref 66), (1, .int (i32 (p))), (2, .int (i32 (k)))]) (st_q := [.ref 66, .int (i32 (1)), .int (i32 (1)), .ref 66]) rfl (jl_aloadn rfl) ?_
            refine jx_ld (pc_q := 42) (l_q := [(0, .ref 66), (1, .int (i32 (p))), (2, .int (i32 (k)))]) (st_q := [.int (i32 (p)), .ref 66, .int (i32 (1)), .int (i32 (1)), .ref 66]) rfl (jl_iloadn rfl) ?_
            refine jx_vr (pc_q := 45) (as := [.int (i32 (p))]) (st := [.int (i32 (1)), .int (i32 (1)), .ref 66]) rfl rfl rfl rfl ⟨rfl, rfl, Nat.le_of_ble_eq_true rfl⟩ rfl rfl (c_isCore2 (dd := d) (hd := by omega) (hW := hW) (p := p) (bp := bp) (e_bp := show A 36 (p).toNat = bp from (e_bp))  (h_p := ⟨(Int.le_trans (by decide : (-2147483648 : Int) ≤ -2147483648) h_p.1), (Int.le_trans h_p.2 (by decide : (2147483647 : Int) ≤ 2147483647))⟩)  ) (fun o V_q hq => ?_)
            obtain ⟨r654, rfl, rfl, b655, q656⟩ := hq
            refine .inr ⟨_, rfl, ?_⟩
            rcases q656 with ⟨rfl, a657, a658, a659⟩ | ⟨rfl, a660⟩
            · have _q : True := trivial
              refine jx_if_eq (pc_q := 48) (tg := 61) rfl rfl rfl (by decide) (by decide) (fun h661 => ?_) (fun h661 => ?_)
              · have _q := h661
                exact absurd h661 (by omega)
              · have _q := h661
                have hbd := p_0 (by omega) p (by omega) (by omega) (by rw [show A 36 (p).toNat = bp from e_bp]; omega); rw [show A 54 (p).toNat = cs from e_cs] at hbd
                refine jx_ld (pc_q := 49) (l_q := [(0, .ref 66), (1, .int (i32 (p))), (2, .int (i32 (k)))]) (st_q := [.ref 66, .int (i32 (1)), .int (i32 (1)), .ref 66]) rfl (jl_aloadn rfl) ?_
                refine jx_ld (pc_q := 50) (l_q := [(0, .ref 66), (1, .int (i32 (p))), (2, .int (i32 (k)))]) (st_q := [.int (i32 (p)), .ref 66, .int (i32 (1)), .int (i32 (1)), .ref 66]) rfl (jl_iloadn rfl) ?_
                refine jx_ld (pc_q := 51) (l_q := [(0, .ref 66), (1, .int (i32 (p))), (2, .int (i32 (k)))]) (st_q := [.int (i32 (k)), .int (i32 (p)), .ref 66, .int (i32 (1)), .int (i32 (1)), .ref 66]) rfl (jl_iloadn rfl) ?_
                refine jx_vr (pc_q := 54) (as := [.int (i32 (p)), .int (i32 (k))]) (st := [.int (i32 (1)), .int (i32 (1)), .ref 66]) rfl rfl rfl rfl ⟨rfl, rfl, Nat.le_of_ble_eq_true rfl⟩ rfl rfl (c_isByte (dd := d) (hd := by omega) (hW := hW) (p := p) (k := k) (bp := bp) (e_bp := show A 36 (p).toNat = bp from (e_bp)) (cs := cs) (e_cs := show A 54 (p).toNat = cs from (e_cs))  (h_p := ⟨(Int.le_trans (by decide : (-2147483648 : Int) ≤ -2147483648) h_p.1), (Int.le_trans h_p.2 (by decide : (2147483647 : Int) ≤ 2147483647))⟩) (h_k := ⟨(Int.le_trans (by decide : (-2147483648 : Int) ≤ -2147483648) h_k.1), (Int.le_trans h_k.2 (by decide : (2147483647 : Int) ≤ 2147483647))⟩)  (p_0 := (p_0 (by omega)))) (fun o V_q hq => ?_)
                obtain ⟨r662, rfl, rfl, b663, q664⟩ := hq
                refine .inr ⟨_, rfl, ?_⟩
                rcases q664 with ⟨rfl, a665, a666, a667, a668, a669⟩ | ⟨rfl, a670⟩
                · have _q : True := trivial
                  refine jx_if_ne (pc_q := 57) (tg := 61) rfl rfl rfl (by decide) (by decide) (fun h671 => ?_) (fun h671 => ?_)
                  · have _q := h671
                    refine jx_ar (pc_q := 62) (st_q := [.int (i32 (0)), .int (i32 (1)), .int (i32 (1)), .ref 66]) rfl rfl rfl rfl ?_
                    refine jx_vr (pc_q := 65) (as := [.int (i32 (1)), .int (i32 (1)), .int (i32 (0))]) (st := []) rfl rfl rfl rfl ⟨rfl, rfl, Nat.le_of_ble_eq_true rfl⟩ rfl rfl (c_refuse (dd := d) (hd := by omega) (hW := hW) (a := 1) (b := 1) (c := 0)   (h_a := ⟨(by decide), (by decide)⟩) (h_b := ⟨(by decide), (by decide)⟩) (h_c := ⟨(by decide), (by decide)⟩)  ) (fun o V_q hq => ?_)
                    obtain ⟨G672, A673, r674, th2_675, rfl, rfl, hW676, hF677, b678, e679, q680⟩ := hq
                    have hF681 := Fr_tr hF0 hF677 (Fr_sub (by decide)) (Fr_sub (by decide))
                    have sf682 : (pg) = 1 → BD A673 := (show A673 = A from funext (fun k => hF677.2 k rfl)) ▸ p_0
                    have bth2_675 : (0 : Int) ≤ th2_675 ∧ th2_675 ≤ 4 := e679 ▸ hW676.1 0
                    refine .inr ⟨_, rfl, ?_⟩
                    rcases q680 with ⟨rfl, a683, a684⟩ | ⟨rfl, a685, a686, a687⟩ | ⟨rfl, a688, a689, a690, a691⟩ | ⟨rfl, a692, a693, a694, a695⟩
                    · have _q : True := trivial
                      refine jx_if_eq (pc_q := 68) (tg := 70) rfl rfl rfl (by decide) (by decide) (fun h696 => ?_) (fun h696 => ?_)
                      · have _q := h696
                        exact absurd h696 (by omega)
                      · have _q := h696
                        refine jx_ar (pc_q := 69) (st_q := [.int (i32 (0))]) rfl rfl rfl rfl ?_
                        refine jx_rt (v := some (.int (i32 (0)))) rfl rfl rfl rfl rfl rfl ?_
                        exact ⟨_, _, _, rfl, rfl, hW676, hF681, by omega, trivial⟩
                    · have _q : True := trivial
                      exfalso
                      omega
                    · have _q : True := trivial
                      exfalso
                      omega
                    · have _q : True := trivial
                      exfalso
                      omega
                  · have _q := h671
                    exact absurd h671 (by omega)
                · have _q : True := trivial
                  refine jx_if_ne (pc_q := 57) (tg := 61) rfl rfl rfl (by decide) (by decide) (fun h697 => ?_) (fun h697 => ?_)
                  · have _q := h697
                    exact absurd h697 (by omega)
                  · have _q := h697
                    refine jx_ar (pc_q := 58) (st_q := [.int (i32 (1)), .int (i32 (1)), .int (i32 (1)), .ref 66]) rfl rfl rfl rfl ?_
                    refine jx_go (tg := 62) rfl rfl ?_
                    refine jx_vr (pc_q := 65) (as := [.int (i32 (1)), .int (i32 (1)), .int (i32 (1))]) (st := []) rfl rfl rfl rfl ⟨rfl, rfl, Nat.le_of_ble_eq_true rfl⟩ rfl rfl (c_refuse (dd := d) (hd := by omega) (hW := hW) (a := 1) (b := 1) (c := 1)   (h_a := ⟨(by decide), (by decide)⟩) (h_b := ⟨(by decide), (by decide)⟩) (h_c := ⟨(by decide), (by decide)⟩)  ) (fun o V_q hq => ?_)
                    obtain ⟨G698, A699, r700, th2_701, rfl, rfl, hW702, hF703, b704, e705, q706⟩ := hq
                    have hF707 := Fr_tr hF0 hF703 (Fr_sub (by decide)) (Fr_sub (by decide))
                    have sf708 : (pg) = 1 → BD A699 := (show A699 = A from funext (fun k => hF703.2 k rfl)) ▸ p_0
                    have bth2_701 : (0 : Int) ≤ th2_701 ∧ th2_701 ≤ 4 := e705 ▸ hW702.1 0
                    refine .inr ⟨_, rfl, ?_⟩
                    rcases q706 with ⟨rfl, a709, a710⟩ | ⟨rfl, a711, a712, a713⟩ | ⟨rfl, a714, a715, a716, a717⟩ | ⟨rfl, a718, a719, a720, a721⟩
                    · have _q : True := trivial
                      refine jx_if_eq (pc_q := 68) (tg := 70) rfl rfl rfl (by decide) (by decide) (fun h722 => ?_) (fun h722 => ?_)
                      · have _q := h722
                        exact absurd h722 (by omega)
                      · have _q := h722
                        refine jx_ar (pc_q := 69) (st_q := [.int (i32 (0))]) rfl rfl rfl rfl ?_
                        refine jx_rt (v := some (.int (i32 (0)))) rfl rfl rfl rfl rfl rfl ?_
                        exact ⟨_, _, _, rfl, rfl, hW702, hF707, by omega, trivial⟩
                    · have _q : True := trivial
                      exfalso
                      omega
                    · have _q : True := trivial
                      exfalso
                      omega
                    · have _q : True := trivial
                      exfalso
                      omega
            · have _q : True := trivial
              refine jx_if_eq (pc_q := 48) (tg := 61) rfl rfl rfl (by decide) (by decide) (fun h723 => ?_) (fun h723 => ?_)
              · have _q := h723
                refine jx_ar (pc_q := 62) (st_q := [.int (i32 (0)), .int (i32 (1)), .int (i32 (1)), .ref 66]) rfl rfl rfl rfl ?_
                refine jx_vr (pc_q := 65) (as := [.int (i32 (1)), .int (i32 (1)), .int (i32 (0))]) (st := []) rfl rfl rfl rfl ⟨rfl, rfl, Nat.le_of_ble_eq_true rfl⟩ rfl rfl (c_refuse (dd := d) (hd := by omega) (hW := hW) (a := 1) (b := 1) (c := 0)   (h_a := ⟨(by decide), (by decide)⟩) (h_b := ⟨(by decide), (by decide)⟩) (h_c := ⟨(by decide), (by decide)⟩)  ) (fun o V_q hq => ?_)
                obtain ⟨G724, A725, r726, th2_727, rfl, rfl, hW728, hF729, b730, e731, q732⟩ := hq
                have hF733 := Fr_tr hF0 hF729 (Fr_sub (by decide)) (Fr_sub (by decide))
                have sf734 : (pg) = 1 → BD A725 := (show A725 = A from funext (fun k => hF729.2 k rfl)) ▸ p_0
                have bth2_727 : (0 : Int) ≤ th2_727 ∧ th2_727 ≤ 4 := e731 ▸ hW728.1 0
                refine .inr ⟨_, rfl, ?_⟩
                rcases q732 with ⟨rfl, a735, a736⟩ | ⟨rfl, a737, a738, a739⟩ | ⟨rfl, a740, a741, a742, a743⟩ | ⟨rfl, a744, a745, a746, a747⟩
                · have _q : True := trivial
                  refine jx_if_eq (pc_q := 68) (tg := 70) rfl rfl rfl (by decide) (by decide) (fun h748 => ?_) (fun h748 => ?_)
                  · have _q := h748
                    exact absurd h748 (by omega)
                  · have _q := h748
                    refine jx_ar (pc_q := 69) (st_q := [.int (i32 (0))]) rfl rfl rfl rfl ?_
                    refine jx_rt (v := some (.int (i32 (0)))) rfl rfl rfl rfl rfl rfl ?_
                    exact ⟨_, _, _, rfl, rfl, hW728, hF733, by omega, trivial⟩
                · have _q : True := trivial
                  exfalso
                  omega
                · have _q : True := trivial
                  exfalso
                  omega
                · have _q : True := trivial
                  exfalso
                  omega
              · have _q := h723
                exact absurd h723 (by omega)
set_option maxRecDepth 20000 in
set_option maxHeartbeats 4000000 in
theorem c_instruction_at_108 {X : jX} {d : Nat} {c0 c1 : jC} {G : Nat → Int} {A : Nat → Nat → Int} {T : jH} {p k w : Int} {pg bp cs : Int} (hd : 4 ≤ d + 1) (hW : Wk G A) (e_pg : G 58 = pg) (e_bp : A 36 (p).toNat = bp) (e_cs : A 54 (p).toNat = cs) (h_p : (-2147483648 : Int) ≤ p ∧ p ≤ 2147483647) (h_k : (-2147483648 : Int) ≤ k ∧ k ≤ 2147483647) (h_w : (-2147483648 : Int) ≤ w ∧ w ≤ 2147483647) (p_0 : (pg) = 1 → BD A) : ∀ (m : Nat) (L : jL) (Gx : Nat → Int) (Ax : Nat → Nat → Int) (o n fn : Int), (cs - k - n).toNat = m → jGet L 0 = some (.ref 66) → jGet L 1 = some (.int (i32 (p))) → jGet L 2 = some (.int (i32 (k))) → jGet L 3 = some (.int (i32 (w))) → jGet L 6 = some (.int (i32 o)) → jGet L 7 = some (.int (i32 n)) → jGet L 8 = some (.int (i32 fn)) → Wk Gx Ax → Fr [0] [] G A Gx Ax → ((-2147483648 : Int) ≤ o ∧ o ≤ 2147483647) → ((-2147483648 : Int) ≤ n ∧ n ≤ 2147483647) → ((-2147483648 : Int) ≤ fn ∧ fn ≤ 2147483647) → (0 ≤ p) → (p ≤ 5) → (0 ≤ k) → (0 ≤ n) → (k + n ≤ cs) → (cs ≤ 6000) → wj X d jm406 (108, L, [], rV c0 c1 Gx Ax T) (fun o V_q => ∃ (G_q : Nat → Int) (A_q : Nat → Nat → Int) (r : Int), V_q = rV c0 c1 G_q A_q T ∧ o = .inl (some (.int (i32 r))) ∧ Wk G_q A_q ∧ Fr [0] [] G A G_q A_q ∧ ((-2147483648 : Int) ≤ r ∧ r ≤ 2147483647) ∧ True) := by
  have hF0 : Fr [0] [] G A G A := Fr_rf
  have b_pg : (0 : Int) ≤ pg ∧ pg ≤ 1 := e_pg ▸ hW.1 58
  have b_bp : (-2147483648 : Int) ≤ bp ∧ bp ≤ 2147483647 := e_bp ▸ hW.2 36 _
  have b_cs : (-2147483648 : Int) ≤ cs ∧ cs ≤ 2147483647 := e_cs ▸ hW.2 54 _
  intro m
  induction m using Nat.strongRecOn with
  | ind m ih108 =>
    intro L Gx Ax o n fn hm gL_0 gL_1 gL_2 gL_3 gL_6 gL_7 gL_8 hWx hFx rx_o rx_n rx_fn iv_0 iv_1 iv_2 iv_3 iv_4 iv_5
    refine jx_ld (pc_q := 110) (l_q := L) (st_q := [.int (i32 (fn))]) rfl (jl_iload gL_8) ?_
    refine jx_ar (pc_q := 111) (st_q := [.int (i32 (2)), .int (i32 (fn))]) rfl rfl rfl rfl ?_
    refine jx_icmp_eq (pc_q := 114) (tg := 121) rfl rfl rfl (Int.le_trans (by decide : (-2147483648 : Int) ≤ -2147483648) rx_fn.1) (Int.le_trans rx_fn.2 (by decide : (2147483647 : Int) ≤ 2147483647)) (by decide) (by decide) (fun h1 => ?_) (fun h1 => ?_)
    · have _q := h1
      refine jx_ld (pc_q := 122) (l_q := L) (st_q := [.int (i32 (k))]) rfl (jl_iloadn gL_2) ?_
      refine jx_ld (pc_q := 124) (l_q := L) (st_q := [.int (i32 (n)), .int (i32 (k))]) rfl (jl_iload gL_7) ?_
      refine jx_add (pc_q := 125) rfl rfl ?_
      refine jx_ld (pc_q := 126) (l_q := L) (st_q := [.ref 66, .int (i32 ((k + n)))]) rfl (jl_aloadn gL_0) ?_
      refine jr_get (pc_q := 129) (i := 84) (v := .ref 121) rfl rfl (by decide) rfl rfl ?_
      refine jx_ld (pc_q := 130) (l_q := L) (st_q := [.int (i32 (p)), .ref 121, .int (i32 ((k + n)))]) rfl (jl_iloadn gL_1) ?_
      refine jr_ldv (pc_q := 131) (i := 54) (m := 6) (z := p) (y := cs) rfl (by decide) rfl (by decide) (by omega) (by omega) rfl (show Ax 54 (p).toNat = cs from (congrFun (hFx.2 54 rfl) _).trans (e_cs)) ?_
      refine jx_icmp_ge (pc_q := 134) (tg := 206) rfl rfl rfl (by omega) (by omega) (Int.le_trans (by decide : (-2147483648 : Int) ≤ -2147483648) b_cs.1) (Int.le_trans b_cs.2 (by decide : (2147483647 : Int) ≤ 2147483647)) (fun h2 => ?_) (fun h2 => ?_)
      · have _q := h2
        refine jx_ld (pc_q := 207) (l_q := L) (st_q := [.int (i32 (w))]) rfl (jl_iloadn gL_3) ?_
        refine jx_if_ne (pc_q := 210) (tg := 215) rfl rfl rfl (Int.le_trans (by decide : (-2147483648 : Int) ≤ -2147483648) h_w.1) (Int.le_trans h_w.2 (by decide : (2147483647 : Int) ≤ 2147483647)) (fun h3 => ?_) (fun h3 => ?_)
        · have _q := h3
          refine jx_ld (pc_q := 216) (l_q := L) (st_q := [.int (i32 (w))]) rfl (jl_iloadn gL_3) ?_
          refine jx_ar (pc_q := 217) (st_q := [.int (i32 (1)), .int (i32 (w))]) rfl rfl rfl rfl ?_
          refine jx_icmp_ne (pc_q := 220) (tg := 225) rfl rfl rfl (Int.le_trans (by decide : (-2147483648 : Int) ≤ -2147483648) h_w.1) (Int.le_trans h_w.2 (by decide : (2147483647 : Int) ≤ 2147483647)) (by decide) (by decide) (fun h4 => ?_) (fun h4 => ?_)
          · have _q := h4
            refine jx_ld (pc_q := 227) (l_q := L) (st_q := [.int (i32 (n))]) rfl (jl_iload gL_7) ?_
            refine jx_rt (v := some (.int (i32 (n)))) rfl rfl rfl rfl rfl rfl ?_
            exact ⟨_, _, _, rfl, rfl, hWx, hFx, by omega, trivial⟩
          · have _q := h4
            refine jx_ld (pc_q := 222) (l_q := L) (st_q := [.int (i32 (o))]) rfl (jl_iload gL_6) ?_
            refine jx_go (tg := 227) rfl rfl ?_
            refine jx_rt (v := some (.int (i32 (o)))) rfl rfl rfl rfl rfl rfl ?_
            exact ⟨_, _, _, rfl, rfl, hWx, hFx, by omega, trivial⟩
        · have _q := h3
          refine jx_ld (pc_q := 212) (l_q := L) (st_q := [.int (i32 (fn))]) rfl (jl_iload gL_8) ?_
          refine jx_go (tg := 227) rfl rfl ?_
          refine jx_rt (v := some (.int (i32 (fn)))) rfl rfl rfl rfl rfl rfl ?_
          exact ⟨_, _, _, rfl, rfl, hWx, hFx, by omega, trivial⟩
      · have _q := h2
        refine jx_ld (pc_q := 135) (l_q := L) (st_q := [.ref 66]) rfl (jl_aloadn gL_0) ?_
        refine jr_get (pc_q := 138) (i := 83) (v := .ref 120) rfl rfl (by decide) rfl rfl ?_
        refine jx_ar (pc_q := 141) (st_q := [.int (i32 (6000)), .ref 120]) rfl rfl rfl rfl ?_
        refine jx_ld (pc_q := 142) (l_q := L) (st_q := [.int (i32 (p)), .int (i32 (6000)), .ref 120]) rfl (jl_iloadn gL_1) ?_
        refine jx_mul (pc_q := 143) rfl rfl ?_
        refine jx_ld (pc_q := 144) (l_q := L) (st_q := [.int (i32 (k)), .int (i32 ((6000 * p))), .ref 120]) rfl (jl_iloadn gL_2) ?_
        refine jx_add (pc_q := 145) rfl rfl ?_
        refine jx_ld (pc_q := 147) (l_q := L) (st_q := [.int (i32 (n)), .int (i32 (((6000 * p) + k))), .ref 120]) rfl (jl_iload gL_7) ?_
        refine jx_add (pc_q := 148) rfl rfl ?_
        have b5 : (-2147483648 : Int) ≤ A 53 ((((6000 * p) + k) + n)).toNat ∧ A 53 ((((6000 * p) + k) + n)).toNat ≤ 2147483647 := hW.2 53 _
        refine jr_ldv (pc_q := 149) (i := 53) (m := 36000) (z := (((6000 * p) + k) + n)) (y := A 53 ((((6000 * p) + k) + n)).toNat) rfl (by decide) rfl (by decide) (by omega) (by omega) rfl (show Ax 53 ((((6000 * p) + k) + n)).toNat = A 53 ((((6000 * p) + k) + n)).toNat from (congrFun (hFx.2 53 rfl) _)) ?_
        refine jx_ld (pc_q := 151) (l_q := jSto1 L 9 (.int (i32 (A 53 ((((6000 * p) + k) + n)).toNat)))) (st_q := []) rfl rfl ?_
        obtain ⟨L6, eL6⟩ : ∃ q, q = jSto1 L 9 (.int (i32 (A 53 ((((6000 * p) + k) + n)).toNat))) := ⟨_, rfl⟩
        rw [← eL6]
        have gL6_0 : jGet L6 0 = some (.ref 66) := eL6 ▸ jg_ne (by decide) gL_0 rfl
        have gL6_1 : jGet L6 1 = some (.int (i32 (p))) := eL6 ▸ jg_ne (by decide) gL_1 rfl
        have gL6_2 : jGet L6 2 = some (.int (i32 (k))) := eL6 ▸ jg_ne (by decide) gL_2 rfl
        have gL6_3 : jGet L6 3 = some (.int (i32 (w))) := eL6 ▸ jg_ne (by decide) gL_3 rfl
        have gL6_6 : jGet L6 6 = some (.int (i32 (o))) := eL6 ▸ jg_ne (by decide) gL_6 rfl
        have gL6_7 : jGet L6 7 = some (.int (i32 (n))) := eL6 ▸ jg_ne (by decide) gL_7 rfl
        have gL6_8 : jGet L6 8 = some (.int (i32 (fn))) := eL6 ▸ jg_ne (by decide) gL_8 rfl
        have gL6_9 : jGet L6 9 = some (.int (i32 (A 53 ((((6000 * p) + k) + n)).toNat))) := eL6 ▸ jg_eq
        refine jx_ld (pc_q := 153) (l_q := L6) (st_q := [.int (i32 (A 53 ((((6000 * p) + k) + n)).toNat))]) rfl (jl_iload gL6_9) ?_
        refine jx_ar (pc_q := 154) (st_q := [.int (i32 (4)), .int (i32 (A 53 ((((6000 * p) + k) + n)).toNat))]) rfl rfl rfl rfl ?_
        refine jx_shr (pc_q := 155) rfl rfl ?_
        obtain ⟨b7, eb7⟩ : ∃ z, z = (i32 (A 53 ((((6000 * p) + k) + n)).toNat) >>> (i32 (4) &&& 31)).toInt := ⟨_, rfl⟩
        rw [← eb7]
        have rb7 : (-2147483648 : Int) ≤ b7 ∧ b7 ≤ 2147483647 := eb7 ▸ i32_rg _
        refine jx_ld (pc_q := 157) (l_q := jSto1 L6 8 (.int (i32 (b7)))) (st_q := []) rfl rfl ?_
        obtain ⟨L8, eL8⟩ : ∃ q, q = jSto1 L6 8 (.int (i32 (b7))) := ⟨_, rfl⟩
        rw [← eL8]
        have gL8_0 : jGet L8 0 = some (.ref 66) := eL8 ▸ jg_ne (by decide) gL6_0 rfl
        have gL8_1 : jGet L8 1 = some (.int (i32 (p))) := eL8 ▸ jg_ne (by decide) gL6_1 rfl
        have gL8_2 : jGet L8 2 = some (.int (i32 (k))) := eL8 ▸ jg_ne (by decide) gL6_2 rfl
        have gL8_3 : jGet L8 3 = some (.int (i32 (w))) := eL8 ▸ jg_ne (by decide) gL6_3 rfl
        have gL8_6 : jGet L8 6 = some (.int (i32 (o))) := eL8 ▸ jg_ne (by decide) gL6_6 rfl
        have gL8_7 : jGet L8 7 = some (.int (i32 (n))) := eL8 ▸ jg_ne (by decide) gL6_7 rfl
        have gL8_9 : jGet L8 9 = some (.int (i32 (A 53 ((((6000 * p) + k) + n)).toNat))) := eL8 ▸ jg_ne (by decide) gL6_9 rfl
        have gL8_8 : jGet L8 8 = some (.int (i32 (b7))) := eL8 ▸ jg_eq
        refine jx_ld (pc_q := 159) (l_q := L8) (st_q := [.int (i32 (o))]) rfl (jl_iload gL8_6) ?_
        refine jx_ld (pc_q := 161) (l_q := L8) (st_q := [.int (i32 (A 53 ((((6000 * p) + k) + n)).toNat)), .int (i32 (o))]) rfl (jl_iload gL8_9) ?_
        refine jx_ar (pc_q := 163) (st_q := [.int (i32 (15)), .int (i32 (A 53 ((((6000 * p) + k) + n)).toNat)), .int (i32 (o))]) rfl rfl rfl rfl ?_
        refine jx_and (pc_q := 164) rfl rfl ?_
        obtain ⟨b9, eb9⟩ : ∃ z, z = (i32 (A 53 ((((6000 * p) + k) + n)).toNat) &&& i32 (15)).toInt := ⟨_, rfl⟩
        rw [← eb9]
        have rb9 : (-2147483648 : Int) ≤ b9 ∧ b9 ≤ 2147483647 := eb9 ▸ i32_rg _
        refine jx_or (pc_q := 165) rfl rfl ?_
        obtain ⟨b10, eb10⟩ : ∃ z, z = (i32 (o) ||| i32 (b9)).toInt := ⟨_, rfl⟩
        rw [← eb10]
        have rb10 : (-2147483648 : Int) ≤ b10 ∧ b10 ≤ 2147483647 := eb10 ▸ i32_rg _
        refine jx_ld (pc_q := 167) (l_q := jSto1 L8 6 (.int (i32 (b10)))) (st_q := []) rfl rfl ?_
        obtain ⟨L11, eL11⟩ : ∃ q, q = jSto1 L8 6 (.int (i32 (b10))) := ⟨_, rfl⟩
        rw [← eL11]
        have gL11_0 : jGet L11 0 = some (.ref 66) := eL11 ▸ jg_ne (by decide) gL8_0 rfl
        have gL11_1 : jGet L11 1 = some (.int (i32 (p))) := eL11 ▸ jg_ne (by decide) gL8_1 rfl
        have gL11_2 : jGet L11 2 = some (.int (i32 (k))) := eL11 ▸ jg_ne (by decide) gL8_2 rfl
        have gL11_3 : jGet L11 3 = some (.int (i32 (w))) := eL11 ▸ jg_ne (by decide) gL8_3 rfl
        have gL11_7 : jGet L11 7 = some (.int (i32 (n))) := eL11 ▸ jg_ne (by decide) gL8_7 rfl
        have gL11_9 : jGet L11 9 = some (.int (i32 (A 53 ((((6000 * p) + k) + n)).toNat))) := eL11 ▸ jg_ne (by decide) gL8_9 rfl
        have gL11_8 : jGet L11 8 = some (.int (i32 (b7))) := eL11 ▸ jg_ne (by decide) gL8_8 rfl
        have gL11_6 : jGet L11 6 = some (.int (i32 (b10))) := eL11 ▸ jg_eq
        refine jx_ld (pc_q := 169) (l_q := L11) (st_q := [.int (i32 (b7))]) rfl (jl_iload gL11_8) ?_
        refine jx_ar (pc_q := 170) (st_q := [.int (i32 (2)), .int (i32 (b7))]) rfl rfl rfl rfl ?_
        refine jx_icmp_ne (pc_q := 173) (tg := 180) rfl rfl rfl (Int.le_trans (by decide : (-2147483648 : Int) ≤ -2147483648) rb7.1) (Int.le_trans rb7.2 (by decide : (2147483647 : Int) ≤ 2147483647)) (by decide) (by decide) (fun h12 => ?_) (fun h12 => ?_)
        · have _q := h12
          refine jx_ld (pc_q := 182) (l_q := L11) (st_q := [.int (i32 (b7))]) rfl (jl_iload gL11_8) ?_
          refine jx_ar (pc_q := 184) (st_q := [.int (i32 (6)), .int (i32 (b7))]) rfl rfl rfl rfl ?_
          refine jx_icmp_ne (pc_q := 187) (tg := 196) rfl rfl rfl (Int.le_trans (by decide : (-2147483648 : Int) ≤ -2147483648) rb7.1) (Int.le_trans rb7.2 (by decide : (2147483647 : Int) ≤ 2147483647)) (by decide) (by decide) (fun h13 => ?_) (fun h13 => ?_)
          · have _q := h13
            refine jx_ld (pc_q := 198) (l_q := L11) (st_q := [.int (i32 (b10))]) rfl (jl_iload gL11_6) ?_
            refine jx_ld (pc_q := 200) (l_q := jSto1 L11 6 (.int (i32 (b10)))) (st_q := []) rfl rfl ?_
            obtain ⟨L14, eL14⟩ : ∃ q, q = jSto1 L11 6 (.int (i32 (b10))) := ⟨_, rfl⟩
            rw [← eL14]
            have gL14_0 : jGet L14 0 = some (.ref 66) := eL14 ▸ jg_ne (by decide) gL11_0 rfl
            have gL14_1 : jGet L14 1 = some (.int (i32 (p))) := eL14 ▸ jg_ne (by decide) gL11_1 rfl
            have gL14_2 : jGet L14 2 = some (.int (i32 (k))) := eL14 ▸ jg_ne (by decide) gL11_2 rfl
            have gL14_3 : jGet L14 3 = some (.int (i32 (w))) := eL14 ▸ jg_ne (by decide) gL11_3 rfl
            have gL14_7 : jGet L14 7 = some (.int (i32 (n))) := eL14 ▸ jg_ne (by decide) gL11_7 rfl
            have gL14_9 : jGet L14 9 = some (.int (i32 (A 53 ((((6000 * p) + k) + n)).toNat))) := eL14 ▸ jg_ne (by decide) gL11_9 rfl
            have gL14_8 : jGet L14 8 = some (.int (i32 (b7))) := eL14 ▸ jg_ne (by decide) gL11_8 rfl
            have gL14_6 : jGet L14 6 = some (.int (i32 (b10))) := eL14 ▸ jg_eq
            refine jx_inc (pc_q := 203) (l_q := jSto1 L14 7 (.int (i32 ((n + (1)))))) (x := n) rfl gL14_7 (by decide) rfl rfl ?_
            obtain ⟨L15, eL15⟩ : ∃ q, q = jSto1 L14 7 (.int (i32 ((n + (1))))) := ⟨_, rfl⟩
            rw [← eL15]
            have gL15_0 : jGet L15 0 = some (.ref 66) := eL15 ▸ jg_ne (by decide) gL14_0 rfl
            have gL15_1 : jGet L15 1 = some (.int (i32 (p))) := eL15 ▸ jg_ne (by decide) gL14_1 rfl
            have gL15_2 : jGet L15 2 = some (.int (i32 (k))) := eL15 ▸ jg_ne (by decide) gL14_2 rfl
            have gL15_3 : jGet L15 3 = some (.int (i32 (w))) := eL15 ▸ jg_ne (by decide) gL14_3 rfl
            have gL15_9 : jGet L15 9 = some (.int (i32 (A 53 ((((6000 * p) + k) + n)).toNat))) := eL15 ▸ jg_ne (by decide) gL14_9 rfl
            have gL15_8 : jGet L15 8 = some (.int (i32 (b7))) := eL15 ▸ jg_ne (by decide) gL14_8 rfl
            have gL15_6 : jGet L15 6 = some (.int (i32 (b10))) := eL15 ▸ jg_ne (by decide) gL14_6 rfl
            have gL15_7 : jGet L15 7 = some (.int (i32 ((n + (1))))) := eL15 ▸ jg_eq
            refine jx_go (tg := 108) rfl rfl ?_
            exact ih108 _ (by omega) L15 Gx Ax (b10) ((n + (1))) (b7) rfl gL15_0 gL15_1 gL15_2 gL15_3 gL15_6 gL15_7 gL15_8 hWx hFx (by omega) (by omega) (by omega) (by omega) (by omega) (by omega) (by omega) (by omega) (by omega)
          · have _q := h13
            refine jx_ld (pc_q := 189) (l_q := L11) (st_q := [.int (i32 (b10))]) rfl (jl_iload gL11_6) ?_
            refine jx_ar (pc_q := 190) (st_q := [.int (i32 (-1)), .int (i32 (b10))]) rfl rfl rfl rfl ?_
            refine jx_xor (pc_q := 191) rfl rfl ?_
            obtain ⟨b16, eb16⟩ : ∃ z, z = (i32 (b10) ^^^ i32 (-1)).toInt := ⟨_, rfl⟩
            rw [← eb16]
            have rb16 : (-2147483648 : Int) ≤ b16 ∧ b16 ≤ 2147483647 := eb16 ▸ i32_rg _
            refine jx_ar (pc_q := 192) (st_q := [.int (i32 (4)), .int (i32 (b16))]) rfl rfl rfl rfl ?_
            refine jx_shl (pc_q := 193) rfl rfl ?_
            obtain ⟨b17, eb17⟩ : ∃ z, z = (i32 (b16) <<< (i32 (4) &&& 31)).toInt := ⟨_, rfl⟩
            rw [← eb17]
            have rb17 : (-2147483648 : Int) ≤ b17 ∧ b17 ≤ 2147483647 := eb17 ▸ i32_rg _
            refine jx_go (tg := 198) rfl rfl ?_
            refine jx_ld (pc_q := 200) (l_q := jSto1 L11 6 (.int (i32 (b17)))) (st_q := []) rfl rfl ?_
            obtain ⟨L18, eL18⟩ : ∃ q, q = jSto1 L11 6 (.int (i32 (b17))) := ⟨_, rfl⟩
            rw [← eL18]
            have gL18_0 : jGet L18 0 = some (.ref 66) := eL18 ▸ jg_ne (by decide) gL11_0 rfl
            have gL18_1 : jGet L18 1 = some (.int (i32 (p))) := eL18 ▸ jg_ne (by decide) gL11_1 rfl
            have gL18_2 : jGet L18 2 = some (.int (i32 (k))) := eL18 ▸ jg_ne (by decide) gL11_2 rfl
            have gL18_3 : jGet L18 3 = some (.int (i32 (w))) := eL18 ▸ jg_ne (by decide) gL11_3 rfl
            have gL18_7 : jGet L18 7 = some (.int (i32 (n))) := eL18 ▸ jg_ne (by decide) gL11_7 rfl
            have gL18_9 : jGet L18 9 = some (.int (i32 (A 53 ((((6000 * p) + k) + n)).toNat))) := eL18 ▸ jg_ne (by decide) gL11_9 rfl
            have gL18_8 : jGet L18 8 = some (.int (i32 (b7))) := eL18 ▸ jg_ne (by decide) gL11_8 rfl
            have gL18_6 : jGet L18 6 = some (.int (i32 (b17))) := eL18 ▸ jg_eq
            refine jx_inc (pc_q := 203) (l_q := jSto1 L18 7 (.int (i32 ((n + (1)))))) (x := n) rfl gL18_7 (by decide) rfl rfl ?_
            obtain ⟨L19, eL19⟩ : ∃ q, q = jSto1 L18 7 (.int (i32 ((n + (1))))) := ⟨_, rfl⟩
            rw [← eL19]
            have gL19_0 : jGet L19 0 = some (.ref 66) := eL19 ▸ jg_ne (by decide) gL18_0 rfl
            have gL19_1 : jGet L19 1 = some (.int (i32 (p))) := eL19 ▸ jg_ne (by decide) gL18_1 rfl
            have gL19_2 : jGet L19 2 = some (.int (i32 (k))) := eL19 ▸ jg_ne (by decide) gL18_2 rfl
            have gL19_3 : jGet L19 3 = some (.int (i32 (w))) := eL19 ▸ jg_ne (by decide) gL18_3 rfl
            have gL19_9 : jGet L19 9 = some (.int (i32 (A 53 ((((6000 * p) + k) + n)).toNat))) := eL19 ▸ jg_ne (by decide) gL18_9 rfl
            have gL19_8 : jGet L19 8 = some (.int (i32 (b7))) := eL19 ▸ jg_ne (by decide) gL18_8 rfl
            have gL19_6 : jGet L19 6 = some (.int (i32 (b17))) := eL19 ▸ jg_ne (by decide) gL18_6 rfl
            have gL19_7 : jGet L19 7 = some (.int (i32 ((n + (1))))) := eL19 ▸ jg_eq
            refine jx_go (tg := 108) rfl rfl ?_
            exact ih108 _ (by omega) L19 Gx Ax (b17) ((n + (1))) (b7) rfl gL19_0 gL19_1 gL19_2 gL19_3 gL19_6 gL19_7 gL19_8 hWx hFx (by omega) (by omega) (by omega) (by omega) (by omega) (by omega) (by omega) (by omega) (by omega)
        · have _q := h12
          refine jx_ld (pc_q := 175) (l_q := L11) (st_q := [.int (i32 (b10))]) rfl (jl_iload gL11_6) ?_
          refine jx_ar (pc_q := 176) (st_q := [.int (i32 (4)), .int (i32 (b10))]) rfl rfl rfl rfl ?_
          refine jx_shl (pc_q := 177) rfl rfl ?_
          obtain ⟨b20, eb20⟩ : ∃ z, z = (i32 (b10) <<< (i32 (4) &&& 31)).toInt := ⟨_, rfl⟩
          rw [← eb20]
          have rb20 : (-2147483648 : Int) ≤ b20 ∧ b20 ≤ 2147483647 := eb20 ▸ i32_rg _
          refine jx_go (tg := 198) rfl rfl ?_
          refine jx_ld (pc_q := 200) (l_q := jSto1 L11 6 (.int (i32 (b20)))) (st_q := []) rfl rfl ?_
          obtain ⟨L21, eL21⟩ : ∃ q, q = jSto1 L11 6 (.int (i32 (b20))) := ⟨_, rfl⟩
          rw [← eL21]
          have gL21_0 : jGet L21 0 = some (.ref 66) := eL21 ▸ jg_ne (by decide) gL11_0 rfl
          have gL21_1 : jGet L21 1 = some (.int (i32 (p))) := eL21 ▸ jg_ne (by decide) gL11_1 rfl
          have gL21_2 : jGet L21 2 = some (.int (i32 (k))) := eL21 ▸ jg_ne (by decide) gL11_2 rfl
          have gL21_3 : jGet L21 3 = some (.int (i32 (w))) := eL21 ▸ jg_ne (by decide) gL11_3 rfl
          have gL21_7 : jGet L21 7 = some (.int (i32 (n))) := eL21 ▸ jg_ne (by decide) gL11_7 rfl
          have gL21_9 : jGet L21 9 = some (.int (i32 (A 53 ((((6000 * p) + k) + n)).toNat))) := eL21 ▸ jg_ne (by decide) gL11_9 rfl
          have gL21_8 : jGet L21 8 = some (.int (i32 (b7))) := eL21 ▸ jg_ne (by decide) gL11_8 rfl
          have gL21_6 : jGet L21 6 = some (.int (i32 (b20))) := eL21 ▸ jg_eq
          refine jx_inc (pc_q := 203) (l_q := jSto1 L21 7 (.int (i32 ((n + (1)))))) (x := n) rfl gL21_7 (by decide) rfl rfl ?_
          obtain ⟨L22, eL22⟩ : ∃ q, q = jSto1 L21 7 (.int (i32 ((n + (1))))) := ⟨_, rfl⟩
          rw [← eL22]
          have gL22_0 : jGet L22 0 = some (.ref 66) := eL22 ▸ jg_ne (by decide) gL21_0 rfl
          have gL22_1 : jGet L22 1 = some (.int (i32 (p))) := eL22 ▸ jg_ne (by decide) gL21_1 rfl
          have gL22_2 : jGet L22 2 = some (.int (i32 (k))) := eL22 ▸ jg_ne (by decide) gL21_2 rfl
          have gL22_3 : jGet L22 3 = some (.int (i32 (w))) := eL22 ▸ jg_ne (by decide) gL21_3 rfl
          have gL22_9 : jGet L22 9 = some (.int (i32 (A 53 ((((6000 * p) + k) + n)).toNat))) := eL22 ▸ jg_ne (by decide) gL21_9 rfl
          have gL22_8 : jGet L22 8 = some (.int (i32 (b7))) := eL22 ▸ jg_ne (by decide) gL21_8 rfl
          have gL22_6 : jGet L22 6 = some (.int (i32 (b20))) := eL22 ▸ jg_ne (by decide) gL21_6 rfl
          have gL22_7 : jGet L22 7 = some (.int (i32 ((n + (1))))) := eL22 ▸ jg_eq
          refine jx_go (tg := 108) rfl rfl ?_
          exact ih108 _ (by omega) L22 Gx Ax (b20) ((n + (1))) (b7) rfl gL22_0 gL22_1 gL22_2 gL22_3 gL22_6 gL22_7 gL22_8 hWx hFx (by omega) (by omega) (by omega) (by omega) (by omega) (by omega) (by omega) (by omega) (by omega)
    · have _q := h1
      refine jx_ld (pc_q := 116) (l_q := L) (st_q := [.int (i32 (fn))]) rfl (jl_iload gL_8) ?_
      refine jx_ar (pc_q := 118) (st_q := [.int (i32 (6)), .int (i32 (fn))]) rfl rfl rfl rfl ?_
      refine jx_icmp_ne (pc_q := 121) (tg := 206) rfl rfl rfl (Int.le_trans (by decide : (-2147483648 : Int) ≤ -2147483648) rx_fn.1) (Int.le_trans rx_fn.2 (by decide : (2147483647 : Int) ≤ 2147483647)) (by decide) (by decide) (fun h23 => ?_) (fun h23 => ?_)
      · have _q := h23
        refine jx_ld (pc_q := 207) (l_q := L) (st_q := [.int (i32 (w))]) rfl (jl_iloadn gL_3) ?_
        refine jx_if_ne (pc_q := 210) (tg := 215) rfl rfl rfl (Int.le_trans (by decide : (-2147483648 : Int) ≤ -2147483648) h_w.1) (Int.le_trans h_w.2 (by decide : (2147483647 : Int) ≤ 2147483647)) (fun h24 => ?_) (fun h24 => ?_)
        · have _q := h24
          refine jx_ld (pc_q := 216) (l_q := L) (st_q := [.int (i32 (w))]) rfl (jl_iloadn gL_3) ?_
          refine jx_ar (pc_q := 217) (st_q := [.int (i32 (1)), .int (i32 (w))]) rfl rfl rfl rfl ?_
          refine jx_icmp_ne (pc_q := 220) (tg := 225) rfl rfl rfl (Int.le_trans (by decide : (-2147483648 : Int) ≤ -2147483648) h_w.1) (Int.le_trans h_w.2 (by decide : (2147483647 : Int) ≤ 2147483647)) (by decide) (by decide) (fun h25 => ?_) (fun h25 => ?_)
          · have _q := h25
            refine jx_ld (pc_q := 227) (l_q := L) (st_q := [.int (i32 (n))]) rfl (jl_iload gL_7) ?_
            refine jx_rt (v := some (.int (i32 (n)))) rfl rfl rfl rfl rfl rfl ?_
            exact ⟨_, _, _, rfl, rfl, hWx, hFx, by omega, trivial⟩
          · have _q := h25
            refine jx_ld (pc_q := 222) (l_q := L) (st_q := [.int (i32 (o))]) rfl (jl_iload gL_6) ?_
            refine jx_go (tg := 227) rfl rfl ?_
            refine jx_rt (v := some (.int (i32 (o)))) rfl rfl rfl rfl rfl rfl ?_
            exact ⟨_, _, _, rfl, rfl, hWx, hFx, by omega, trivial⟩
        · have _q := h24
          refine jx_ld (pc_q := 212) (l_q := L) (st_q := [.int (i32 (fn))]) rfl (jl_iload gL_8) ?_
          refine jx_go (tg := 227) rfl rfl ?_
          refine jx_rt (v := some (.int (i32 (fn)))) rfl rfl rfl rfl rfl rfl ?_
          exact ⟨_, _, _, rfl, rfl, hWx, hFx, by omega, trivial⟩
      · have _q := h23
        refine jx_ld (pc_q := 122) (l_q := L) (st_q := [.int (i32 (k))]) rfl (jl_iloadn gL_2) ?_
        refine jx_ld (pc_q := 124) (l_q := L) (st_q := [.int (i32 (n)), .int (i32 (k))]) rfl (jl_iload gL_7) ?_
        refine jx_add (pc_q := 125) rfl rfl ?_
        refine jx_ld (pc_q := 126) (l_q := L) (st_q := [.ref 66, .int (i32 ((k + n)))]) rfl (jl_aloadn gL_0) ?_
        refine jr_get (pc_q := 129) (i := 84) (v := .ref 121) rfl rfl (by decide) rfl rfl ?_
        refine jx_ld (pc_q := 130) (l_q := L) (st_q := [.int (i32 (p)), .ref 121, .int (i32 ((k + n)))]) rfl (jl_iloadn gL_1) ?_
        refine jr_ldv (pc_q := 131) (i := 54) (m := 6) (z := p) (y := cs) rfl (by decide) rfl (by decide) (by omega) (by omega) rfl (show Ax 54 (p).toNat = cs from (congrFun (hFx.2 54 rfl) _).trans (e_cs)) ?_
        refine jx_icmp_ge (pc_q := 134) (tg := 206) rfl rfl rfl (by omega) (by omega) (Int.le_trans (by decide : (-2147483648 : Int) ≤ -2147483648) b_cs.1) (Int.le_trans b_cs.2 (by decide : (2147483647 : Int) ≤ 2147483647)) (fun h26 => ?_) (fun h26 => ?_)
        · have _q := h26
          refine jx_ld (pc_q := 207) (l_q := L) (st_q := [.int (i32 (w))]) rfl (jl_iloadn gL_3) ?_
          refine jx_if_ne (pc_q := 210) (tg := 215) rfl rfl rfl (Int.le_trans (by decide : (-2147483648 : Int) ≤ -2147483648) h_w.1) (Int.le_trans h_w.2 (by decide : (2147483647 : Int) ≤ 2147483647)) (fun h27 => ?_) (fun h27 => ?_)
          · have _q := h27
            refine jx_ld (pc_q := 216) (l_q := L) (st_q := [.int (i32 (w))]) rfl (jl_iloadn gL_3) ?_
            refine jx_ar (pc_q := 217) (st_q := [.int (i32 (1)), .int (i32 (w))]) rfl rfl rfl rfl ?_
            refine jx_icmp_ne (pc_q := 220) (tg := 225) rfl rfl rfl (Int.le_trans (by decide : (-2147483648 : Int) ≤ -2147483648) h_w.1) (Int.le_trans h_w.2 (by decide : (2147483647 : Int) ≤ 2147483647)) (by decide) (by decide) (fun h28 => ?_) (fun h28 => ?_)
            · have _q := h28
              refine jx_ld (pc_q := 227) (l_q := L) (st_q := [.int (i32 (n))]) rfl (jl_iload gL_7) ?_
              refine jx_rt (v := some (.int (i32 (n)))) rfl rfl rfl rfl rfl rfl ?_
              exact ⟨_, _, _, rfl, rfl, hWx, hFx, by omega, trivial⟩
            · have _q := h28
              refine jx_ld (pc_q := 222) (l_q := L) (st_q := [.int (i32 (o))]) rfl (jl_iload gL_6) ?_
              refine jx_go (tg := 227) rfl rfl ?_
              refine jx_rt (v := some (.int (i32 (o)))) rfl rfl rfl rfl rfl rfl ?_
              exact ⟨_, _, _, rfl, rfl, hWx, hFx, by omega, trivial⟩
          · have _q := h27
            refine jx_ld (pc_q := 212) (l_q := L) (st_q := [.int (i32 (fn))]) rfl (jl_iload gL_8) ?_
            refine jx_go (tg := 227) rfl rfl ?_
            refine jx_rt (v := some (.int (i32 (fn)))) rfl rfl rfl rfl rfl rfl ?_
            exact ⟨_, _, _, rfl, rfl, hWx, hFx, by omega, trivial⟩
        · have _q := h26
          refine jx_ld (pc_q := 135) (l_q := L) (st_q := [.ref 66]) rfl (jl_aloadn gL_0) ?_
          refine jr_get (pc_q := 138) (i := 83) (v := .ref 120) rfl rfl (by decide) rfl rfl ?_
          refine jx_ar (pc_q := 141) (st_q := [.int (i32 (6000)), .ref 120]) rfl rfl rfl rfl ?_
          refine jx_ld (pc_q := 142) (l_q := L) (st_q := [.int (i32 (p)), .int (i32 (6000)), .ref 120]) rfl (jl_iloadn gL_1) ?_
          refine jx_mul (pc_q := 143) rfl rfl ?_
          refine jx_ld (pc_q := 144) (l_q := L) (st_q := [.int (i32 (k)), .int (i32 ((6000 * p))), .ref 120]) rfl (jl_iloadn gL_2) ?_
          refine jx_add (pc_q := 145) rfl rfl ?_
          refine jx_ld (pc_q := 147) (l_q := L) (st_q := [.int (i32 (n)), .int (i32 (((6000 * p) + k))), .ref 120]) rfl (jl_iload gL_7) ?_
          refine jx_add (pc_q := 148) rfl rfl ?_
          have b29 : (-2147483648 : Int) ≤ A 53 ((((6000 * p) + k) + n)).toNat ∧ A 53 ((((6000 * p) + k) + n)).toNat ≤ 2147483647 := hW.2 53 _
          refine jr_ldv (pc_q := 149) (i := 53) (m := 36000) (z := (((6000 * p) + k) + n)) (y := A 53 ((((6000 * p) + k) + n)).toNat) rfl (by decide) rfl (by decide) (by omega) (by omega) rfl (show Ax 53 ((((6000 * p) + k) + n)).toNat = A 53 ((((6000 * p) + k) + n)).toNat from (congrFun (hFx.2 53 rfl) _)) ?_
          refine jx_ld (pc_q := 151) (l_q := jSto1 L 9 (.int (i32 (A 53 ((((6000 * p) + k) + n)).toNat)))) (st_q := []) rfl rfl ?_
          obtain ⟨L30, eL30⟩ : ∃ q, q = jSto1 L 9 (.int (i32 (A 53 ((((6000 * p) + k) + n)).toNat))) := ⟨_, rfl⟩
          rw [← eL30]
          have gL30_0 : jGet L30 0 = some (.ref 66) := eL30 ▸ jg_ne (by decide) gL_0 rfl
          have gL30_1 : jGet L30 1 = some (.int (i32 (p))) := eL30 ▸ jg_ne (by decide) gL_1 rfl
          have gL30_2 : jGet L30 2 = some (.int (i32 (k))) := eL30 ▸ jg_ne (by decide) gL_2 rfl
          have gL30_3 : jGet L30 3 = some (.int (i32 (w))) := eL30 ▸ jg_ne (by decide) gL_3 rfl
          have gL30_6 : jGet L30 6 = some (.int (i32 (o))) := eL30 ▸ jg_ne (by decide) gL_6 rfl
          have gL30_7 : jGet L30 7 = some (.int (i32 (n))) := eL30 ▸ jg_ne (by decide) gL_7 rfl
          have gL30_8 : jGet L30 8 = some (.int (i32 (fn))) := eL30 ▸ jg_ne (by decide) gL_8 rfl
          have gL30_9 : jGet L30 9 = some (.int (i32 (A 53 ((((6000 * p) + k) + n)).toNat))) := eL30 ▸ jg_eq
          refine jx_ld (pc_q := 153) (l_q := L30) (st_q := [.int (i32 (A 53 ((((6000 * p) + k) + n)).toNat))]) rfl (jl_iload gL30_9) ?_
          refine jx_ar (pc_q := 154) (st_q := [.int (i32 (4)), .int (i32 (A 53 ((((6000 * p) + k) + n)).toNat))]) rfl rfl rfl rfl ?_
          refine jx_shr (pc_q := 155) rfl rfl ?_
          obtain ⟨b31, eb31⟩ : ∃ z, z = (i32 (A 53 ((((6000 * p) + k) + n)).toNat) >>> (i32 (4) &&& 31)).toInt := ⟨_, rfl⟩
          rw [← eb31]
          have rb31 : (-2147483648 : Int) ≤ b31 ∧ b31 ≤ 2147483647 := eb31 ▸ i32_rg _
          refine jx_ld (pc_q := 157) (l_q := jSto1 L30 8 (.int (i32 (b31)))) (st_q := []) rfl rfl ?_
          obtain ⟨L32, eL32⟩ : ∃ q, q = jSto1 L30 8 (.int (i32 (b31))) := ⟨_, rfl⟩
          rw [← eL32]
          have gL32_0 : jGet L32 0 = some (.ref 66) := eL32 ▸ jg_ne (by decide) gL30_0 rfl
          have gL32_1 : jGet L32 1 = some (.int (i32 (p))) := eL32 ▸ jg_ne (by decide) gL30_1 rfl
          have gL32_2 : jGet L32 2 = some (.int (i32 (k))) := eL32 ▸ jg_ne (by decide) gL30_2 rfl
          have gL32_3 : jGet L32 3 = some (.int (i32 (w))) := eL32 ▸ jg_ne (by decide) gL30_3 rfl
          have gL32_6 : jGet L32 6 = some (.int (i32 (o))) := eL32 ▸ jg_ne (by decide) gL30_6 rfl
          have gL32_7 : jGet L32 7 = some (.int (i32 (n))) := eL32 ▸ jg_ne (by decide) gL30_7 rfl
          have gL32_9 : jGet L32 9 = some (.int (i32 (A 53 ((((6000 * p) + k) + n)).toNat))) := eL32 ▸ jg_ne (by decide) gL30_9 rfl
          have gL32_8 : jGet L32 8 = some (.int (i32 (b31))) := eL32 ▸ jg_eq
          refine jx_ld (pc_q := 159) (l_q := L32) (st_q := [.int (i32 (o))]) rfl (jl_iload gL32_6) ?_
          refine jx_ld (pc_q := 161) (l_q := L32) (st_q := [.int (i32 (A 53 ((((6000 * p) + k) + n)).toNat)), .int (i32 (o))]) rfl (jl_iload gL32_9) ?_
          refine jx_ar (pc_q := 163) (st_q := [.int (i32 (15)), .int (i32 (A 53 ((((6000 * p) + k) + n)).toNat)), .int (i32 (o))]) rfl rfl rfl rfl ?_
          refine jx_and (pc_q := 164) rfl rfl ?_
          obtain ⟨b33, eb33⟩ : ∃ z, z = (i32 (A 53 ((((6000 * p) + k) + n)).toNat) &&& i32 (15)).toInt := ⟨_, rfl⟩
          rw [← eb33]
          have rb33 : (-2147483648 : Int) ≤ b33 ∧ b33 ≤ 2147483647 := eb33 ▸ i32_rg _
          refine jx_or (pc_q := 165) rfl rfl ?_
          obtain ⟨b34, eb34⟩ : ∃ z, z = (i32 (o) ||| i32 (b33)).toInt := ⟨_, rfl⟩
          rw [← eb34]
          have rb34 : (-2147483648 : Int) ≤ b34 ∧ b34 ≤ 2147483647 := eb34 ▸ i32_rg _
          refine jx_ld (pc_q := 167) (l_q := jSto1 L32 6 (.int (i32 (b34)))) (st_q := []) rfl rfl ?_
          obtain ⟨L35, eL35⟩ : ∃ q, q = jSto1 L32 6 (.int (i32 (b34))) := ⟨_, rfl⟩
          rw [← eL35]
          have gL35_0 : jGet L35 0 = some (.ref 66) := eL35 ▸ jg_ne (by decide) gL32_0 rfl
          have gL35_1 : jGet L35 1 = some (.int (i32 (p))) := eL35 ▸ jg_ne (by decide) gL32_1 rfl
          have gL35_2 : jGet L35 2 = some (.int (i32 (k))) := eL35 ▸ jg_ne (by decide) gL32_2 rfl
          have gL35_3 : jGet L35 3 = some (.int (i32 (w))) := eL35 ▸ jg_ne (by decide) gL32_3 rfl
          have gL35_7 : jGet L35 7 = some (.int (i32 (n))) := eL35 ▸ jg_ne (by decide) gL32_7 rfl
          have gL35_9 : jGet L35 9 = some (.int (i32 (A 53 ((((6000 * p) + k) + n)).toNat))) := eL35 ▸ jg_ne (by decide) gL32_9 rfl
          have gL35_8 : jGet L35 8 = some (.int (i32 (b31))) := eL35 ▸ jg_ne (by decide) gL32_8 rfl
          have gL35_6 : jGet L35 6 = some (.int (i32 (b34))) := eL35 ▸ jg_eq
          refine jx_ld (pc_q := 169) (l_q := L35) (st_q := [.int (i32 (b31))]) rfl (jl_iload gL35_8) ?_
          refine jx_ar (pc_q := 170) (st_q := [.int (i32 (2)), .int (i32 (b31))]) rfl rfl rfl rfl ?_
          refine jx_icmp_ne (pc_q := 173) (tg := 180) rfl rfl rfl (Int.le_trans (by decide : (-2147483648 : Int) ≤ -2147483648) rb31.1) (Int.le_trans rb31.2 (by decide : (2147483647 : Int) ≤ 2147483647)) (by decide) (by decide) (fun h36 => ?_) (fun h36 => ?_)
          · have _q := h36
            refine jx_ld (pc_q := 182) (l_q := L35) (st_q := [.int (i32 (b31))]) rfl (jl_iload gL35_8) ?_
            refine jx_ar (pc_q := 184) (st_q := [.int (i32 (6)), .int (i32 (b31))]) rfl rfl rfl rfl ?_
            refine jx_icmp_ne (pc_q := 187) (tg := 196) rfl rfl rfl (Int.le_trans (by decide : (-2147483648 : Int) ≤ -2147483648) rb31.1) (Int.le_trans rb31.2 (by decide : (2147483647 : Int) ≤ 2147483647)) (by decide) (by decide) (fun h37 => ?_) (fun h37 => ?_)
            · have _q := h37
              refine jx_ld (pc_q := 198) (l_q := L35) (st_q := [.int (i32 (b34))]) rfl (jl_iload gL35_6) ?_
              refine jx_ld (pc_q := 200) (l_q := jSto1 L35 6 (.int (i32 (b34)))) (st_q := []) rfl rfl ?_
              obtain ⟨L38, eL38⟩ : ∃ q, q = jSto1 L35 6 (.int (i32 (b34))) := ⟨_, rfl⟩
              rw [← eL38]
              have gL38_0 : jGet L38 0 = some (.ref 66) := eL38 ▸ jg_ne (by decide) gL35_0 rfl
              have gL38_1 : jGet L38 1 = some (.int (i32 (p))) := eL38 ▸ jg_ne (by decide) gL35_1 rfl
              have gL38_2 : jGet L38 2 = some (.int (i32 (k))) := eL38 ▸ jg_ne (by decide) gL35_2 rfl
              have gL38_3 : jGet L38 3 = some (.int (i32 (w))) := eL38 ▸ jg_ne (by decide) gL35_3 rfl
              have gL38_7 : jGet L38 7 = some (.int (i32 (n))) := eL38 ▸ jg_ne (by decide) gL35_7 rfl
              have gL38_9 : jGet L38 9 = some (.int (i32 (A 53 ((((6000 * p) + k) + n)).toNat))) := eL38 ▸ jg_ne (by decide) gL35_9 rfl
              have gL38_8 : jGet L38 8 = some (.int (i32 (b31))) := eL38 ▸ jg_ne (by decide) gL35_8 rfl
              have gL38_6 : jGet L38 6 = some (.int (i32 (b34))) := eL38 ▸ jg_eq
              refine jx_inc (pc_q := 203) (l_q := jSto1 L38 7 (.int (i32 ((n + (1)))))) (x := n) rfl gL38_7 (by decide) rfl rfl ?_
              obtain ⟨L39, eL39⟩ : ∃ q, q = jSto1 L38 7 (.int (i32 ((n + (1))))) := ⟨_, rfl⟩
              rw [← eL39]
              have gL39_0 : jGet L39 0 = some (.ref 66) := eL39 ▸ jg_ne (by decide) gL38_0 rfl
              have gL39_1 : jGet L39 1 = some (.int (i32 (p))) := eL39 ▸ jg_ne (by decide) gL38_1 rfl
              have gL39_2 : jGet L39 2 = some (.int (i32 (k))) := eL39 ▸ jg_ne (by decide) gL38_2 rfl
              have gL39_3 : jGet L39 3 = some (.int (i32 (w))) := eL39 ▸ jg_ne (by decide) gL38_3 rfl
              have gL39_9 : jGet L39 9 = some (.int (i32 (A 53 ((((6000 * p) + k) + n)).toNat))) := eL39 ▸ jg_ne (by decide) gL38_9 rfl
              have gL39_8 : jGet L39 8 = some (.int (i32 (b31))) := eL39 ▸ jg_ne (by decide) gL38_8 rfl
              have gL39_6 : jGet L39 6 = some (.int (i32 (b34))) := eL39 ▸ jg_ne (by decide) gL38_6 rfl
              have gL39_7 : jGet L39 7 = some (.int (i32 ((n + (1))))) := eL39 ▸ jg_eq
              refine jx_go (tg := 108) rfl rfl ?_
              exact ih108 _ (by omega) L39 Gx Ax (b34) ((n + (1))) (b31) rfl gL39_0 gL39_1 gL39_2 gL39_3 gL39_6 gL39_7 gL39_8 hWx hFx (by omega) (by omega) (by omega) (by omega) (by omega) (by omega) (by omega) (by omega) (by omega)
            · have _q := h37
              refine jx_ld (pc_q := 189) (l_q := L35) (st_q := [.int (i32 (b34))]) rfl (jl_iload gL35_6) ?_
              refine jx_ar (pc_q := 190) (st_q := [.int (i32 (-1)), .int (i32 (b34))]) rfl rfl rfl rfl ?_
              refine jx_xor (pc_q := 191) rfl rfl ?_
              obtain ⟨b40, eb40⟩ : ∃ z, z = (i32 (b34) ^^^ i32 (-1)).toInt := ⟨_, rfl⟩
              rw [← eb40]
              have rb40 : (-2147483648 : Int) ≤ b40 ∧ b40 ≤ 2147483647 := eb40 ▸ i32_rg _
              refine jx_ar (pc_q := 192) (st_q := [.int (i32 (4)), .int (i32 (b40))]) rfl rfl rfl rfl ?_
              refine jx_shl (pc_q := 193) rfl rfl ?_
              obtain ⟨b41, eb41⟩ : ∃ z, z = (i32 (b40) <<< (i32 (4) &&& 31)).toInt := ⟨_, rfl⟩
              rw [← eb41]
              have rb41 : (-2147483648 : Int) ≤ b41 ∧ b41 ≤ 2147483647 := eb41 ▸ i32_rg _
              refine jx_go (tg := 198) rfl rfl ?_
              refine jx_ld (pc_q := 200) (l_q := jSto1 L35 6 (.int (i32 (b41)))) (st_q := []) rfl rfl ?_
              obtain ⟨L42, eL42⟩ : ∃ q, q = jSto1 L35 6 (.int (i32 (b41))) := ⟨_, rfl⟩
              rw [← eL42]
              have gL42_0 : jGet L42 0 = some (.ref 66) := eL42 ▸ jg_ne (by decide) gL35_0 rfl
              have gL42_1 : jGet L42 1 = some (.int (i32 (p))) := eL42 ▸ jg_ne (by decide) gL35_1 rfl
              have gL42_2 : jGet L42 2 = some (.int (i32 (k))) := eL42 ▸ jg_ne (by decide) gL35_2 rfl
              have gL42_3 : jGet L42 3 = some (.int (i32 (w))) := eL42 ▸ jg_ne (by decide) gL35_3 rfl
              have gL42_7 : jGet L42 7 = some (.int (i32 (n))) := eL42 ▸ jg_ne (by decide) gL35_7 rfl
              have gL42_9 : jGet L42 9 = some (.int (i32 (A 53 ((((6000 * p) + k) + n)).toNat))) := eL42 ▸ jg_ne (by decide) gL35_9 rfl
              have gL42_8 : jGet L42 8 = some (.int (i32 (b31))) := eL42 ▸ jg_ne (by decide) gL35_8 rfl
              have gL42_6 : jGet L42 6 = some (.int (i32 (b41))) := eL42 ▸ jg_eq
              refine jx_inc (pc_q := 203) (l_q := jSto1 L42 7 (.int (i32 ((n + (1)))))) (x := n) rfl gL42_7 (by decide) rfl rfl ?_
              obtain ⟨L43, eL43⟩ : ∃ q, q = jSto1 L42 7 (.int (i32 ((n + (1))))) := ⟨_, rfl⟩
              rw [← eL43]
              have gL43_0 : jGet L43 0 = some (.ref 66) := eL43 ▸ jg_ne (by decide) gL42_0 rfl
              have gL43_1 : jGet L43 1 = some (.int (i32 (p))) := eL43 ▸ jg_ne (by decide) gL42_1 rfl
              have gL43_2 : jGet L43 2 = some (.int (i32 (k))) := eL43 ▸ jg_ne (by decide) gL42_2 rfl
              have gL43_3 : jGet L43 3 = some (.int (i32 (w))) := eL43 ▸ jg_ne (by decide) gL42_3 rfl
              have gL43_9 : jGet L43 9 = some (.int (i32 (A 53 ((((6000 * p) + k) + n)).toNat))) := eL43 ▸ jg_ne (by decide) gL42_9 rfl
              have gL43_8 : jGet L43 8 = some (.int (i32 (b31))) := eL43 ▸ jg_ne (by decide) gL42_8 rfl
              have gL43_6 : jGet L43 6 = some (.int (i32 (b41))) := eL43 ▸ jg_ne (by decide) gL42_6 rfl
              have gL43_7 : jGet L43 7 = some (.int (i32 ((n + (1))))) := eL43 ▸ jg_eq
              refine jx_go (tg := 108) rfl rfl ?_
              exact ih108 _ (by omega) L43 Gx Ax (b41) ((n + (1))) (b31) rfl gL43_0 gL43_1 gL43_2 gL43_3 gL43_6 gL43_7 gL43_8 hWx hFx (by omega) (by omega) (by omega) (by omega) (by omega) (by omega) (by omega) (by omega) (by omega)
          · have _q := h36
            refine jx_ld (pc_q := 175) (l_q := L35) (st_q := [.int (i32 (b34))]) rfl (jl_iload gL35_6) ?_
            refine jx_ar (pc_q := 176) (st_q := [.int (i32 (4)), .int (i32 (b34))]) rfl rfl rfl rfl ?_
            refine jx_shl (pc_q := 177) rfl rfl ?_
            obtain ⟨b44, eb44⟩ : ∃ z, z = (i32 (b34) <<< (i32 (4) &&& 31)).toInt := ⟨_, rfl⟩
            rw [← eb44]
            have rb44 : (-2147483648 : Int) ≤ b44 ∧ b44 ≤ 2147483647 := eb44 ▸ i32_rg _
            refine jx_go (tg := 198) rfl rfl ?_
            refine jx_ld (pc_q := 200) (l_q := jSto1 L35 6 (.int (i32 (b44)))) (st_q := []) rfl rfl ?_
            obtain ⟨L45, eL45⟩ : ∃ q, q = jSto1 L35 6 (.int (i32 (b44))) := ⟨_, rfl⟩
            rw [← eL45]
            have gL45_0 : jGet L45 0 = some (.ref 66) := eL45 ▸ jg_ne (by decide) gL35_0 rfl
            have gL45_1 : jGet L45 1 = some (.int (i32 (p))) := eL45 ▸ jg_ne (by decide) gL35_1 rfl
            have gL45_2 : jGet L45 2 = some (.int (i32 (k))) := eL45 ▸ jg_ne (by decide) gL35_2 rfl
            have gL45_3 : jGet L45 3 = some (.int (i32 (w))) := eL45 ▸ jg_ne (by decide) gL35_3 rfl
            have gL45_7 : jGet L45 7 = some (.int (i32 (n))) := eL45 ▸ jg_ne (by decide) gL35_7 rfl
            have gL45_9 : jGet L45 9 = some (.int (i32 (A 53 ((((6000 * p) + k) + n)).toNat))) := eL45 ▸ jg_ne (by decide) gL35_9 rfl
            have gL45_8 : jGet L45 8 = some (.int (i32 (b31))) := eL45 ▸ jg_ne (by decide) gL35_8 rfl
            have gL45_6 : jGet L45 6 = some (.int (i32 (b44))) := eL45 ▸ jg_eq
            refine jx_inc (pc_q := 203) (l_q := jSto1 L45 7 (.int (i32 ((n + (1)))))) (x := n) rfl gL45_7 (by decide) rfl rfl ?_
            obtain ⟨L46, eL46⟩ : ∃ q, q = jSto1 L45 7 (.int (i32 ((n + (1))))) := ⟨_, rfl⟩
            rw [← eL46]
            have gL46_0 : jGet L46 0 = some (.ref 66) := eL46 ▸ jg_ne (by decide) gL45_0 rfl
            have gL46_1 : jGet L46 1 = some (.int (i32 (p))) := eL46 ▸ jg_ne (by decide) gL45_1 rfl
            have gL46_2 : jGet L46 2 = some (.int (i32 (k))) := eL46 ▸ jg_ne (by decide) gL45_2 rfl
            have gL46_3 : jGet L46 3 = some (.int (i32 (w))) := eL46 ▸ jg_ne (by decide) gL45_3 rfl
            have gL46_9 : jGet L46 9 = some (.int (i32 (A 53 ((((6000 * p) + k) + n)).toNat))) := eL46 ▸ jg_ne (by decide) gL45_9 rfl
            have gL46_8 : jGet L46 8 = some (.int (i32 (b31))) := eL46 ▸ jg_ne (by decide) gL45_8 rfl
            have gL46_6 : jGet L46 6 = some (.int (i32 (b44))) := eL46 ▸ jg_ne (by decide) gL45_6 rfl
            have gL46_7 : jGet L46 7 = some (.int (i32 ((n + (1))))) := eL46 ▸ jg_eq
            refine jx_go (tg := 108) rfl rfl ?_
            exact ih108 _ (by omega) L46 Gx Ax (b44) ((n + (1))) (b31) rfl gL46_0 gL46_1 gL46_2 gL46_3 gL46_6 gL46_7 gL46_8 hWx hFx (by omega) (by omega) (by omega) (by omega) (by omega) (by omega) (by omega) (by omega) (by omega)
set_option maxRecDepth 20000 in
set_option maxHeartbeats 4000000 in
theorem c_instruction_at_99 {X : jX} {d : Nat} {c0 c1 : jC} {G : Nat → Int} {A : Nat → Nat → Int} {T : jH} {p k w : Int} {pg bp cs : Int} (hd : 4 ≤ d + 1) (hW : Wk G A) (e_pg : G 58 = pg) (e_bp : A 36 (p).toNat = bp) (e_cs : A 54 (p).toNat = cs) (h_p : (-2147483648 : Int) ≤ p ∧ p ≤ 2147483647) (h_k : (-2147483648 : Int) ≤ k ∧ k ≤ 2147483647) (h_w : (-2147483648 : Int) ≤ w ∧ w ≤ 2147483647) (p_0 : (pg) = 1 → BD A) : ∀ (L : jL) (Gx : Nat → Int) (Ax : Nat → Nat → Int), jGet L 0 = some (.ref 66) → jGet L 1 = some (.int (i32 (p))) → jGet L 2 = some (.int (i32 (k))) → jGet L 3 = some (.int (i32 (w))) → Wk Gx Ax → Fr [0] [] G A Gx Ax → (0 ≤ p) → (p ≤ 5) → (0 ≤ k) → (k < cs) → (cs ≤ 6000) → wj X d jm406 (99, L, [], rV c0 c1 Gx Ax T) (fun o V_q => ∃ (G_q : Nat → Int) (A_q : Nat → Nat → Int) (r : Int), V_q = rV c0 c1 G_q A_q T ∧ o = .inl (some (.int (i32 r))) ∧ Wk G_q A_q ∧ Fr [0] [] G A G_q A_q ∧ ((-2147483648 : Int) ≤ r ∧ r ≤ 2147483647) ∧ True) := by
  have hF0 : Fr [0] [] G A G A := Fr_rf
  have b_pg : (0 : Int) ≤ pg ∧ pg ≤ 1 := e_pg ▸ hW.1 58
  have b_bp : (-2147483648 : Int) ≤ bp ∧ bp ≤ 2147483647 := e_bp ▸ hW.2 36 _
  have b_cs : (-2147483648 : Int) ≤ cs ∧ cs ≤ 2147483647 := e_cs ▸ hW.2 54 _
  intro L Gx Ax gL_0 gL_1 gL_2 gL_3 hWx hFx iv_0 iv_1 iv_2 iv_3 iv_4
  refine jx_ar (pc_q := 100) (st_q := [.int (i32 (0))]) rfl rfl rfl rfl ?_
  refine jx_ld (pc_q := 102) (l_q := jSto1 L 6 (.int (i32 (0)))) (st_q := []) rfl rfl ?_
  obtain ⟨L47, eL47⟩ : ∃ q, q = jSto1 L 6 (.int (i32 (0))) := ⟨_, rfl⟩
  rw [← eL47]
  have gL47_0 : jGet L47 0 = some (.ref 66) := eL47 ▸ jg_ne (by decide) gL_0 rfl
  have gL47_1 : jGet L47 1 = some (.int (i32 (p))) := eL47 ▸ jg_ne (by decide) gL_1 rfl
  have gL47_2 : jGet L47 2 = some (.int (i32 (k))) := eL47 ▸ jg_ne (by decide) gL_2 rfl
  have gL47_3 : jGet L47 3 = some (.int (i32 (w))) := eL47 ▸ jg_ne (by decide) gL_3 rfl
  have gL47_6 : jGet L47 6 = some (.int (i32 (0))) := eL47 ▸ jg_eq
  refine jx_ar (pc_q := 103) (st_q := [.int (i32 (0))]) rfl rfl rfl rfl ?_
  refine jx_ld (pc_q := 105) (l_q := jSto1 L47 7 (.int (i32 (0)))) (st_q := []) rfl rfl ?_
  obtain ⟨L48, eL48⟩ : ∃ q, q = jSto1 L47 7 (.int (i32 (0))) := ⟨_, rfl⟩
  rw [← eL48]
  have gL48_0 : jGet L48 0 = some (.ref 66) := eL48 ▸ jg_ne (by decide) gL47_0 rfl
  have gL48_1 : jGet L48 1 = some (.int (i32 (p))) := eL48 ▸ jg_ne (by decide) gL47_1 rfl
  have gL48_2 : jGet L48 2 = some (.int (i32 (k))) := eL48 ▸ jg_ne (by decide) gL47_2 rfl
  have gL48_3 : jGet L48 3 = some (.int (i32 (w))) := eL48 ▸ jg_ne (by decide) gL47_3 rfl
  have gL48_6 : jGet L48 6 = some (.int (i32 (0))) := eL48 ▸ jg_ne (by decide) gL47_6 rfl
  have gL48_7 : jGet L48 7 = some (.int (i32 (0))) := eL48 ▸ jg_eq
  refine jx_ar (pc_q := 106) (st_q := [.int (i32 (2))]) rfl rfl rfl rfl ?_
  refine jx_ld (pc_q := 108) (l_q := jSto1 L48 8 (.int (i32 (2)))) (st_q := []) rfl rfl ?_
  obtain ⟨L49, eL49⟩ : ∃ q, q = jSto1 L48 8 (.int (i32 (2))) := ⟨_, rfl⟩
  rw [← eL49]
  have gL49_0 : jGet L49 0 = some (.ref 66) := eL49 ▸ jg_ne (by decide) gL48_0 rfl
  have gL49_1 : jGet L49 1 = some (.int (i32 (p))) := eL49 ▸ jg_ne (by decide) gL48_1 rfl
  have gL49_2 : jGet L49 2 = some (.int (i32 (k))) := eL49 ▸ jg_ne (by decide) gL48_2 rfl
  have gL49_3 : jGet L49 3 = some (.int (i32 (w))) := eL49 ▸ jg_ne (by decide) gL48_3 rfl
  have gL49_6 : jGet L49 6 = some (.int (i32 (0))) := eL49 ▸ jg_ne (by decide) gL48_6 rfl
  have gL49_7 : jGet L49 7 = some (.int (i32 (0))) := eL49 ▸ jg_ne (by decide) gL48_7 rfl
  have gL49_8 : jGet L49 8 = some (.int (i32 (2))) := eL49 ▸ jg_eq
  exact c_instruction_at_108 (X := X) (d := d) (c0 := c0) (c1 := c1) (G := G) (A := A) (T := T) (p := p) (k := k) (w := w) (pg := pg) (bp := bp) (cs := cs) (hd := hd) (hW := hW) (e_pg := e_pg) (e_bp := e_bp) (e_cs := e_cs) (h_p := h_p) (h_k := h_k) (h_w := h_w) (p_0 := p_0) _ L49 Gx Ax (0) (0) (2) rfl gL49_0 gL49_1 gL49_2 gL49_3 gL49_6 gL49_7 gL49_8 hWx hFx (by omega) (by omega) (by omega) (by omega) (by omega) (by omega) (by omega) (by omega) (by omega)
set_option maxRecDepth 20000 in
set_option maxHeartbeats 4000000 in
theorem c_instruction {X : jX} {dd : Nat} {c0 c1 : jC} {G : Nat → Int} {A : Nat → Nat → Int} {T : jH} {p k w : Int} {pg bp cs : Int} (hd : 4 ≤ dd) (hW : Wk G A) (e_pg : G 58 = pg) (e_bp : A 36 (p).toNat = bp) (e_cs : A 54 (p).toNat = cs) (h_p : (-2147483648 : Int) ≤ p ∧ p ≤ 2147483647) (h_k : (-2147483648 : Int) ≤ k ∧ k ≤ 2147483647) (h_w : (-2147483648 : Int) ≤ w ∧ w ≤ 2147483647) (p_0 : (pg) = 1 → BD A) : wk X dd 406 [.ref 66, .int (i32 p), .int (i32 k), .int (i32 w)] (rV c0 c1 G A T) (fun o V_q => ∃ (G_q : Nat → Int) (A_q : Nat → Nat → Int) (r : Int), V_q = rV c0 c1 G_q A_q T ∧ o = .inl (some (.int (i32 r))) ∧ Wk G_q A_q ∧ Fr [0] [] G A G_q A_q ∧ ((-2147483648 : Int) ≤ r ∧ r ≤ 2147483647) ∧ True) := by
  obtain ⟨d, rfl⟩ : ∃ d, dd = d + 1 := ⟨dd - 1, by omega⟩
  refine wk_of (e := jm406) rfl (Nat.le_of_ble_eq_true rfl) ?_
  show wj X d jm406 (0, [(0, .ref 66), (1, .int (i32 (p))), (2, .int (i32 (k))), (3, .int (i32 (w)))], [], rV c0 c1 G A T) _
  have hF0 : Fr [0] [] G A G A := Fr_rf
  have b_pg : (0 : Int) ≤ pg ∧ pg ≤ 1 := e_pg ▸ hW.1 58
  have b_bp : (-2147483648 : Int) ≤ bp ∧ bp ≤ 2147483647 := e_bp ▸ hW.2 36 _
  have b_cs : (-2147483648 : Int) ≤ cs ∧ cs ≤ 2147483647 := e_cs ▸ hW.2 54 _
  refine jx_ld (pc_q := 1) (l_q := [(0, .ref 66), (1, .int (i32 (p))), (2, .int (i32 (k))), (3, .int (i32 (w)))]) (st_q := [.ref 66]) rfl (jl_aloadn rfl) ?_
  refine jr_get (pc_q := 4) (i := 58) (v := .int (i32 (pg))) rfl rfl (by decide) (rFv_eq (by decide) (show G 58 = pg from (e_pg))) rfl ?_
  refine jx_if_eq (pc_q := 7) (tg := 19) rfl rfl rfl (Int.le_trans (by decide : (-2147483648 : Int) ≤ 0) b_pg.1) (Int.le_trans b_pg.2 (by decide : (1 : Int) ≤ 2147483647)) (fun h50 => ?_) (fun h50 => ?_)
  · have _q := h50
    refine jx_ar (pc_q := 20) (st_q := [.int (i32 (0))]) rfl rfl rfl rfl ?_
    refine jx_ld (pc_q := 22) (l_q := jSto1 [(0, .ref 66), (1, .int (i32 (p))), (2, .int (i32 (k))), (3, .int (i32 (w)))] 4 (.int (i32 (0)))) (st_q := []) rfl rfl ?_
    obtain ⟨L51, eL51⟩ : ∃ q, q = jSto1 [(0, .ref 66), (1, .int (i32 (p))), (2, .int (i32 (k))), (3, .int (i32 (w)))] 4 (.int (i32 (0))) := ⟨_, rfl⟩
    rw [← eL51]
    have gL51_0 : jGet L51 0 = some (.ref 66) := eL51 ▸ jg_ne (by decide) (rfl : jGet [(0, .ref 66), (1, .int (i32 (p))), (2, .int (i32 (k))), (3, .int (i32 (w)))] 0 = some (.ref 66)) rfl
    have gL51_1 : jGet L51 1 = some (.int (i32 (p))) := eL51 ▸ jg_ne (by decide) (rfl : jGet [(0, .ref 66), (1, .int (i32 (p))), (2, .int (i32 (k))), (3, .int (i32 (w)))] 1 = some (.int (i32 (p)))) rfl
    have gL51_2 : jGet L51 2 = some (.int (i32 (k))) := eL51 ▸ jg_ne (by decide) (rfl : jGet [(0, .ref 66), (1, .int (i32 (p))), (2, .int (i32 (k))), (3, .int (i32 (w)))] 2 = some (.int (i32 (k)))) rfl
    have gL51_3 : jGet L51 3 = some (.int (i32 (w))) := eL51 ▸ jg_ne (by decide) (rfl : jGet [(0, .ref 66), (1, .int (i32 (p))), (2, .int (i32 (k))), (3, .int (i32 (w)))] 3 = some (.int (i32 (w)))) rfl
    have gL51_4 : jGet L51 4 = some (.int (i32 (0))) := eL51 ▸ jg_eq
    refine jx_ld (pc_q := 24) (l_q := L51) (st_q := [.int (i32 (0))]) rfl (jl_iload gL51_4) ?_
    refine jx_if_eq (pc_q := 27) (tg := 40) rfl rfl rfl (by decide) (by decide) (fun h52 => ?_) (fun h52 => ?_)
    · have _q := h52
      refine jx_ar (pc_q := 41) (st_q := [.int (i32 (0))]) rfl rfl rfl rfl ?_
      refine jx_ld (pc_q := 43) (l_q := jSto1 L51 5 (.int (i32 (0)))) (st_q := []) rfl rfl ?_
      obtain ⟨L53, eL53⟩ : ∃ q, q = jSto1 L51 5 (.int (i32 (0))) := ⟨_, rfl⟩
      rw [← eL53]
      have gL53_0 : jGet L53 0 = some (.ref 66) := eL53 ▸ jg_ne (by decide) gL51_0 rfl
      have gL53_1 : jGet L53 1 = some (.int (i32 (p))) := eL53 ▸ jg_ne (by decide) gL51_1 rfl
      have gL53_2 : jGet L53 2 = some (.int (i32 (k))) := eL53 ▸ jg_ne (by decide) gL51_2 rfl
      have gL53_3 : jGet L53 3 = some (.int (i32 (w))) := eL53 ▸ jg_ne (by decide) gL51_3 rfl
      have gL53_4 : jGet L53 4 = some (.int (i32 (0))) := eL53 ▸ jg_ne (by decide) gL51_4 rfl
      have gL53_5 : jGet L53 5 = some (.int (i32 (0))) := eL53 ▸ jg_eq
      refine jx_ld (pc_q := 44) (l_q := L53) (st_q := [.ref 66]) rfl (jl_aloadn gL53_0) ?_
      refine jx_ld (pc_q := 45) (l_q := L53) (st_q := [.ref 66, .ref 66]) rfl (jl_aloadn gL53_0) ?_
      refine jr_get (pc_q := 48) (i := 58) (v := .int (i32 (pg))) rfl rfl (by decide) (rFv_eq (by decide) (show G 58 = pg from (e_pg))) rfl ?_
      refine jx_if_ne (pc_q := 51) (tg := 55) rfl rfl rfl (Int.le_trans (by decide : (-2147483648 : Int) ≤ 0) b_pg.1) (Int.le_trans b_pg.2 (by decide : (1 : Int) ≤ 2147483647)) (fun h54 => ?_) (fun h54 => ?_)
      · have _q := h54
        refine jx_ld (pc_q := 57) (l_q := L53) (st_q := [.int (i32 (0)), .ref 66]) rfl (jl_iload gL53_4) ?_
        refine jx_if_ne (pc_q := 60) (tg := 64) rfl rfl rfl (by decide) (by decide) (fun h55 => ?_) (fun h55 => ?_)
        · have _q := h55
          exact absurd h55 (by omega)
        · have _q := h55
          refine jx_ar (pc_q := 61) (st_q := [.int (i32 (2)), .ref 66]) rfl rfl rfl rfl ?_
          refine jx_go (tg := 87) rfl rfl ?_
          refine jr_put (pc_q := 90) (i := 0) (z := 2) rfl rfl (by decide) rfl rfl rfl rfl rfl rfl ?_
          have hW56 : Wk (uG G 0 (2)) A := Wk_g hW (show (0 : Int) ≤ 2 by omega) (show 2 ≤ (4 : Int) by omega)
          have hF57 := Fr_g (z := 2) (i := 0) hF0 (by decide)
          refine jx_ld (pc_q := 91) (l_q := L53) (st_q := [.ref 66]) rfl (jl_aloadn gL53_0) ?_
          refine jr_get (pc_q := 94) (i := 0) (v := .int (i32 (2))) rfl rfl (by decide) rfl rfl ?_
          refine jx_if_le (pc_q := 97) (tg := 99) rfl rfl rfl (by decide) (by decide) (fun h58 => ?_) (fun h58 => ?_)
          · have _q := h58
            exact absurd h58 (by omega)
          · have _q := h58
            refine jx_ar (pc_q := 98) (st_q := [.int (i32 (0))]) rfl rfl rfl rfl ?_
            refine jx_rt (v := some (.int (i32 (0)))) rfl rfl rfl rfl rfl rfl ?_
            exact ⟨_, _, _, rfl, rfl, hW56, hF57, by omega, trivial⟩
      · have _q := h54
        refine jx_ar (pc_q := 52) (st_q := [.int (i32 (1)), .ref 66]) rfl rfl rfl rfl ?_
        refine jx_go (tg := 87) rfl rfl ?_
        refine jr_put (pc_q := 90) (i := 0) (z := 1) rfl rfl (by decide) rfl rfl rfl rfl rfl rfl ?_
        have hW59 : Wk (uG G 0 (1)) A := Wk_g hW (show (0 : Int) ≤ 1 by omega) (show 1 ≤ (4 : Int) by omega)
        have hF60 := Fr_g (z := 1) (i := 0) hF0 (by decide)
        refine jx_ld (pc_q := 91) (l_q := L53) (st_q := [.ref 66]) rfl (jl_aloadn gL53_0) ?_
        refine jr_get (pc_q := 94) (i := 0) (v := .int (i32 (1))) rfl rfl (by decide) rfl rfl ?_
        refine jx_if_le (pc_q := 97) (tg := 99) rfl rfl rfl (by decide) (by decide) (fun h61 => ?_) (fun h61 => ?_)
        · have _q := h61
          exact absurd h61 (by omega)
        · have _q := h61
          refine jx_ar (pc_q := 98) (st_q := [.int (i32 (0))]) rfl rfl rfl rfl ?_
          refine jx_rt (v := some (.int (i32 (0)))) rfl rfl rfl rfl rfl rfl ?_
          exact ⟨_, _, _, rfl, rfl, hW59, hF60, by omega, trivial⟩
    · have _q := h52
      exact absurd h52 (by omega)
  · have _q := h50
    refine jx_ld (pc_q := 8) (l_q := [(0, .ref 66), (1, .int (i32 (p))), (2, .int (i32 (k))), (3, .int (i32 (w)))]) (st_q := [.ref 66]) rfl (jl_aloadn rfl) ?_
    refine jx_ld (pc_q := 9) (l_q := [(0, .ref 66), (1, .int (i32 (p))), (2, .int (i32 (k))), (3, .int (i32 (w)))]) (st_q := [.int (i32 (p)), .ref 66]) rfl (jl_iloadn rfl) ?_
    refine jx_vr (pc_q := 12) (as := [.int (i32 (p))]) (st := []) rfl rfl rfl rfl ⟨rfl, rfl, Nat.le_of_ble_eq_true rfl⟩ rfl rfl (c_isCore2 (dd := d) (hd := by omega) (hW := hW) (p := p) (bp := bp) (e_bp := show A 36 (p).toNat = bp from (e_bp))  (h_p := ⟨(Int.le_trans (by decide : (-2147483648 : Int) ≤ -2147483648) h_p.1), (Int.le_trans h_p.2 (by decide : (2147483647 : Int) ≤ 2147483647))⟩)  ) (fun o V_q hq => ?_)
    obtain ⟨r62, rfl, rfl, b63, q64⟩ := hq
    refine .inr ⟨_, rfl, ?_⟩
    rcases q64 with ⟨rfl, a65, a66, a67⟩ | ⟨rfl, a68⟩
    · have _q : True := trivial
      refine jx_if_eq (pc_q := 15) (tg := 19) rfl rfl rfl (by decide) (by decide) (fun h69 => ?_) (fun h69 => ?_)
      · have _q := h69
        exact absurd h69 (by omega)
      · have _q := h69
        have hbd := p_0 (by omega) p (by omega) (by omega) (by rw [show A 36 (p).toNat = bp from e_bp]; omega); rw [show A 54 (p).toNat = cs from e_cs] at hbd
        refine jx_ar (pc_q := 16) (st_q := [.int (i32 (1))]) rfl rfl rfl rfl ?_
        refine jx_go (tg := 20) rfl rfl ?_
        refine jx_ld (pc_q := 22) (l_q := jSto1 [(0, .ref 66), (1, .int (i32 (p))), (2, .int (i32 (k))), (3, .int (i32 (w)))] 4 (.int (i32 (1)))) (st_q := []) rfl rfl ?_
        obtain ⟨L70, eL70⟩ : ∃ q, q = jSto1 [(0, .ref 66), (1, .int (i32 (p))), (2, .int (i32 (k))), (3, .int (i32 (w)))] 4 (.int (i32 (1))) := ⟨_, rfl⟩
        rw [← eL70]
        have gL70_0 : jGet L70 0 = some (.ref 66) := eL70 ▸ jg_ne (by decide) (rfl : jGet [(0, .ref 66), (1, .int (i32 (p))), (2, .int (i32 (k))), (3, .int (i32 (w)))] 0 = some (.ref 66)) rfl
        have gL70_1 : jGet L70 1 = some (.int (i32 (p))) := eL70 ▸ jg_ne (by decide) (rfl : jGet [(0, .ref 66), (1, .int (i32 (p))), (2, .int (i32 (k))), (3, .int (i32 (w)))] 1 = some (.int (i32 (p)))) rfl
        have gL70_2 : jGet L70 2 = some (.int (i32 (k))) := eL70 ▸ jg_ne (by decide) (rfl : jGet [(0, .ref 66), (1, .int (i32 (p))), (2, .int (i32 (k))), (3, .int (i32 (w)))] 2 = some (.int (i32 (k)))) rfl
        have gL70_3 : jGet L70 3 = some (.int (i32 (w))) := eL70 ▸ jg_ne (by decide) (rfl : jGet [(0, .ref 66), (1, .int (i32 (p))), (2, .int (i32 (k))), (3, .int (i32 (w)))] 3 = some (.int (i32 (w)))) rfl
        have gL70_4 : jGet L70 4 = some (.int (i32 (1))) := eL70 ▸ jg_eq
        refine jx_ld (pc_q := 24) (l_q := L70) (st_q := [.int (i32 (1))]) rfl (jl_iload gL70_4) ?_
        refine jx_if_eq (pc_q := 27) (tg := 40) rfl rfl rfl (by decide) (by decide) (fun h71 => ?_) (fun h71 => ?_)
        · have _q := h71
          exact absurd h71 (by omega)
        · have _q := h71
          refine jx_ld (pc_q := 28) (l_q := L70) (st_q := [.ref 66]) rfl (jl_aloadn gL70_0) ?_
          refine jx_ld (pc_q := 29) (l_q := L70) (st_q := [.int (i32 (p)), .ref 66]) rfl (jl_iloadn gL70_1) ?_
          refine jx_ld (pc_q := 30) (l_q := L70) (st_q := [.int (i32 (k)), .int (i32 (p)), .ref 66]) rfl (jl_iloadn gL70_2) ?_
          refine jx_vr (pc_q := 33) (as := [.int (i32 (p)), .int (i32 (k))]) (st := []) rfl rfl rfl rfl ⟨rfl, rfl, Nat.le_of_ble_eq_true rfl⟩ rfl rfl (c_isByte (dd := d) (hd := by omega) (hW := hW) (p := p) (k := k) (bp := bp) (e_bp := show A 36 (p).toNat = bp from (e_bp)) (cs := cs) (e_cs := show A 54 (p).toNat = cs from (e_cs))  (h_p := ⟨(Int.le_trans (by decide : (-2147483648 : Int) ≤ -2147483648) h_p.1), (Int.le_trans h_p.2 (by decide : (2147483647 : Int) ≤ 2147483647))⟩) (h_k := ⟨(Int.le_trans (by decide : (-2147483648 : Int) ≤ -2147483648) h_k.1), (Int.le_trans h_k.2 (by decide : (2147483647 : Int) ≤ 2147483647))⟩)  (p_0 := (p_0 (by omega)))) (fun o V_q hq => ?_)
          obtain ⟨r72, rfl, rfl, b73, q74⟩ := hq
          refine .inr ⟨_, rfl, ?_⟩
          rcases q74 with ⟨rfl, a75, a76, a77, a78, a79⟩ | ⟨rfl, a80⟩
          · have _q : True := trivial
            refine jx_if_eq (pc_q := 36) (tg := 40) rfl rfl rfl (by decide) (by decide) (fun h81 => ?_) (fun h81 => ?_)
            · have _q := h81
              exact absurd h81 (by omega)
            · have _q := h81
              refine jx_ar (pc_q := 37) (st_q := [.int (i32 (1))]) rfl rfl rfl rfl ?_
              refine jx_go (tg := 41) rfl rfl ?_
              refine jx_ld (pc_q := 43) (l_q := jSto1 L70 5 (.int (i32 (1)))) (st_q := []) rfl rfl ?_
              obtain ⟨L82, eL82⟩ : ∃ q, q = jSto1 L70 5 (.int (i32 (1))) := ⟨_, rfl⟩
              rw [← eL82]
              have gL82_0 : jGet L82 0 = some (.ref 66) := eL82 ▸ jg_ne (by decide) gL70_0 rfl
              have gL82_1 : jGet L82 1 = some (.int (i32 (p))) := eL82 ▸ jg_ne (by decide) gL70_1 rfl
              have gL82_2 : jGet L82 2 = some (.int (i32 (k))) := eL82 ▸ jg_ne (by decide) gL70_2 rfl
              have gL82_3 : jGet L82 3 = some (.int (i32 (w))) := eL82 ▸ jg_ne (by decide) gL70_3 rfl
              have gL82_4 : jGet L82 4 = some (.int (i32 (1))) := eL82 ▸ jg_ne (by decide) gL70_4 rfl
              have gL82_5 : jGet L82 5 = some (.int (i32 (1))) := eL82 ▸ jg_eq
              refine jx_ld (pc_q := 44) (l_q := L82) (st_q := [.ref 66]) rfl (jl_aloadn gL82_0) ?_
              refine jx_ld (pc_q := 45) (l_q := L82) (st_q := [.ref 66, .ref 66]) rfl (jl_aloadn gL82_0) ?_
              refine jr_get (pc_q := 48) (i := 58) (v := .int (i32 (pg))) rfl rfl (by decide) (rFv_eq (by decide) (show G 58 = pg from (e_pg))) rfl ?_
              refine jx_if_ne (pc_q := 51) (tg := 55) rfl rfl rfl (Int.le_trans (by decide : (-2147483648 : Int) ≤ 0) b_pg.1) (Int.le_trans b_pg.2 (by decide : (1 : Int) ≤ 2147483647)) (fun h83 => ?_) (fun h83 => ?_)
              · have _q := h83
                refine jx_ld (pc_q := 57) (l_q := L82) (st_q := [.int (i32 (1)), .ref 66]) rfl (jl_iload gL82_4) ?_
                refine jx_if_ne (pc_q := 60) (tg := 64) rfl rfl rfl (by decide) (by decide) (fun h84 => ?_) (fun h84 => ?_)
                · have _q := h84
                  refine jx_ld (pc_q := 66) (l_q := L82) (st_q := [.int (i32 (1)), .ref 66]) rfl (jl_iload gL82_5) ?_
                  refine jx_if_ne (pc_q := 69) (tg := 73) rfl rfl rfl (by decide) (by decide) (fun h85 => ?_) (fun h85 => ?_)
                  · have _q := h85
                    refine jx_ld (pc_q := 74) (l_q := L82) (st_q := [.int (i32 (w)), .ref 66]) rfl (jl_iloadn gL82_3) ?_
                    refine jx_ar (pc_q := 75) (st_q := [.int (i32 (0)), .int (i32 (w)), .ref 66]) rfl rfl rfl rfl ?_
                    refine jx_ar (pc_q := 76) (st_q := [.int (i32 (2)), .int (i32 (0)), .int (i32 (w)), .ref 66]) rfl rfl rfl rfl ?_
                    refine jx_st (pc_q := 79) (as := [.int (i32 (w)), .int (i32 (0)), .int (i32 (2))]) (st := [.ref 66]) rfl rfl ⟨rfl, Nat.le_of_ble_eq_true rfl⟩ rfl rfl rfl (c_in (dd := d) (hd := by omega) (v := w) (a := 0) (b := 2)   (h_v := ⟨(Int.le_trans (by decide : (-2147483648 : Int) ≤ -2147483648) h_w.1), (Int.le_trans h_w.2 (by decide : (2147483647 : Int) ≤ 2147483647))⟩) (h_a := ⟨(by decide), (by decide)⟩) (h_b := ⟨(by decide), (by decide)⟩)  ) (fun o V_q hq => ?_)
                    obtain ⟨r86, rfl, rfl, b87, q88⟩ := hq
                    refine .inr ⟨_, rfl, ?_⟩
                    rcases q88 with ⟨rfl, a89, a90⟩ | ⟨rfl, a91⟩
                    · have _q : True := trivial
                      refine jx_if_ne (pc_q := 82) (tg := 86) rfl rfl rfl (by decide) (by decide) (fun h92 => ?_) (fun h92 => ?_)
                      · have _q := h92
                        refine jx_ar (pc_q := 87) (st_q := [.int (i32 (0)), .ref 66]) rfl rfl rfl rfl ?_
                        refine jr_put (pc_q := 90) (i := 0) (z := 0) rfl rfl (by decide) rfl rfl rfl rfl rfl rfl ?_
                        have hW93 : Wk (uG G 0 (0)) A := Wk_g hW (show (0 : Int) ≤ 0 by omega) (show 0 ≤ (4 : Int) by omega)
                        have hF94 := Fr_g (z := 0) (i := 0) hF0 (by decide)
                        refine jx_ld (pc_q := 91) (l_q := L82) (st_q := [.ref 66]) rfl (jl_aloadn gL82_0) ?_
                        refine jr_get (pc_q := 94) (i := 0) (v := .int (i32 (0))) rfl rfl (by decide) rfl rfl ?_
                        refine jx_if_le (pc_q := 97) (tg := 99) rfl rfl rfl (by decide) (by decide) (fun h95 => ?_) (fun h95 => ?_)
                        · have _q := h95
                          exact c_instruction_at_99 (X := X) (d := d) (c0 := c0) (c1 := c1) (G := G) (A := A) (T := T) (p := p) (k := k) (w := w) (pg := pg) (bp := bp) (cs := cs) (hd := hd) (hW := hW) (e_pg := e_pg) (e_bp := e_bp) (e_cs := e_cs) (h_p := h_p) (h_k := h_k) (h_w := h_w) (p_0 := p_0) L82 (uG G 0 (0)) A gL82_0 gL82_1 gL82_2 gL82_3 hW93 hF94 (by omega) (by omega) (by omega) (by omega) (by omega)
                        · have _q := h95
                          exact absurd h95 (by omega)
                      · have _q := h92
                        exact absurd h92 (by omega)
                    · have _q : True := trivial
                      refine jx_if_ne (pc_q := 82) (tg := 86) rfl rfl rfl (by decide) (by decide) (fun h96 => ?_) (fun h96 => ?_)
                      · have _q := h96
                        exact absurd h96 (by omega)
                      · have _q := h96
                        refine jx_ar (pc_q := 83) (st_q := [.int (i32 (4)), .ref 66]) rfl rfl rfl rfl ?_
                        refine jx_go (tg := 87) rfl rfl ?_
                        refine jr_put (pc_q := 90) (i := 0) (z := 4) rfl rfl (by decide) rfl rfl rfl rfl rfl rfl ?_
                        have hW97 : Wk (uG G 0 (4)) A := Wk_g hW (show (0 : Int) ≤ 4 by omega) (show 4 ≤ (4 : Int) by omega)
                        have hF98 := Fr_g (z := 4) (i := 0) hF0 (by decide)
                        refine jx_ld (pc_q := 91) (l_q := L82) (st_q := [.ref 66]) rfl (jl_aloadn gL82_0) ?_
                        refine jr_get (pc_q := 94) (i := 0) (v := .int (i32 (4))) rfl rfl (by decide) rfl rfl ?_
                        refine jx_if_le (pc_q := 97) (tg := 99) rfl rfl rfl (by decide) (by decide) (fun h99 => ?_) (fun h99 => ?_)
                        · have _q := h99
                          exact absurd h99 (by omega)
                        · have _q := h99
                          refine jx_ar (pc_q := 98) (st_q := [.int (i32 (0))]) rfl rfl rfl rfl ?_
                          refine jx_rt (v := some (.int (i32 (0)))) rfl rfl rfl rfl rfl rfl ?_
                          exact ⟨_, _, _, rfl, rfl, hW97, hF98, by omega, trivial⟩
                  · have _q := h85
                    exact absurd h85 (by omega)
                · have _q := h84
                  exact absurd h84 (by omega)
              · have _q := h83
                refine jx_ar (pc_q := 52) (st_q := [.int (i32 (1)), .ref 66]) rfl rfl rfl rfl ?_
                refine jx_go (tg := 87) rfl rfl ?_
                refine jr_put (pc_q := 90) (i := 0) (z := 1) rfl rfl (by decide) rfl rfl rfl rfl rfl rfl ?_
                have hW100 : Wk (uG G 0 (1)) A := Wk_g hW (show (0 : Int) ≤ 1 by omega) (show 1 ≤ (4 : Int) by omega)
                have hF101 := Fr_g (z := 1) (i := 0) hF0 (by decide)
                refine jx_ld (pc_q := 91) (l_q := L82) (st_q := [.ref 66]) rfl (jl_aloadn gL82_0) ?_
                refine jr_get (pc_q := 94) (i := 0) (v := .int (i32 (1))) rfl rfl (by decide) rfl rfl ?_
                refine jx_if_le (pc_q := 97) (tg := 99) rfl rfl rfl (by decide) (by decide) (fun h102 => ?_) (fun h102 => ?_)
                · have _q := h102
                  exact absurd h102 (by omega)
                · have _q := h102
                  refine jx_ar (pc_q := 98) (st_q := [.int (i32 (0))]) rfl rfl rfl rfl ?_
                  refine jx_rt (v := some (.int (i32 (0)))) rfl rfl rfl rfl rfl rfl ?_
                  exact ⟨_, _, _, rfl, rfl, hW100, hF101, by omega, trivial⟩
          · have _q : True := trivial
            refine jx_if_eq (pc_q := 36) (tg := 40) rfl rfl rfl (by decide) (by decide) (fun h103 => ?_) (fun h103 => ?_)
            · have _q := h103
              refine jx_ar (pc_q := 41) (st_q := [.int (i32 (0))]) rfl rfl rfl rfl ?_
              refine jx_ld (pc_q := 43) (l_q := jSto1 L70 5 (.int (i32 (0)))) (st_q := []) rfl rfl ?_
              obtain ⟨L104, eL104⟩ : ∃ q, q = jSto1 L70 5 (.int (i32 (0))) := ⟨_, rfl⟩
              rw [← eL104]
              have gL104_0 : jGet L104 0 = some (.ref 66) := eL104 ▸ jg_ne (by decide) gL70_0 rfl
              have gL104_1 : jGet L104 1 = some (.int (i32 (p))) := eL104 ▸ jg_ne (by decide) gL70_1 rfl
              have gL104_2 : jGet L104 2 = some (.int (i32 (k))) := eL104 ▸ jg_ne (by decide) gL70_2 rfl
              have gL104_3 : jGet L104 3 = some (.int (i32 (w))) := eL104 ▸ jg_ne (by decide) gL70_3 rfl
              have gL104_4 : jGet L104 4 = some (.int (i32 (1))) := eL104 ▸ jg_ne (by decide) gL70_4 rfl
              have gL104_5 : jGet L104 5 = some (.int (i32 (0))) := eL104 ▸ jg_eq
              refine jx_ld (pc_q := 44) (l_q := L104) (st_q := [.ref 66]) rfl (jl_aloadn gL104_0) ?_
              refine jx_ld (pc_q := 45) (l_q := L104) (st_q := [.ref 66, .ref 66]) rfl (jl_aloadn gL104_0) ?_
              refine jr_get (pc_q := 48) (i := 58) (v := .int (i32 (pg))) rfl rfl (by decide) (rFv_eq (by decide) (show G 58 = pg from (e_pg))) rfl ?_
              refine jx_if_ne (pc_q := 51) (tg := 55) rfl rfl rfl (Int.le_trans (by decide : (-2147483648 : Int) ≤ 0) b_pg.1) (Int.le_trans b_pg.2 (by decide : (1 : Int) ≤ 2147483647)) (fun h105 => ?_) (fun h105 => ?_)
              · have _q := h105
                refine jx_ld (pc_q := 57) (l_q := L104) (st_q := [.int (i32 (1)), .ref 66]) rfl (jl_iload gL104_4) ?_
                refine jx_if_ne (pc_q := 60) (tg := 64) rfl rfl rfl (by decide) (by decide) (fun h106 => ?_) (fun h106 => ?_)
                · have _q := h106
                  refine jx_ld (pc_q := 66) (l_q := L104) (st_q := [.int (i32 (0)), .ref 66]) rfl (jl_iload gL104_5) ?_
                  refine jx_if_ne (pc_q := 69) (tg := 73) rfl rfl rfl (by decide) (by decide) (fun h107 => ?_) (fun h107 => ?_)
                  · have _q := h107
                    exact absurd h107 (by omega)
                  · have _q := h107
                    refine jx_ar (pc_q := 70) (st_q := [.int (i32 (3)), .ref 66]) rfl rfl rfl rfl ?_
                    refine jx_go (tg := 87) rfl rfl ?_
                    refine jr_put (pc_q := 90) (i := 0) (z := 3) rfl rfl (by decide) rfl rfl rfl rfl rfl rfl ?_
                    have hW108 : Wk (uG G 0 (3)) A := Wk_g hW (show (0 : Int) ≤ 3 by omega) (show 3 ≤ (4 : Int) by omega)
                    have hF109 := Fr_g (z := 3) (i := 0) hF0 (by decide)
                    refine jx_ld (pc_q := 91) (l_q := L104) (st_q := [.ref 66]) rfl (jl_aloadn gL104_0) ?_
                    refine jr_get (pc_q := 94) (i := 0) (v := .int (i32 (3))) rfl rfl (by decide) rfl rfl ?_
                    refine jx_if_le (pc_q := 97) (tg := 99) rfl rfl rfl (by decide) (by decide) (fun h110 => ?_) (fun h110 => ?_)
                    · have _q := h110
                      exact absurd h110 (by omega)
                    · have _q := h110
                      refine jx_ar (pc_q := 98) (st_q := [.int (i32 (0))]) rfl rfl rfl rfl ?_
                      refine jx_rt (v := some (.int (i32 (0)))) rfl rfl rfl rfl rfl rfl ?_
                      exact ⟨_, _, _, rfl, rfl, hW108, hF109, by omega, trivial⟩
                · have _q := h106
                  exact absurd h106 (by omega)
              · have _q := h105
                refine jx_ar (pc_q := 52) (st_q := [.int (i32 (1)), .ref 66]) rfl rfl rfl rfl ?_
                refine jx_go (tg := 87) rfl rfl ?_
                refine jr_put (pc_q := 90) (i := 0) (z := 1) rfl rfl (by decide) rfl rfl rfl rfl rfl rfl ?_
                have hW111 : Wk (uG G 0 (1)) A := Wk_g hW (show (0 : Int) ≤ 1 by omega) (show 1 ≤ (4 : Int) by omega)
                have hF112 := Fr_g (z := 1) (i := 0) hF0 (by decide)
                refine jx_ld (pc_q := 91) (l_q := L104) (st_q := [.ref 66]) rfl (jl_aloadn gL104_0) ?_
                refine jr_get (pc_q := 94) (i := 0) (v := .int (i32 (1))) rfl rfl (by decide) rfl rfl ?_
                refine jx_if_le (pc_q := 97) (tg := 99) rfl rfl rfl (by decide) (by decide) (fun h113 => ?_) (fun h113 => ?_)
                · have _q := h113
                  exact absurd h113 (by omega)
                · have _q := h113
                  refine jx_ar (pc_q := 98) (st_q := [.int (i32 (0))]) rfl rfl rfl rfl ?_
                  refine jx_rt (v := some (.int (i32 (0)))) rfl rfl rfl rfl rfl rfl ?_
                  exact ⟨_, _, _, rfl, rfl, hW111, hF112, by omega, trivial⟩
            · have _q := h103
              exact absurd h103 (by omega)
    · have _q : True := trivial
      refine jx_if_eq (pc_q := 15) (tg := 19) rfl rfl rfl (by decide) (by decide) (fun h114 => ?_) (fun h114 => ?_)
      · have _q := h114
        refine jx_ar (pc_q := 20) (st_q := [.int (i32 (0))]) rfl rfl rfl rfl ?_
        refine jx_ld (pc_q := 22) (l_q := jSto1 [(0, .ref 66), (1, .int (i32 (p))), (2, .int (i32 (k))), (3, .int (i32 (w)))] 4 (.int (i32 (0)))) (st_q := []) rfl rfl ?_
        obtain ⟨L115, eL115⟩ : ∃ q, q = jSto1 [(0, .ref 66), (1, .int (i32 (p))), (2, .int (i32 (k))), (3, .int (i32 (w)))] 4 (.int (i32 (0))) := ⟨_, rfl⟩
        rw [← eL115]
        have gL115_0 : jGet L115 0 = some (.ref 66) := eL115 ▸ jg_ne (by decide) (rfl : jGet [(0, .ref 66), (1, .int (i32 (p))), (2, .int (i32 (k))), (3, .int (i32 (w)))] 0 = some (.ref 66)) rfl
        have gL115_1 : jGet L115 1 = some (.int (i32 (p))) := eL115 ▸ jg_ne (by decide) (rfl : jGet [(0, .ref 66), (1, .int (i32 (p))), (2, .int (i32 (k))), (3, .int (i32 (w)))] 1 = some (.int (i32 (p)))) rfl
        have gL115_2 : jGet L115 2 = some (.int (i32 (k))) := eL115 ▸ jg_ne (by decide) (rfl : jGet [(0, .ref 66), (1, .int (i32 (p))), (2, .int (i32 (k))), (3, .int (i32 (w)))] 2 = some (.int (i32 (k)))) rfl
        have gL115_3 : jGet L115 3 = some (.int (i32 (w))) := eL115 ▸ jg_ne (by decide) (rfl : jGet [(0, .ref 66), (1, .int (i32 (p))), (2, .int (i32 (k))), (3, .int (i32 (w)))] 3 = some (.int (i32 (w)))) rfl
        have gL115_4 : jGet L115 4 = some (.int (i32 (0))) := eL115 ▸ jg_eq
        refine jx_ld (pc_q := 24) (l_q := L115) (st_q := [.int (i32 (0))]) rfl (jl_iload gL115_4) ?_
        refine jx_if_eq (pc_q := 27) (tg := 40) rfl rfl rfl (by decide) (by decide) (fun h116 => ?_) (fun h116 => ?_)
        · have _q := h116
          refine jx_ar (pc_q := 41) (st_q := [.int (i32 (0))]) rfl rfl rfl rfl ?_
          refine jx_ld (pc_q := 43) (l_q := jSto1 L115 5 (.int (i32 (0)))) (st_q := []) rfl rfl ?_
          obtain ⟨L117, eL117⟩ : ∃ q, q = jSto1 L115 5 (.int (i32 (0))) := ⟨_, rfl⟩
          rw [← eL117]
          have gL117_0 : jGet L117 0 = some (.ref 66) := eL117 ▸ jg_ne (by decide) gL115_0 rfl
          have gL117_1 : jGet L117 1 = some (.int (i32 (p))) := eL117 ▸ jg_ne (by decide) gL115_1 rfl
          have gL117_2 : jGet L117 2 = some (.int (i32 (k))) := eL117 ▸ jg_ne (by decide) gL115_2 rfl
          have gL117_3 : jGet L117 3 = some (.int (i32 (w))) := eL117 ▸ jg_ne (by decide) gL115_3 rfl
          have gL117_4 : jGet L117 4 = some (.int (i32 (0))) := eL117 ▸ jg_ne (by decide) gL115_4 rfl
          have gL117_5 : jGet L117 5 = some (.int (i32 (0))) := eL117 ▸ jg_eq
          refine jx_ld (pc_q := 44) (l_q := L117) (st_q := [.ref 66]) rfl (jl_aloadn gL117_0) ?_
          refine jx_ld (pc_q := 45) (l_q := L117) (st_q := [.ref 66, .ref 66]) rfl (jl_aloadn gL117_0) ?_
          refine jr_get (pc_q := 48) (i := 58) (v := .int (i32 (pg))) rfl rfl (by decide) (rFv_eq (by decide) (show G 58 = pg from (e_pg))) rfl ?_
          refine jx_if_ne (pc_q := 51) (tg := 55) rfl rfl rfl (Int.le_trans (by decide : (-2147483648 : Int) ≤ 0) b_pg.1) (Int.le_trans b_pg.2 (by decide : (1 : Int) ≤ 2147483647)) (fun h118 => ?_) (fun h118 => ?_)
          · have _q := h118
            refine jx_ld (pc_q := 57) (l_q := L117) (st_q := [.int (i32 (0)), .ref 66]) rfl (jl_iload gL117_4) ?_
            refine jx_if_ne (pc_q := 60) (tg := 64) rfl rfl rfl (by decide) (by decide) (fun h119 => ?_) (fun h119 => ?_)
            · have _q := h119
              exact absurd h119 (by omega)
            · have _q := h119
              refine jx_ar (pc_q := 61) (st_q := [.int (i32 (2)), .ref 66]) rfl rfl rfl rfl ?_
              refine jx_go (tg := 87) rfl rfl ?_
              refine jr_put (pc_q := 90) (i := 0) (z := 2) rfl rfl (by decide) rfl rfl rfl rfl rfl rfl ?_
              have hW120 : Wk (uG G 0 (2)) A := Wk_g hW (show (0 : Int) ≤ 2 by omega) (show 2 ≤ (4 : Int) by omega)
              have hF121 := Fr_g (z := 2) (i := 0) hF0 (by decide)
              refine jx_ld (pc_q := 91) (l_q := L117) (st_q := [.ref 66]) rfl (jl_aloadn gL117_0) ?_
              refine jr_get (pc_q := 94) (i := 0) (v := .int (i32 (2))) rfl rfl (by decide) rfl rfl ?_
              refine jx_if_le (pc_q := 97) (tg := 99) rfl rfl rfl (by decide) (by decide) (fun h122 => ?_) (fun h122 => ?_)
              · have _q := h122
                exact absurd h122 (by omega)
              · have _q := h122
                refine jx_ar (pc_q := 98) (st_q := [.int (i32 (0))]) rfl rfl rfl rfl ?_
                refine jx_rt (v := some (.int (i32 (0)))) rfl rfl rfl rfl rfl rfl ?_
                exact ⟨_, _, _, rfl, rfl, hW120, hF121, by omega, trivial⟩
          · have _q := h118
            refine jx_ar (pc_q := 52) (st_q := [.int (i32 (1)), .ref 66]) rfl rfl rfl rfl ?_
            refine jx_go (tg := 87) rfl rfl ?_
            refine jr_put (pc_q := 90) (i := 0) (z := 1) rfl rfl (by decide) rfl rfl rfl rfl rfl rfl ?_
            have hW123 : Wk (uG G 0 (1)) A := Wk_g hW (show (0 : Int) ≤ 1 by omega) (show 1 ≤ (4 : Int) by omega)
            have hF124 := Fr_g (z := 1) (i := 0) hF0 (by decide)
            refine jx_ld (pc_q := 91) (l_q := L117) (st_q := [.ref 66]) rfl (jl_aloadn gL117_0) ?_
            refine jr_get (pc_q := 94) (i := 0) (v := .int (i32 (1))) rfl rfl (by decide) rfl rfl ?_
            refine jx_if_le (pc_q := 97) (tg := 99) rfl rfl rfl (by decide) (by decide) (fun h125 => ?_) (fun h125 => ?_)
            · have _q := h125
              exact absurd h125 (by omega)
            · have _q := h125
              refine jx_ar (pc_q := 98) (st_q := [.int (i32 (0))]) rfl rfl rfl rfl ?_
              refine jx_rt (v := some (.int (i32 (0)))) rfl rfl rfl rfl rfl rfl ?_
              exact ⟨_, _, _, rfl, rfl, hW123, hF124, by omega, trivial⟩
        · have _q := h116
          exact absurd h116 (by omega)
      · have _q := h114
        exact absurd h114 (by omega)
set_option maxRecDepth 20000 in
set_option maxHeartbeats 4000000 in
theorem c_link_at_74 {X : jX} {d : Nat} {c0 c1 : jC} {G : Nat → Int} {A : Nat → Nat → Int} {T : jH} {l w : Int} {pg lk : Int} (hd : 2 ≤ d + 1) (hW : Wk G A) (e_pg : G 58 = pg) (e_lk : G 52 = lk) (h_l : (-2147483648 : Int) ≤ l ∧ l ≤ 2147483647) (h_w : (-2147483648 : Int) ≤ w ∧ w ≤ 2147483647) : ∀ (L : jL) (Gx : Nat → Int) (Ax : Nat → Nat → Int), jGet L 0 = some (.ref 66) → jGet L 1 = some (.int (i32 (l))) → jGet L 2 = some (.int (i32 (w))) → Wk Gx Ax → Fr [0] [] G A Gx Ax → (0 ≤ l) → (l < lk) → wj X d jm407 (74, L, [], rV c0 c1 Gx Ax T) (fun o V_q => ∃ (G_q : Nat → Int) (A_q : Nat → Nat → Int) (r : Int), V_q = rV c0 c1 G_q A_q T ∧ o = .inl (some (.int (i32 r))) ∧ Wk G_q A_q ∧ Fr [0] [] G A G_q A_q ∧ ((-2147483648 : Int) ≤ r ∧ r ≤ 2147483647) ∧ True) := by
  have hF0 : Fr [0] [] G A G A := Fr_rf
  have b_pg : (0 : Int) ≤ pg ∧ pg ≤ 1 := e_pg ▸ hW.1 58
  have b_lk : (0 : Int) ≤ lk ∧ lk ≤ 12 := e_lk ▸ hW.1 52
  intro L Gx Ax gL_0 gL_1 gL_2 hWx hFx iv_0 iv_1
  refine jx_ld (pc_q := 75) (l_q := L) (st_q := [.int (i32 (w))]) rfl (jl_iloadn gL_2) ?_
  rcases (by omega : w = 0 ∨ w = 1 ∨ w = 2 ∨ w = 3 ∨ w = 4 ∨ (w < 0 ∨ 4 < w)) with h1 | h1 | h1 | h1 | h1 | h1
  · refine jx_swe (z := 0) (tg := 108) h1 rfl rfl rfl rfl ?_
    refine jx_ld (pc_q := 109) (l_q := L) (st_q := [.ref 66]) rfl (jl_aloadn gL_0) ?_
    refine jr_get (pc_q := 112) (i := 53) (v := .ref 101) rfl rfl (by decide) rfl rfl ?_
    refine jx_ld (pc_q := 113) (l_q := L) (st_q := [.int (i32 (l)), .ref 101]) rfl (jl_iloadn gL_1) ?_
    have b2 : (-2147483648 : Int) ≤ A 34 (l).toNat ∧ A 34 (l).toNat ≤ 2147483647 := hW.2 34 _
    refine jr_ldv (pc_q := 114) (i := 34) (m := 13) (z := l) (y := A 34 (l).toNat) rfl (by decide) rfl (by decide) (by omega) (by omega) rfl (show Ax 34 (l).toNat = A 34 (l).toNat from (congrFun (hFx.2 34 rfl) _)) ?_
    refine jx_rt (v := some (.int (i32 (A 34 (l).toNat)))) rfl rfl rfl rfl rfl rfl ?_
    exact ⟨_, _, _, rfl, rfl, hWx, hFx, by omega, trivial⟩
  · refine jx_swe (z := 1) (tg := 115) h1 rfl rfl rfl rfl ?_
    refine jx_ld (pc_q := 116) (l_q := L) (st_q := [.ref 66]) rfl (jl_aloadn gL_0) ?_
    refine jr_get (pc_q := 119) (i := 54) (v := .ref 102) rfl rfl (by decide) rfl rfl ?_
    refine jx_ld (pc_q := 120) (l_q := L) (st_q := [.int (i32 (l)), .ref 102]) rfl (jl_iloadn gL_1) ?_
    have b3 : (-2147483648 : Int) ≤ A 35 (l).toNat ∧ A 35 (l).toNat ≤ 2147483647 := hW.2 35 _
    refine jr_ldv (pc_q := 121) (i := 35) (m := 13) (z := l) (y := A 35 (l).toNat) rfl (by decide) rfl (by decide) (by omega) (by omega) rfl (show Ax 35 (l).toNat = A 35 (l).toNat from (congrFun (hFx.2 35 rfl) _)) ?_
    refine jx_rt (v := some (.int (i32 (A 35 (l).toNat)))) rfl rfl rfl rfl rfl rfl ?_
    exact ⟨_, _, _, rfl, rfl, hWx, hFx, by omega, trivial⟩
  · refine jx_swe (z := 2) (tg := 122) h1 rfl rfl rfl rfl ?_
    refine jx_ld (pc_q := 123) (l_q := L) (st_q := [.ref 66]) rfl (jl_aloadn gL_0) ?_
    refine jr_get (pc_q := 126) (i := 117) (v := .ref 150) rfl rfl (by decide) rfl rfl ?_
    refine jx_ld (pc_q := 127) (l_q := L) (st_q := [.int (i32 (l)), .ref 150]) rfl (jl_iloadn gL_1) ?_
    have b4 : (-2147483648 : Int) ≤ A 83 (l).toNat ∧ A 83 (l).toNat ≤ 2147483647 := hW.2 83 _
    refine jr_ldv (pc_q := 128) (i := 83) (m := 12) (z := l) (y := A 83 (l).toNat) rfl (by decide) rfl (by decide) (by omega) (by omega) rfl (show Ax 83 (l).toNat = A 83 (l).toNat from (congrFun (hFx.2 83 rfl) _)) ?_
    refine jx_rt (v := some (.int (i32 (A 83 (l).toNat)))) rfl rfl rfl rfl rfl rfl ?_
    exact ⟨_, _, _, rfl, rfl, hWx, hFx, by omega, trivial⟩
  · refine jx_swe (z := 3) (tg := 129) h1 rfl rfl rfl rfl ?_
    refine jx_ld (pc_q := 130) (l_q := L) (st_q := [.ref 66]) rfl (jl_aloadn gL_0) ?_
    refine jr_get (pc_q := 133) (i := 118) (v := .ref 151) rfl rfl (by decide) rfl rfl ?_
    refine jx_ld (pc_q := 134) (l_q := L) (st_q := [.int (i32 (l)), .ref 151]) rfl (jl_iloadn gL_1) ?_
    have b5 : (0 : Int) ≤ A 84 (l).toNat ∧ A 84 (l).toNat ≤ 1 := hW.2 84 _
    refine jr_lbv (pc_q := 135) (i := 84) (m := 12) (z := l) (y := A 84 (l).toNat) rfl (by decide) rfl (by decide) (by omega) (by omega) rfl (show Ax 84 (l).toNat = A 84 (l).toNat from (congrFun (hFx.2 84 rfl) _)) ?_
    refine jx_if_eq (pc_q := 138) (tg := 142) rfl rfl rfl (Int.le_trans (by decide : (-2147483648 : Int) ≤ 0) b5.1) (Int.le_trans b5.2 (by decide : (1 : Int) ≤ 2147483647)) (fun h6 => ?_) (fun h6 => ?_)
    · have _q := h6
      refine jx_ar (pc_q := 143) (st_q := [.int (i32 (0))]) rfl rfl rfl rfl ?_
      refine jx_rt (v := some (.int (i32 (0)))) rfl rfl rfl rfl rfl rfl ?_
      exact ⟨_, _, _, rfl, rfl, hWx, hFx, by omega, trivial⟩
    · have _q := h6
      refine jx_ar (pc_q := 139) (st_q := [.int (i32 (1))]) rfl rfl rfl rfl ?_
      refine jx_go (tg := 143) rfl rfl ?_
      refine jx_rt (v := some (.int (i32 (1)))) rfl rfl rfl rfl rfl rfl ?_
      exact ⟨_, _, _, rfl, rfl, hWx, hFx, by omega, trivial⟩
  · refine jx_swe (z := 4) (tg := 144) h1 rfl rfl rfl rfl ?_
    refine jx_ld (pc_q := 145) (l_q := L) (st_q := [.ref 66]) rfl (jl_aloadn gL_0) ?_
    refine jr_get (pc_q := 148) (i := 114) (v := .ref 147) rfl rfl (by decide) rfl rfl ?_
    refine jx_ld (pc_q := 149) (l_q := L) (st_q := [.int (i32 (l)), .ref 147]) rfl (jl_iloadn gL_1) ?_
    have b7 : (0 : Int) ≤ A 80 (l).toNat ∧ A 80 (l).toNat ≤ 1 := hW.2 80 _
    refine jr_lbv (pc_q := 150) (i := 80) (m := 12) (z := l) (y := A 80 (l).toNat) rfl (by decide) rfl (by decide) (by omega) (by omega) rfl (show Ax 80 (l).toNat = A 80 (l).toNat from (congrFun (hFx.2 80 rfl) _)) ?_
    refine jx_if_eq (pc_q := 153) (tg := 157) rfl rfl rfl (Int.le_trans (by decide : (-2147483648 : Int) ≤ 0) b7.1) (Int.le_trans b7.2 (by decide : (1 : Int) ≤ 2147483647)) (fun h8 => ?_) (fun h8 => ?_)
    · have _q := h8
      refine jx_ar (pc_q := 158) (st_q := [.int (i32 (0))]) rfl rfl rfl rfl ?_
      refine jx_rt (v := some (.int (i32 (0)))) rfl rfl rfl rfl rfl rfl ?_
      exact ⟨_, _, _, rfl, rfl, hWx, hFx, by omega, trivial⟩
    · have _q := h8
      refine jx_ar (pc_q := 154) (st_q := [.int (i32 (1))]) rfl rfl rfl rfl ?_
      refine jx_go (tg := 158) rfl rfl ?_
      refine jx_rt (v := some (.int (i32 (1)))) rfl rfl rfl rfl rfl rfl ?_
      exact ⟨_, _, _, rfl, rfl, hWx, hFx, by omega, trivial⟩
  · refine jx_swt (tg := 159) (by omega) (by omega) rfl h1 rfl ?_
    refine jx_ld (pc_q := 160) (l_q := L) (st_q := [.ref 66]) rfl (jl_aloadn gL_0) ?_
    refine jr_get (pc_q := 163) (i := 114) (v := .ref 147) rfl rfl (by decide) rfl rfl ?_
    refine jx_ld (pc_q := 164) (l_q := L) (st_q := [.int (i32 (l)), .ref 147]) rfl (jl_iloadn gL_1) ?_
    have b9 : (0 : Int) ≤ A 80 (l).toNat ∧ A 80 (l).toNat ≤ 1 := hW.2 80 _
    refine jr_lbv (pc_q := 165) (i := 80) (m := 12) (z := l) (y := A 80 (l).toNat) rfl (by decide) rfl (by decide) (by omega) (by omega) rfl (show Ax 80 (l).toNat = A 80 (l).toNat from (congrFun (hFx.2 80 rfl) _)) ?_
    refine jx_if_eq (pc_q := 168) (tg := 177) rfl rfl rfl (Int.le_trans (by decide : (-2147483648 : Int) ≤ 0) b9.1) (Int.le_trans b9.2 (by decide : (1 : Int) ≤ 2147483647)) (fun h10 => ?_) (fun h10 => ?_)
    · have _q := h10
      refine jx_ar (pc_q := 178) (st_q := [.int (i32 (0))]) rfl rfl rfl rfl ?_
      refine jx_rt (v := some (.int (i32 (0)))) rfl rfl rfl rfl rfl rfl ?_
      exact ⟨_, _, _, rfl, rfl, hWx, hFx, by omega, trivial⟩
    · have _q := h10
      refine jx_ld (pc_q := 169) (l_q := L) (st_q := [.ref 66]) rfl (jl_aloadn gL_0) ?_
      refine jr_get (pc_q := 172) (i := 115) (v := .ref 148) rfl rfl (by decide) rfl rfl ?_
      refine jx_ld (pc_q := 173) (l_q := L) (st_q := [.int (i32 (l)), .ref 148]) rfl (jl_iloadn gL_1) ?_
      have b11 : (-2147483648 : Int) ≤ A 81 (l).toNat ∧ A 81 (l).toNat ≤ 2147483647 := hW.2 81 _
      refine jr_ldv (pc_q := 174) (i := 81) (m := 12) (z := l) (y := A 81 (l).toNat) rfl (by decide) rfl (by decide) (by omega) (by omega) rfl (show Ax 81 (l).toNat = A 81 (l).toNat from (congrFun (hFx.2 81 rfl) _)) ?_
      refine jx_go (tg := 178) rfl rfl ?_
      refine jx_rt (v := some (.int (i32 (A 81 (l).toNat)))) rfl rfl rfl rfl rfl rfl ?_
      exact ⟨_, _, _, rfl, rfl, hWx, hFx, by omega, trivial⟩
set_option maxRecDepth 20000 in
set_option maxHeartbeats 4000000 in
theorem c_link {X : jX} {dd : Nat} {c0 c1 : jC} {G : Nat → Int} {A : Nat → Nat → Int} {T : jH} {l w : Int} {pg lk : Int} (hd : 2 ≤ dd) (hW : Wk G A) (e_pg : G 58 = pg) (e_lk : G 52 = lk) (h_l : (-2147483648 : Int) ≤ l ∧ l ≤ 2147483647) (h_w : (-2147483648 : Int) ≤ w ∧ w ≤ 2147483647) : wk X dd 407 [.ref 66, .int (i32 l), .int (i32 w)] (rV c0 c1 G A T) (fun o V_q => ∃ (G_q : Nat → Int) (A_q : Nat → Nat → Int) (r : Int), V_q = rV c0 c1 G_q A_q T ∧ o = .inl (some (.int (i32 r))) ∧ Wk G_q A_q ∧ Fr [0] [] G A G_q A_q ∧ ((-2147483648 : Int) ≤ r ∧ r ≤ 2147483647) ∧ True) := by
  obtain ⟨d, rfl⟩ : ∃ d, dd = d + 1 := ⟨dd - 1, by omega⟩
  refine wk_of (e := jm407) rfl (Nat.le_of_ble_eq_true rfl) ?_
  show wj X d jm407 (0, [(0, .ref 66), (1, .int (i32 (l))), (2, .int (i32 (w)))], [], rV c0 c1 G A T) _
  have hF0 : Fr [0] [] G A G A := Fr_rf
  have b_pg : (0 : Int) ≤ pg ∧ pg ≤ 1 := e_pg ▸ hW.1 58
  have b_lk : (0 : Int) ≤ lk ∧ lk ≤ 12 := e_lk ▸ hW.1 52
  refine jx_ld (pc_q := 1) (l_q := [(0, .ref 66), (1, .int (i32 (l))), (2, .int (i32 (w)))]) (st_q := [.int (i32 (l))]) rfl (jl_iloadn rfl) ?_
  refine jx_ar (pc_q := 2) (st_q := [.int (i32 (0)), .int (i32 (l))]) rfl rfl rfl rfl ?_
  refine jx_ld (pc_q := 3) (l_q := [(0, .ref 66), (1, .int (i32 (l))), (2, .int (i32 (w)))]) (st_q := [.ref 66, .int (i32 (0)), .int (i32 (l))]) rfl (jl_aloadn rfl) ?_
  refine jr_get (pc_q := 6) (i := 52) (v := .int (i32 (lk))) rfl rfl (by decide) (rFv_eq (by decide) (show G 52 = lk from (e_lk))) rfl ?_
  refine jx_ar (pc_q := 7) (st_q := [.int (i32 (1)), .int (i32 (lk)), .int (i32 (0)), .int (i32 (l))]) rfl rfl rfl rfl ?_
  refine jx_sub (pc_q := 8) rfl rfl ?_
  refine jx_st (pc_q := 11) (as := [.int (i32 (l)), .int (i32 (0)), .int (i32 ((lk - 1)))]) (st := []) rfl rfl ⟨rfl, Nat.le_of_ble_eq_true rfl⟩ rfl rfl rfl (c_in (dd := d) (hd := by omega) (v := l) (a := 0) (b := (lk - 1))   (h_v := ⟨(Int.le_trans (by decide : (-2147483648 : Int) ≤ -2147483648) h_l.1), (Int.le_trans h_l.2 (by decide : (2147483647 : Int) ≤ 2147483647))⟩) (h_a := ⟨(by decide), (by decide)⟩) (h_b := ⟨(by omega), (by omega)⟩)  ) (fun o V_q hq => ?_)
  obtain ⟨r12, rfl, rfl, b13, q14⟩ := hq
  refine .inr ⟨_, rfl, ?_⟩
  rcases q14 with ⟨rfl, a15, a16⟩ | ⟨rfl, a17⟩
  · have _q : True := trivial
    refine jx_ld (pc_q := 12) (l_q := jSto1 [(0, .ref 66), (1, .int (i32 (l))), (2, .int (i32 (w)))] 3 (.int (i32 (1)))) (st_q := []) rfl rfl ?_
    obtain ⟨L18, eL18⟩ : ∃ q, q = jSto1 [(0, .ref 66), (1, .int (i32 (l))), (2, .int (i32 (w)))] 3 (.int (i32 (1))) := ⟨_, rfl⟩
    rw [← eL18]
    have gL18_0 : jGet L18 0 = some (.ref 66) := eL18 ▸ jg_ne (by decide) (rfl : jGet [(0, .ref 66), (1, .int (i32 (l))), (2, .int (i32 (w)))] 0 = some (.ref 66)) rfl
    have gL18_1 : jGet L18 1 = some (.int (i32 (l))) := eL18 ▸ jg_ne (by decide) (rfl : jGet [(0, .ref 66), (1, .int (i32 (l))), (2, .int (i32 (w)))] 1 = some (.int (i32 (l)))) rfl
    have gL18_2 : jGet L18 2 = some (.int (i32 (w))) := eL18 ▸ jg_ne (by decide) (rfl : jGet [(0, .ref 66), (1, .int (i32 (l))), (2, .int (i32 (w)))] 2 = some (.int (i32 (w)))) rfl
    have gL18_3 : jGet L18 3 = some (.int (i32 (1))) := eL18 ▸ jg_eq
    refine jx_ld (pc_q := 13) (l_q := L18) (st_q := [.ref 66]) rfl (jl_aloadn gL18_0) ?_
    refine jx_ld (pc_q := 14) (l_q := L18) (st_q := [.ref 66, .ref 66]) rfl (jl_aloadn gL18_0) ?_
    refine jr_get (pc_q := 17) (i := 58) (v := .int (i32 (pg))) rfl rfl (by decide) (rFv_eq (by decide) (show G 58 = pg from (e_pg))) rfl ?_
    refine jx_if_ne (pc_q := 20) (tg := 24) rfl rfl rfl (Int.le_trans (by decide : (-2147483648 : Int) ≤ 0) b_pg.1) (Int.le_trans b_pg.2 (by decide : (1 : Int) ≤ 2147483647)) (fun h19 => ?_) (fun h19 => ?_)
    · have _q := h19
      refine jx_ar (pc_q := 25) (st_q := [.int (i32 (0)), .ref 66]) rfl rfl rfl rfl ?_
      refine jx_ld (pc_q := 26) (l_q := L18) (st_q := [.ref 66, .int (i32 (0)), .ref 66]) rfl (jl_aloadn gL18_0) ?_
      refine jr_get (pc_q := 29) (i := 58) (v := .int (i32 (pg))) rfl rfl (by decide) (rFv_eq (by decide) (show G 58 = pg from (e_pg))) rfl ?_
      refine jx_if_eq (pc_q := 32) (tg := 40) rfl rfl rfl (Int.le_trans (by decide : (-2147483648 : Int) ≤ 0) b_pg.1) (Int.le_trans b_pg.2 (by decide : (1 : Int) ≤ 2147483647)) (fun h20 => ?_) (fun h20 => ?_)
      · have _q := h20
        refine jx_ar (pc_q := 41) (st_q := [.int (i32 (0)), .int (i32 (0)), .ref 66]) rfl rfl rfl rfl ?_
        refine jx_ld (pc_q := 42) (l_q := L18) (st_q := [.ref 66, .int (i32 (0)), .int (i32 (0)), .ref 66]) rfl (jl_aloadn gL18_0) ?_
        refine jr_get (pc_q := 45) (i := 58) (v := .int (i32 (pg))) rfl rfl (by decide) (rFv_eq (by decide) (show G 58 = pg from (e_pg))) rfl ?_
        refine jx_if_eq (pc_q := 48) (tg := 65) rfl rfl rfl (Int.le_trans (by decide : (-2147483648 : Int) ≤ 0) b_pg.1) (Int.le_trans b_pg.2 (by decide : (1 : Int) ≤ 2147483647)) (fun h21 => ?_) (fun h21 => ?_)
        · have _q := h21
          refine jx_ar (pc_q := 66) (st_q := [.int (i32 (0)), .int (i32 (0)), .int (i32 (0)), .ref 66]) rfl rfl rfl rfl ?_
          refine jx_vr (pc_q := 69) (as := [.int (i32 (0)), .int (i32 (0)), .int (i32 (0))]) (st := []) rfl rfl rfl rfl ⟨rfl, rfl, Nat.le_of_ble_eq_true rfl⟩ rfl rfl (c_refuse (dd := d) (hd := by omega) (hW := hW) (a := 0) (b := 0) (c := 0)   (h_a := ⟨(by decide), (by decide)⟩) (h_b := ⟨(by decide), (by decide)⟩) (h_c := ⟨(by decide), (by decide)⟩)  ) (fun o V_q hq => ?_)
          obtain ⟨G22, A23, r24, th2_25, rfl, rfl, hW26, hF27, b28, e29, q30⟩ := hq
          have hF31 := Fr_tr hF0 hF27 (Fr_sub (by decide)) (Fr_sub (by decide))
          have bth2_25 : (0 : Int) ≤ th2_25 ∧ th2_25 ≤ 4 := e29 ▸ hW26.1 0
          refine .inr ⟨_, rfl, ?_⟩
          rcases q30 with ⟨rfl, a32, a33⟩ | ⟨rfl, a34, a35, a36⟩ | ⟨rfl, a37, a38, a39, a40⟩ | ⟨rfl, a41, a42, a43, a44⟩
          · have _q : True := trivial
            exfalso
            omega
          · have _q : True := trivial
            exfalso
            omega
          · have _q : True := trivial
            exfalso
            omega
          · have _q : True := trivial
            refine jx_if_eq (pc_q := 72) (tg := 74) rfl rfl rfl (by decide) (by decide) (fun h45 => ?_) (fun h45 => ?_)
            · have _q := h45
              exact c_link_at_74 (X := X) (d := d) (c0 := c0) (c1 := c1) (G := G) (A := A) (T := T) (l := l) (w := w) (pg := pg) (lk := lk) (hd := hd) (hW := hW) (e_pg := e_pg) (e_lk := e_lk) (h_l := h_l) (h_w := h_w) L18 G22 A23 gL18_0 gL18_1 gL18_2 hW26 hF31 (by omega) (by omega)
            · have _q := h45
              exact absurd h45 (by omega)
        · have _q := h21
          refine jx_ld (pc_q := 49) (l_q := L18) (st_q := [.int (i32 (1)), .int (i32 (0)), .int (i32 (0)), .ref 66]) rfl (jl_iloadn gL18_3) ?_
          refine jx_if_eq (pc_q := 52) (tg := 65) rfl rfl rfl (by decide) (by decide) (fun h46 => ?_) (fun h46 => ?_)
          · have _q := h46
            exact absurd h46 (by omega)
          · have _q := h46
            refine jx_ld (pc_q := 53) (l_q := L18) (st_q := [.int (i32 (w)), .int (i32 (0)), .int (i32 (0)), .ref 66]) rfl (jl_iloadn gL18_2) ?_
            refine jx_ar (pc_q := 54) (st_q := [.int (i32 (0)), .int (i32 (w)), .int (i32 (0)), .int (i32 (0)), .ref 66]) rfl rfl rfl rfl ?_
            refine jx_ar (pc_q := 55) (st_q := [.int (i32 (5)), .int (i32 (0)), .int (i32 (w)), .int (i32 (0)), .int (i32 (0)), .ref 66]) rfl rfl rfl rfl ?_
            refine jx_st (pc_q := 58) (as := [.int (i32 (w)), .int (i32 (0)), .int (i32 (5))]) (st := [.int (i32 (0)), .int (i32 (0)), .ref 66]) rfl rfl ⟨rfl, Nat.le_of_ble_eq_true rfl⟩ rfl rfl rfl (c_in (dd := d) (hd := by omega) (v := w) (a := 0) (b := 5)   (h_v := ⟨(Int.le_trans (by decide : (-2147483648 : Int) ≤ -2147483648) h_w.1), (Int.le_trans h_w.2 (by decide : (2147483647 : Int) ≤ 2147483647))⟩) (h_a := ⟨(by decide), (by decide)⟩) (h_b := ⟨(by decide), (by decide)⟩)  ) (fun o V_q hq => ?_)
            obtain ⟨r47, rfl, rfl, b48, q49⟩ := hq
            refine .inr ⟨_, rfl, ?_⟩
            rcases q49 with ⟨rfl, a50, a51⟩ | ⟨rfl, a52⟩
            · have _q : True := trivial
              refine jx_if_ne (pc_q := 61) (tg := 65) rfl rfl rfl (by decide) (by decide) (fun h53 => ?_) (fun h53 => ?_)
              · have _q := h53
                refine jx_ar (pc_q := 66) (st_q := [.int (i32 (0)), .int (i32 (0)), .int (i32 (0)), .ref 66]) rfl rfl rfl rfl ?_
                refine jx_vr (pc_q := 69) (as := [.int (i32 (0)), .int (i32 (0)), .int (i32 (0))]) (st := []) rfl rfl rfl rfl ⟨rfl, rfl, Nat.le_of_ble_eq_true rfl⟩ rfl rfl (c_refuse (dd := d) (hd := by omega) (hW := hW) (a := 0) (b := 0) (c := 0)   (h_a := ⟨(by decide), (by decide)⟩) (h_b := ⟨(by decide), (by decide)⟩) (h_c := ⟨(by decide), (by decide)⟩)  ) (fun o V_q hq => ?_)
                obtain ⟨G54, A55, r56, th2_57, rfl, rfl, hW58, hF59, b60, e61, q62⟩ := hq
                have hF63 := Fr_tr hF0 hF59 (Fr_sub (by decide)) (Fr_sub (by decide))
                have bth2_57 : (0 : Int) ≤ th2_57 ∧ th2_57 ≤ 4 := e61 ▸ hW58.1 0
                refine .inr ⟨_, rfl, ?_⟩
                rcases q62 with ⟨rfl, a64, a65⟩ | ⟨rfl, a66, a67, a68⟩ | ⟨rfl, a69, a70, a71, a72⟩ | ⟨rfl, a73, a74, a75, a76⟩
                · have _q : True := trivial
                  exfalso
                  omega
                · have _q : True := trivial
                  exfalso
                  omega
                · have _q : True := trivial
                  exfalso
                  omega
                · have _q : True := trivial
                  refine jx_if_eq (pc_q := 72) (tg := 74) rfl rfl rfl (by decide) (by decide) (fun h77 => ?_) (fun h77 => ?_)
                  · have _q := h77
                    exact c_link_at_74 (X := X) (d := d) (c0 := c0) (c1 := c1) (G := G) (A := A) (T := T) (l := l) (w := w) (pg := pg) (lk := lk) (hd := hd) (hW := hW) (e_pg := e_pg) (e_lk := e_lk) (h_l := h_l) (h_w := h_w) L18 G54 A55 gL18_0 gL18_1 gL18_2 hW58 hF63 (by omega) (by omega)
                  · have _q := h77
                    exact absurd h77 (by omega)
              · have _q := h53
                exact absurd h53 (by omega)
            · have _q : True := trivial
              refine jx_if_ne (pc_q := 61) (tg := 65) rfl rfl rfl (by decide) (by decide) (fun h78 => ?_) (fun h78 => ?_)
              · have _q := h78
                exact absurd h78 (by omega)
              · have _q := h78
                refine jx_ar (pc_q := 62) (st_q := [.int (i32 (1)), .int (i32 (0)), .int (i32 (0)), .ref 66]) rfl rfl rfl rfl ?_
                refine jx_go (tg := 66) rfl rfl ?_
                refine jx_vr (pc_q := 69) (as := [.int (i32 (0)), .int (i32 (0)), .int (i32 (1))]) (st := []) rfl rfl rfl rfl ⟨rfl, rfl, Nat.le_of_ble_eq_true rfl⟩ rfl rfl (c_refuse (dd := d) (hd := by omega) (hW := hW) (a := 0) (b := 0) (c := 1)   (h_a := ⟨(by decide), (by decide)⟩) (h_b := ⟨(by decide), (by decide)⟩) (h_c := ⟨(by decide), (by decide)⟩)  ) (fun o V_q hq => ?_)
                obtain ⟨G79, A80, r81, th2_82, rfl, rfl, hW83, hF84, b85, e86, q87⟩ := hq
                have hF88 := Fr_tr hF0 hF84 (Fr_sub (by decide)) (Fr_sub (by decide))
                have bth2_82 : (0 : Int) ≤ th2_82 ∧ th2_82 ≤ 4 := e86 ▸ hW83.1 0
                refine .inr ⟨_, rfl, ?_⟩
                rcases q87 with ⟨rfl, a89, a90⟩ | ⟨rfl, a91, a92, a93⟩ | ⟨rfl, a94, a95, a96, a97⟩ | ⟨rfl, a98, a99, a100, a101⟩
                · have _q : True := trivial
                  exfalso
                  omega
                · have _q : True := trivial
                  exfalso
                  omega
                · have _q : True := trivial
                  refine jx_if_eq (pc_q := 72) (tg := 74) rfl rfl rfl (by decide) (by decide) (fun h102 => ?_) (fun h102 => ?_)
                  · have _q := h102
                    exact absurd h102 (by omega)
                  · have _q := h102
                    refine jx_ar (pc_q := 73) (st_q := [.int (i32 (0))]) rfl rfl rfl rfl ?_
                    refine jx_rt (v := some (.int (i32 (0)))) rfl rfl rfl rfl rfl rfl ?_
                    exact ⟨_, _, _, rfl, rfl, hW83, hF88, by omega, trivial⟩
                · have _q : True := trivial
                  exfalso
                  omega
      · have _q := h20
        refine jx_ld (pc_q := 33) (l_q := L18) (st_q := [.int (i32 (1)), .int (i32 (0)), .ref 66]) rfl (jl_iloadn gL18_3) ?_
        refine jx_if_ne (pc_q := 36) (tg := 40) rfl rfl rfl (by decide) (by decide) (fun h103 => ?_) (fun h103 => ?_)
        · have _q := h103
          refine jx_ar (pc_q := 41) (st_q := [.int (i32 (0)), .int (i32 (0)), .ref 66]) rfl rfl rfl rfl ?_
          refine jx_ld (pc_q := 42) (l_q := L18) (st_q := [.ref 66, .int (i32 (0)), .int (i32 (0)), .ref 66]) rfl (jl_aloadn gL18_0) ?_
          refine jr_get (pc_q := 45) (i := 58) (v := .int (i32 (pg))) rfl rfl (by decide) (rFv_eq (by decide) (show G 58 = pg from (e_pg))) rfl ?_
          refine jx_if_eq (pc_q := 48) (tg := 65) rfl rfl rfl (Int.le_trans (by decide : (-2147483648 : Int) ≤ 0) b_pg.1) (Int.le_trans b_pg.2 (by decide : (1 : Int) ≤ 2147483647)) (fun h104 => ?_) (fun h104 => ?_)
          · have _q := h104
            refine jx_ar (pc_q := 66) (st_q := [.int (i32 (0)), .int (i32 (0)), .int (i32 (0)), .ref 66]) rfl rfl rfl rfl ?_
            refine jx_vr (pc_q := 69) (as := [.int (i32 (0)), .int (i32 (0)), .int (i32 (0))]) (st := []) rfl rfl rfl rfl ⟨rfl, rfl, Nat.le_of_ble_eq_true rfl⟩ rfl rfl (c_refuse (dd := d) (hd := by omega) (hW := hW) (a := 0) (b := 0) (c := 0)   (h_a := ⟨(by decide), (by decide)⟩) (h_b := ⟨(by decide), (by decide)⟩) (h_c := ⟨(by decide), (by decide)⟩)  ) (fun o V_q hq => ?_)
            obtain ⟨G105, A106, r107, th2_108, rfl, rfl, hW109, hF110, b111, e112, q113⟩ := hq
            have hF114 := Fr_tr hF0 hF110 (Fr_sub (by decide)) (Fr_sub (by decide))
            have bth2_108 : (0 : Int) ≤ th2_108 ∧ th2_108 ≤ 4 := e112 ▸ hW109.1 0
            refine .inr ⟨_, rfl, ?_⟩
            rcases q113 with ⟨rfl, a115, a116⟩ | ⟨rfl, a117, a118, a119⟩ | ⟨rfl, a120, a121, a122, a123⟩ | ⟨rfl, a124, a125, a126, a127⟩
            · have _q : True := trivial
              exfalso
              omega
            · have _q : True := trivial
              exfalso
              omega
            · have _q : True := trivial
              exfalso
              omega
            · have _q : True := trivial
              refine jx_if_eq (pc_q := 72) (tg := 74) rfl rfl rfl (by decide) (by decide) (fun h128 => ?_) (fun h128 => ?_)
              · have _q := h128
                exact c_link_at_74 (X := X) (d := d) (c0 := c0) (c1 := c1) (G := G) (A := A) (T := T) (l := l) (w := w) (pg := pg) (lk := lk) (hd := hd) (hW := hW) (e_pg := e_pg) (e_lk := e_lk) (h_l := h_l) (h_w := h_w) L18 G105 A106 gL18_0 gL18_1 gL18_2 hW109 hF114 (by omega) (by omega)
              · have _q := h128
                exact absurd h128 (by omega)
          · have _q := h104
            refine jx_ld (pc_q := 49) (l_q := L18) (st_q := [.int (i32 (1)), .int (i32 (0)), .int (i32 (0)), .ref 66]) rfl (jl_iloadn gL18_3) ?_
            refine jx_if_eq (pc_q := 52) (tg := 65) rfl rfl rfl (by decide) (by decide) (fun h129 => ?_) (fun h129 => ?_)
            · have _q := h129
              exact absurd h129 (by omega)
            · have _q := h129
              refine jx_ld (pc_q := 53) (l_q := L18) (st_q := [.int (i32 (w)), .int (i32 (0)), .int (i32 (0)), .ref 66]) rfl (jl_iloadn gL18_2) ?_
              refine jx_ar (pc_q := 54) (st_q := [.int (i32 (0)), .int (i32 (w)), .int (i32 (0)), .int (i32 (0)), .ref 66]) rfl rfl rfl rfl ?_
              refine jx_ar (pc_q := 55) (st_q := [.int (i32 (5)), .int (i32 (0)), .int (i32 (w)), .int (i32 (0)), .int (i32 (0)), .ref 66]) rfl rfl rfl rfl ?_
              refine jx_st (pc_q := 58) (as := [.int (i32 (w)), .int (i32 (0)), .int (i32 (5))]) (st := [.int (i32 (0)), .int (i32 (0)), .ref 66]) rfl rfl ⟨rfl, Nat.le_of_ble_eq_true rfl⟩ rfl rfl rfl (c_in (dd := d) (hd := by omega) (v := w) (a := 0) (b := 5)   (h_v := ⟨(Int.le_trans (by decide : (-2147483648 : Int) ≤ -2147483648) h_w.1), (Int.le_trans h_w.2 (by decide : (2147483647 : Int) ≤ 2147483647))⟩) (h_a := ⟨(by decide), (by decide)⟩) (h_b := ⟨(by decide), (by decide)⟩)  ) (fun o V_q hq => ?_)
              obtain ⟨r130, rfl, rfl, b131, q132⟩ := hq
              refine .inr ⟨_, rfl, ?_⟩
              rcases q132 with ⟨rfl, a133, a134⟩ | ⟨rfl, a135⟩
              · have _q : True := trivial
                refine jx_if_ne (pc_q := 61) (tg := 65) rfl rfl rfl (by decide) (by decide) (fun h136 => ?_) (fun h136 => ?_)
                · have _q := h136
                  refine jx_ar (pc_q := 66) (st_q := [.int (i32 (0)), .int (i32 (0)), .int (i32 (0)), .ref 66]) rfl rfl rfl rfl ?_
                  refine jx_vr (pc_q := 69) (as := [.int (i32 (0)), .int (i32 (0)), .int (i32 (0))]) (st := []) rfl rfl rfl rfl ⟨rfl, rfl, Nat.le_of_ble_eq_true rfl⟩ rfl rfl (c_refuse (dd := d) (hd := by omega) (hW := hW) (a := 0) (b := 0) (c := 0)   (h_a := ⟨(by decide), (by decide)⟩) (h_b := ⟨(by decide), (by decide)⟩) (h_c := ⟨(by decide), (by decide)⟩)  ) (fun o V_q hq => ?_)
                  obtain ⟨G137, A138, r139, th2_140, rfl, rfl, hW141, hF142, b143, e144, q145⟩ := hq
                  have hF146 := Fr_tr hF0 hF142 (Fr_sub (by decide)) (Fr_sub (by decide))
                  have bth2_140 : (0 : Int) ≤ th2_140 ∧ th2_140 ≤ 4 := e144 ▸ hW141.1 0
                  refine .inr ⟨_, rfl, ?_⟩
                  rcases q145 with ⟨rfl, a147, a148⟩ | ⟨rfl, a149, a150, a151⟩ | ⟨rfl, a152, a153, a154, a155⟩ | ⟨rfl, a156, a157, a158, a159⟩
                  · have _q : True := trivial
                    exfalso
                    omega
                  · have _q : True := trivial
                    exfalso
                    omega
                  · have _q : True := trivial
                    exfalso
                    omega
                  · have _q : True := trivial
                    refine jx_if_eq (pc_q := 72) (tg := 74) rfl rfl rfl (by decide) (by decide) (fun h160 => ?_) (fun h160 => ?_)
                    · have _q := h160
                      exact c_link_at_74 (X := X) (d := d) (c0 := c0) (c1 := c1) (G := G) (A := A) (T := T) (l := l) (w := w) (pg := pg) (lk := lk) (hd := hd) (hW := hW) (e_pg := e_pg) (e_lk := e_lk) (h_l := h_l) (h_w := h_w) L18 G137 A138 gL18_0 gL18_1 gL18_2 hW141 hF146 (by omega) (by omega)
                    · have _q := h160
                      exact absurd h160 (by omega)
                · have _q := h136
                  exact absurd h136 (by omega)
              · have _q : True := trivial
                refine jx_if_ne (pc_q := 61) (tg := 65) rfl rfl rfl (by decide) (by decide) (fun h161 => ?_) (fun h161 => ?_)
                · have _q := h161
                  exact absurd h161 (by omega)
                · have _q := h161
                  refine jx_ar (pc_q := 62) (st_q := [.int (i32 (1)), .int (i32 (0)), .int (i32 (0)), .ref 66]) rfl rfl rfl rfl ?_
                  refine jx_go (tg := 66) rfl rfl ?_
                  refine jx_vr (pc_q := 69) (as := [.int (i32 (0)), .int (i32 (0)), .int (i32 (1))]) (st := []) rfl rfl rfl rfl ⟨rfl, rfl, Nat.le_of_ble_eq_true rfl⟩ rfl rfl (c_refuse (dd := d) (hd := by omega) (hW := hW) (a := 0) (b := 0) (c := 1)   (h_a := ⟨(by decide), (by decide)⟩) (h_b := ⟨(by decide), (by decide)⟩) (h_c := ⟨(by decide), (by decide)⟩)  ) (fun o V_q hq => ?_)
                  obtain ⟨G162, A163, r164, th2_165, rfl, rfl, hW166, hF167, b168, e169, q170⟩ := hq
                  have hF171 := Fr_tr hF0 hF167 (Fr_sub (by decide)) (Fr_sub (by decide))
                  have bth2_165 : (0 : Int) ≤ th2_165 ∧ th2_165 ≤ 4 := e169 ▸ hW166.1 0
                  refine .inr ⟨_, rfl, ?_⟩
                  rcases q170 with ⟨rfl, a172, a173⟩ | ⟨rfl, a174, a175, a176⟩ | ⟨rfl, a177, a178, a179, a180⟩ | ⟨rfl, a181, a182, a183, a184⟩
                  · have _q : True := trivial
                    exfalso
                    omega
                  · have _q : True := trivial
                    exfalso
                    omega
                  · have _q : True := trivial
                    refine jx_if_eq (pc_q := 72) (tg := 74) rfl rfl rfl (by decide) (by decide) (fun h185 => ?_) (fun h185 => ?_)
                    · have _q := h185
                      exact absurd h185 (by omega)
                    · have _q := h185
                      refine jx_ar (pc_q := 73) (st_q := [.int (i32 (0))]) rfl rfl rfl rfl ?_
                      refine jx_rt (v := some (.int (i32 (0)))) rfl rfl rfl rfl rfl rfl ?_
                      exact ⟨_, _, _, rfl, rfl, hW166, hF171, by omega, trivial⟩
                  · have _q : True := trivial
                    exfalso
                    omega
        · have _q := h103
          exact absurd h103 (by omega)
    · have _q := h19
      refine jx_ar (pc_q := 21) (st_q := [.int (i32 (1)), .ref 66]) rfl rfl rfl rfl ?_
      refine jx_go (tg := 25) rfl rfl ?_
      refine jx_ld (pc_q := 26) (l_q := L18) (st_q := [.ref 66, .int (i32 (1)), .ref 66]) rfl (jl_aloadn gL18_0) ?_
      refine jr_get (pc_q := 29) (i := 58) (v := .int (i32 (pg))) rfl rfl (by decide) (rFv_eq (by decide) (show G 58 = pg from (e_pg))) rfl ?_
      refine jx_if_eq (pc_q := 32) (tg := 40) rfl rfl rfl (Int.le_trans (by decide : (-2147483648 : Int) ≤ 0) b_pg.1) (Int.le_trans b_pg.2 (by decide : (1 : Int) ≤ 2147483647)) (fun h186 => ?_) (fun h186 => ?_)
      · have _q := h186
        refine jx_ar (pc_q := 41) (st_q := [.int (i32 (0)), .int (i32 (1)), .ref 66]) rfl rfl rfl rfl ?_
        refine jx_ld (pc_q := 42) (l_q := L18) (st_q := [.ref 66, .int (i32 (0)), .int (i32 (1)), .ref 66]) rfl (jl_aloadn gL18_0) ?_
        refine jr_get (pc_q := 45) (i := 58) (v := .int (i32 (pg))) rfl rfl (by decide) (rFv_eq (by decide) (show G 58 = pg from (e_pg))) rfl ?_
        refine jx_if_eq (pc_q := 48) (tg := 65) rfl rfl rfl (Int.le_trans (by decide : (-2147483648 : Int) ≤ 0) b_pg.1) (Int.le_trans b_pg.2 (by decide : (1 : Int) ≤ 2147483647)) (fun h187 => ?_) (fun h187 => ?_)
        · have _q := h187
          refine jx_ar (pc_q := 66) (st_q := [.int (i32 (0)), .int (i32 (0)), .int (i32 (1)), .ref 66]) rfl rfl rfl rfl ?_
          refine jx_vr (pc_q := 69) (as := [.int (i32 (1)), .int (i32 (0)), .int (i32 (0))]) (st := []) rfl rfl rfl rfl ⟨rfl, rfl, Nat.le_of_ble_eq_true rfl⟩ rfl rfl (c_refuse (dd := d) (hd := by omega) (hW := hW) (a := 1) (b := 0) (c := 0)   (h_a := ⟨(by decide), (by decide)⟩) (h_b := ⟨(by decide), (by decide)⟩) (h_c := ⟨(by decide), (by decide)⟩)  ) (fun o V_q hq => ?_)
          obtain ⟨G188, A189, r190, th2_191, rfl, rfl, hW192, hF193, b194, e195, q196⟩ := hq
          have hF197 := Fr_tr hF0 hF193 (Fr_sub (by decide)) (Fr_sub (by decide))
          have bth2_191 : (0 : Int) ≤ th2_191 ∧ th2_191 ≤ 4 := e195 ▸ hW192.1 0
          refine .inr ⟨_, rfl, ?_⟩
          rcases q196 with ⟨rfl, a198, a199⟩ | ⟨rfl, a200, a201, a202⟩ | ⟨rfl, a203, a204, a205, a206⟩ | ⟨rfl, a207, a208, a209, a210⟩
          · have _q : True := trivial
            refine jx_if_eq (pc_q := 72) (tg := 74) rfl rfl rfl (by decide) (by decide) (fun h211 => ?_) (fun h211 => ?_)
            · have _q := h211
              exact absurd h211 (by omega)
            · have _q := h211
              refine jx_ar (pc_q := 73) (st_q := [.int (i32 (0))]) rfl rfl rfl rfl ?_
              refine jx_rt (v := some (.int (i32 (0)))) rfl rfl rfl rfl rfl rfl ?_
              exact ⟨_, _, _, rfl, rfl, hW192, hF197, by omega, trivial⟩
          · have _q : True := trivial
            exfalso
            omega
          · have _q : True := trivial
            exfalso
            omega
          · have _q : True := trivial
            exfalso
            omega
        · have _q := h187
          refine jx_ld (pc_q := 49) (l_q := L18) (st_q := [.int (i32 (1)), .int (i32 (0)), .int (i32 (1)), .ref 66]) rfl (jl_iloadn gL18_3) ?_
          refine jx_if_eq (pc_q := 52) (tg := 65) rfl rfl rfl (by decide) (by decide) (fun h212 => ?_) (fun h212 => ?_)
          · have _q := h212
            exact absurd h212 (by omega)
          · have _q := h212
            refine jx_ld (pc_q := 53) (l_q := L18) (st_q := [.int (i32 (w)), .int (i32 (0)), .int (i32 (1)), .ref 66]) rfl (jl_iloadn gL18_2) ?_
            refine jx_ar (pc_q := 54) (st_q := [.int (i32 (0)), .int (i32 (w)), .int (i32 (0)), .int (i32 (1)), .ref 66]) rfl rfl rfl rfl ?_
            refine jx_ar (pc_q := 55) (st_q := [.int (i32 (5)), .int (i32 (0)), .int (i32 (w)), .int (i32 (0)), .int (i32 (1)), .ref 66]) rfl rfl rfl rfl ?_
            refine jx_st (pc_q := 58) (as := [.int (i32 (w)), .int (i32 (0)), .int (i32 (5))]) (st := [.int (i32 (0)), .int (i32 (1)), .ref 66]) rfl rfl ⟨rfl, Nat.le_of_ble_eq_true rfl⟩ rfl rfl rfl (c_in (dd := d) (hd := by omega) (v := w) (a := 0) (b := 5)   (h_v := ⟨(Int.le_trans (by decide : (-2147483648 : Int) ≤ -2147483648) h_w.1), (Int.le_trans h_w.2 (by decide : (2147483647 : Int) ≤ 2147483647))⟩) (h_a := ⟨(by decide), (by decide)⟩) (h_b := ⟨(by decide), (by decide)⟩)  ) (fun o V_q hq => ?_)
            obtain ⟨r213, rfl, rfl, b214, q215⟩ := hq
            refine .inr ⟨_, rfl, ?_⟩
            rcases q215 with ⟨rfl, a216, a217⟩ | ⟨rfl, a218⟩
            · have _q : True := trivial
              refine jx_if_ne (pc_q := 61) (tg := 65) rfl rfl rfl (by decide) (by decide) (fun h219 => ?_) (fun h219 => ?_)
              · have _q := h219
                refine jx_ar (pc_q := 66) (st_q := [.int (i32 (0)), .int (i32 (0)), .int (i32 (1)), .ref 66]) rfl rfl rfl rfl ?_
                refine jx_vr (pc_q := 69) (as := [.int (i32 (1)), .int (i32 (0)), .int (i32 (0))]) (st := []) rfl rfl rfl rfl ⟨rfl, rfl, Nat.le_of_ble_eq_true rfl⟩ rfl rfl (c_refuse (dd := d) (hd := by omega) (hW := hW) (a := 1) (b := 0) (c := 0)   (h_a := ⟨(by decide), (by decide)⟩) (h_b := ⟨(by decide), (by decide)⟩) (h_c := ⟨(by decide), (by decide)⟩)  ) (fun o V_q hq => ?_)
                obtain ⟨G220, A221, r222, th2_223, rfl, rfl, hW224, hF225, b226, e227, q228⟩ := hq
                have hF229 := Fr_tr hF0 hF225 (Fr_sub (by decide)) (Fr_sub (by decide))
                have bth2_223 : (0 : Int) ≤ th2_223 ∧ th2_223 ≤ 4 := e227 ▸ hW224.1 0
                refine .inr ⟨_, rfl, ?_⟩
                rcases q228 with ⟨rfl, a230, a231⟩ | ⟨rfl, a232, a233, a234⟩ | ⟨rfl, a235, a236, a237, a238⟩ | ⟨rfl, a239, a240, a241, a242⟩
                · have _q : True := trivial
                  refine jx_if_eq (pc_q := 72) (tg := 74) rfl rfl rfl (by decide) (by decide) (fun h243 => ?_) (fun h243 => ?_)
                  · have _q := h243
                    exact absurd h243 (by omega)
                  · have _q := h243
                    refine jx_ar (pc_q := 73) (st_q := [.int (i32 (0))]) rfl rfl rfl rfl ?_
                    refine jx_rt (v := some (.int (i32 (0)))) rfl rfl rfl rfl rfl rfl ?_
                    exact ⟨_, _, _, rfl, rfl, hW224, hF229, by omega, trivial⟩
                · have _q : True := trivial
                  exfalso
                  omega
                · have _q : True := trivial
                  exfalso
                  omega
                · have _q : True := trivial
                  exfalso
                  omega
              · have _q := h219
                exact absurd h219 (by omega)
            · have _q : True := trivial
              refine jx_if_ne (pc_q := 61) (tg := 65) rfl rfl rfl (by decide) (by decide) (fun h244 => ?_) (fun h244 => ?_)
              · have _q := h244
                exact absurd h244 (by omega)
              · have _q := h244
                refine jx_ar (pc_q := 62) (st_q := [.int (i32 (1)), .int (i32 (0)), .int (i32 (1)), .ref 66]) rfl rfl rfl rfl ?_
                refine jx_go (tg := 66) rfl rfl ?_
                refine jx_vr (pc_q := 69) (as := [.int (i32 (1)), .int (i32 (0)), .int (i32 (1))]) (st := []) rfl rfl rfl rfl ⟨rfl, rfl, Nat.le_of_ble_eq_true rfl⟩ rfl rfl (c_refuse (dd := d) (hd := by omega) (hW := hW) (a := 1) (b := 0) (c := 1)   (h_a := ⟨(by decide), (by decide)⟩) (h_b := ⟨(by decide), (by decide)⟩) (h_c := ⟨(by decide), (by decide)⟩)  ) (fun o V_q hq => ?_)
                obtain ⟨G245, A246, r247, th2_248, rfl, rfl, hW249, hF250, b251, e252, q253⟩ := hq
                have hF254 := Fr_tr hF0 hF250 (Fr_sub (by decide)) (Fr_sub (by decide))
                have bth2_248 : (0 : Int) ≤ th2_248 ∧ th2_248 ≤ 4 := e252 ▸ hW249.1 0
                refine .inr ⟨_, rfl, ?_⟩
                rcases q253 with ⟨rfl, a255, a256⟩ | ⟨rfl, a257, a258, a259⟩ | ⟨rfl, a260, a261, a262, a263⟩ | ⟨rfl, a264, a265, a266, a267⟩
                · have _q : True := trivial
                  refine jx_if_eq (pc_q := 72) (tg := 74) rfl rfl rfl (by decide) (by decide) (fun h268 => ?_) (fun h268 => ?_)
                  · have _q := h268
                    exact absurd h268 (by omega)
                  · have _q := h268
                    refine jx_ar (pc_q := 73) (st_q := [.int (i32 (0))]) rfl rfl rfl rfl ?_
                    refine jx_rt (v := some (.int (i32 (0)))) rfl rfl rfl rfl rfl rfl ?_
                    exact ⟨_, _, _, rfl, rfl, hW249, hF254, by omega, trivial⟩
                · have _q : True := trivial
                  exfalso
                  omega
                · have _q : True := trivial
                  exfalso
                  omega
                · have _q : True := trivial
                  exfalso
                  omega
      · have _q := h186
        refine jx_ld (pc_q := 33) (l_q := L18) (st_q := [.int (i32 (1)), .int (i32 (1)), .ref 66]) rfl (jl_iloadn gL18_3) ?_
        refine jx_if_ne (pc_q := 36) (tg := 40) rfl rfl rfl (by decide) (by decide) (fun h269 => ?_) (fun h269 => ?_)
        · have _q := h269
          refine jx_ar (pc_q := 41) (st_q := [.int (i32 (0)), .int (i32 (1)), .ref 66]) rfl rfl rfl rfl ?_
          refine jx_ld (pc_q := 42) (l_q := L18) (st_q := [.ref 66, .int (i32 (0)), .int (i32 (1)), .ref 66]) rfl (jl_aloadn gL18_0) ?_
          refine jr_get (pc_q := 45) (i := 58) (v := .int (i32 (pg))) rfl rfl (by decide) (rFv_eq (by decide) (show G 58 = pg from (e_pg))) rfl ?_
          refine jx_if_eq (pc_q := 48) (tg := 65) rfl rfl rfl (Int.le_trans (by decide : (-2147483648 : Int) ≤ 0) b_pg.1) (Int.le_trans b_pg.2 (by decide : (1 : Int) ≤ 2147483647)) (fun h270 => ?_) (fun h270 => ?_)
          · have _q := h270
            refine jx_ar (pc_q := 66) (st_q := [.int (i32 (0)), .int (i32 (0)), .int (i32 (1)), .ref 66]) rfl rfl rfl rfl ?_
            refine jx_vr (pc_q := 69) (as := [.int (i32 (1)), .int (i32 (0)), .int (i32 (0))]) (st := []) rfl rfl rfl rfl ⟨rfl, rfl, Nat.le_of_ble_eq_true rfl⟩ rfl rfl (c_refuse (dd := d) (hd := by omega) (hW := hW) (a := 1) (b := 0) (c := 0)   (h_a := ⟨(by decide), (by decide)⟩) (h_b := ⟨(by decide), (by decide)⟩) (h_c := ⟨(by decide), (by decide)⟩)  ) (fun o V_q hq => ?_)
            obtain ⟨G271, A272, r273, th2_274, rfl, rfl, hW275, hF276, b277, e278, q279⟩ := hq
            have hF280 := Fr_tr hF0 hF276 (Fr_sub (by decide)) (Fr_sub (by decide))
            have bth2_274 : (0 : Int) ≤ th2_274 ∧ th2_274 ≤ 4 := e278 ▸ hW275.1 0
            refine .inr ⟨_, rfl, ?_⟩
            rcases q279 with ⟨rfl, a281, a282⟩ | ⟨rfl, a283, a284, a285⟩ | ⟨rfl, a286, a287, a288, a289⟩ | ⟨rfl, a290, a291, a292, a293⟩
            · have _q : True := trivial
              refine jx_if_eq (pc_q := 72) (tg := 74) rfl rfl rfl (by decide) (by decide) (fun h294 => ?_) (fun h294 => ?_)
              · have _q := h294
                exact absurd h294 (by omega)
              · have _q := h294
                refine jx_ar (pc_q := 73) (st_q := [.int (i32 (0))]) rfl rfl rfl rfl ?_
                refine jx_rt (v := some (.int (i32 (0)))) rfl rfl rfl rfl rfl rfl ?_
                exact ⟨_, _, _, rfl, rfl, hW275, hF280, by omega, trivial⟩
            · have _q : True := trivial
              exfalso
              omega
            · have _q : True := trivial
              exfalso
              omega
            · have _q : True := trivial
              exfalso
              omega
          · have _q := h270
            refine jx_ld (pc_q := 49) (l_q := L18) (st_q := [.int (i32 (1)), .int (i32 (0)), .int (i32 (1)), .ref 66]) rfl (jl_iloadn gL18_3) ?_
            refine jx_if_eq (pc_q := 52) (tg := 65) rfl rfl rfl (by decide) (by decide) (fun h295 => ?_) (fun h295 => ?_)
            · have _q := h295
              exact absurd h295 (by omega)
            · have _q := h295
              refine jx_ld (pc_q := 53) (l_q := L18) (st_q := [.int (i32 (w)), .int (i32 (0)), .int (i32 (1)), .ref 66]) rfl (jl_iloadn gL18_2) ?_
              refine jx_ar (pc_q := 54) (st_q := [.int (i32 (0)), .int (i32 (w)), .int (i32 (0)), .int (i32 (1)), .ref 66]) rfl rfl rfl rfl ?_
              refine jx_ar (pc_q := 55) (st_q := [.int (i32 (5)), .int (i32 (0)), .int (i32 (w)), .int (i32 (0)), .int (i32 (1)), .ref 66]) rfl rfl rfl rfl ?_
              refine jx_st (pc_q := 58) (as := [.int (i32 (w)), .int (i32 (0)), .int (i32 (5))]) (st := [.int (i32 (0)), .int (i32 (1)), .ref 66]) rfl rfl ⟨rfl, Nat.le_of_ble_eq_true rfl⟩ rfl rfl rfl (c_in (dd := d) (hd := by omega) (v := w) (a := 0) (b := 5)   (h_v := ⟨(Int.le_trans (by decide : (-2147483648 : Int) ≤ -2147483648) h_w.1), (Int.le_trans h_w.2 (by decide : (2147483647 : Int) ≤ 2147483647))⟩) (h_a := ⟨(by decide), (by decide)⟩) (h_b := ⟨(by decide), (by decide)⟩)  ) (fun o V_q hq => ?_)
              obtain ⟨r296, rfl, rfl, b297, q298⟩ := hq
              refine .inr ⟨_, rfl, ?_⟩
              rcases q298 with ⟨rfl, a299, a300⟩ | ⟨rfl, a301⟩
              · have _q : True := trivial
                refine jx_if_ne (pc_q := 61) (tg := 65) rfl rfl rfl (by decide) (by decide) (fun h302 => ?_) (fun h302 => ?_)
                · have _q := h302
                  refine jx_ar (pc_q := 66) (st_q := [.int (i32 (0)), .int (i32 (0)), .int (i32 (1)), .ref 66]) rfl rfl rfl rfl ?_
                  refine jx_vr (pc_q := 69) (as := [.int (i32 (1)), .int (i32 (0)), .int (i32 (0))]) (st := []) rfl rfl rfl rfl ⟨rfl, rfl, Nat.le_of_ble_eq_true rfl⟩ rfl rfl (c_refuse (dd := d) (hd := by omega) (hW := hW) (a := 1) (b := 0) (c := 0)   (h_a := ⟨(by decide), (by decide)⟩) (h_b := ⟨(by decide), (by decide)⟩) (h_c := ⟨(by decide), (by decide)⟩)  ) (fun o V_q hq => ?_)
                  obtain ⟨G303, A304, r305, th2_306, rfl, rfl, hW307, hF308, b309, e310, q311⟩ := hq
                  have hF312 := Fr_tr hF0 hF308 (Fr_sub (by decide)) (Fr_sub (by decide))
                  have bth2_306 : (0 : Int) ≤ th2_306 ∧ th2_306 ≤ 4 := e310 ▸ hW307.1 0
                  refine .inr ⟨_, rfl, ?_⟩
                  rcases q311 with ⟨rfl, a313, a314⟩ | ⟨rfl, a315, a316, a317⟩ | ⟨rfl, a318, a319, a320, a321⟩ | ⟨rfl, a322, a323, a324, a325⟩
                  · have _q : True := trivial
                    refine jx_if_eq (pc_q := 72) (tg := 74) rfl rfl rfl (by decide) (by decide) (fun h326 => ?_) (fun h326 => ?_)
                    · have _q := h326
                      exact absurd h326 (by omega)
                    · have _q := h326
                      refine jx_ar (pc_q := 73) (st_q := [.int (i32 (0))]) rfl rfl rfl rfl ?_
                      refine jx_rt (v := some (.int (i32 (0)))) rfl rfl rfl rfl rfl rfl ?_
                      exact ⟨_, _, _, rfl, rfl, hW307, hF312, by omega, trivial⟩
                  · have _q : True := trivial
                    exfalso
                    omega
                  · have _q : True := trivial
                    exfalso
                    omega
                  · have _q : True := trivial
                    exfalso
                    omega
                · have _q := h302
                  exact absurd h302 (by omega)
              · have _q : True := trivial
                refine jx_if_ne (pc_q := 61) (tg := 65) rfl rfl rfl (by decide) (by decide) (fun h327 => ?_) (fun h327 => ?_)
                · have _q := h327
                  exact absurd h327 (by omega)
                · have _q := h327
                  refine jx_ar (pc_q := 62) (st_q := [.int (i32 (1)), .int (i32 (0)), .int (i32 (1)), .ref 66]) rfl rfl rfl rfl ?_
                  refine jx_go (tg := 66) rfl rfl ?_
                  refine jx_vr (pc_q := 69) (as := [.int (i32 (1)), .int (i32 (0)), .int (i32 (1))]) (st := []) rfl rfl rfl rfl ⟨rfl, rfl, Nat.le_of_ble_eq_true rfl⟩ rfl rfl (c_refuse (dd := d) (hd := by omega) (hW := hW) (a := 1) (b := 0) (c := 1)   (h_a := ⟨(by decide), (by decide)⟩) (h_b := ⟨(by decide), (by decide)⟩) (h_c := ⟨(by decide), (by decide)⟩)  ) (fun o V_q hq => ?_)
                  obtain ⟨G328, A329, r330, th2_331, rfl, rfl, hW332, hF333, b334, e335, q336⟩ := hq
                  have hF337 := Fr_tr hF0 hF333 (Fr_sub (by decide)) (Fr_sub (by decide))
                  have bth2_331 : (0 : Int) ≤ th2_331 ∧ th2_331 ≤ 4 := e335 ▸ hW332.1 0
                  refine .inr ⟨_, rfl, ?_⟩
                  rcases q336 with ⟨rfl, a338, a339⟩ | ⟨rfl, a340, a341, a342⟩ | ⟨rfl, a343, a344, a345, a346⟩ | ⟨rfl, a347, a348, a349, a350⟩
                  · have _q : True := trivial
                    refine jx_if_eq (pc_q := 72) (tg := 74) rfl rfl rfl (by decide) (by decide) (fun h351 => ?_) (fun h351 => ?_)
                    · have _q := h351
                      exact absurd h351 (by omega)
                    · have _q := h351
                      refine jx_ar (pc_q := 73) (st_q := [.int (i32 (0))]) rfl rfl rfl rfl ?_
                      refine jx_rt (v := some (.int (i32 (0)))) rfl rfl rfl rfl rfl rfl ?_
                      exact ⟨_, _, _, rfl, rfl, hW332, hF337, by omega, trivial⟩
                  · have _q : True := trivial
                    exfalso
                    omega
                  · have _q : True := trivial
                    exfalso
                    omega
                  · have _q : True := trivial
                    exfalso
                    omega
        · have _q := h269
          exact absurd h269 (by omega)
  · have _q : True := trivial
    refine jx_ld (pc_q := 12) (l_q := jSto1 [(0, .ref 66), (1, .int (i32 (l))), (2, .int (i32 (w)))] 3 (.int (i32 (0)))) (st_q := []) rfl rfl ?_
    obtain ⟨L352, eL352⟩ : ∃ q, q = jSto1 [(0, .ref 66), (1, .int (i32 (l))), (2, .int (i32 (w)))] 3 (.int (i32 (0))) := ⟨_, rfl⟩
    rw [← eL352]
    have gL352_0 : jGet L352 0 = some (.ref 66) := eL352 ▸ jg_ne (by decide) (rfl : jGet [(0, .ref 66), (1, .int (i32 (l))), (2, .int (i32 (w)))] 0 = some (.ref 66)) rfl
    have gL352_1 : jGet L352 1 = some (.int (i32 (l))) := eL352 ▸ jg_ne (by decide) (rfl : jGet [(0, .ref 66), (1, .int (i32 (l))), (2, .int (i32 (w)))] 1 = some (.int (i32 (l)))) rfl
    have gL352_2 : jGet L352 2 = some (.int (i32 (w))) := eL352 ▸ jg_ne (by decide) (rfl : jGet [(0, .ref 66), (1, .int (i32 (l))), (2, .int (i32 (w)))] 2 = some (.int (i32 (w)))) rfl
    have gL352_3 : jGet L352 3 = some (.int (i32 (0))) := eL352 ▸ jg_eq
    refine jx_ld (pc_q := 13) (l_q := L352) (st_q := [.ref 66]) rfl (jl_aloadn gL352_0) ?_
    refine jx_ld (pc_q := 14) (l_q := L352) (st_q := [.ref 66, .ref 66]) rfl (jl_aloadn gL352_0) ?_
    refine jr_get (pc_q := 17) (i := 58) (v := .int (i32 (pg))) rfl rfl (by decide) (rFv_eq (by decide) (show G 58 = pg from (e_pg))) rfl ?_
    refine jx_if_ne (pc_q := 20) (tg := 24) rfl rfl rfl (Int.le_trans (by decide : (-2147483648 : Int) ≤ 0) b_pg.1) (Int.le_trans b_pg.2 (by decide : (1 : Int) ≤ 2147483647)) (fun h353 => ?_) (fun h353 => ?_)
    · have _q := h353
      refine jx_ar (pc_q := 25) (st_q := [.int (i32 (0)), .ref 66]) rfl rfl rfl rfl ?_
      refine jx_ld (pc_q := 26) (l_q := L352) (st_q := [.ref 66, .int (i32 (0)), .ref 66]) rfl (jl_aloadn gL352_0) ?_
      refine jr_get (pc_q := 29) (i := 58) (v := .int (i32 (pg))) rfl rfl (by decide) (rFv_eq (by decide) (show G 58 = pg from (e_pg))) rfl ?_
      refine jx_if_eq (pc_q := 32) (tg := 40) rfl rfl rfl (Int.le_trans (by decide : (-2147483648 : Int) ≤ 0) b_pg.1) (Int.le_trans b_pg.2 (by decide : (1 : Int) ≤ 2147483647)) (fun h354 => ?_) (fun h354 => ?_)
      · have _q := h354
        refine jx_ar (pc_q := 41) (st_q := [.int (i32 (0)), .int (i32 (0)), .ref 66]) rfl rfl rfl rfl ?_
        refine jx_ld (pc_q := 42) (l_q := L352) (st_q := [.ref 66, .int (i32 (0)), .int (i32 (0)), .ref 66]) rfl (jl_aloadn gL352_0) ?_
        refine jr_get (pc_q := 45) (i := 58) (v := .int (i32 (pg))) rfl rfl (by decide) (rFv_eq (by decide) (show G 58 = pg from (e_pg))) rfl ?_
        refine jx_if_eq (pc_q := 48) (tg := 65) rfl rfl rfl (Int.le_trans (by decide : (-2147483648 : Int) ≤ 0) b_pg.1) (Int.le_trans b_pg.2 (by decide : (1 : Int) ≤ 2147483647)) (fun h355 => ?_) (fun h355 => ?_)
        · have _q := h355
          refine jx_ar (pc_q := 66) (st_q := [.int (i32 (0)), .int (i32 (0)), .int (i32 (0)), .ref 66]) rfl rfl rfl rfl ?_
          refine jx_vr (pc_q := 69) (as := [.int (i32 (0)), .int (i32 (0)), .int (i32 (0))]) (st := []) rfl rfl rfl rfl ⟨rfl, rfl, Nat.le_of_ble_eq_true rfl⟩ rfl rfl (c_refuse (dd := d) (hd := by omega) (hW := hW) (a := 0) (b := 0) (c := 0)   (h_a := ⟨(by decide), (by decide)⟩) (h_b := ⟨(by decide), (by decide)⟩) (h_c := ⟨(by decide), (by decide)⟩)  ) (fun o V_q hq => ?_)
          obtain ⟨G356, A357, r358, th2_359, rfl, rfl, hW360, hF361, b362, e363, q364⟩ := hq
          have hF365 := Fr_tr hF0 hF361 (Fr_sub (by decide)) (Fr_sub (by decide))
          have bth2_359 : (0 : Int) ≤ th2_359 ∧ th2_359 ≤ 4 := e363 ▸ hW360.1 0
          refine .inr ⟨_, rfl, ?_⟩
          rcases q364 with ⟨rfl, a366, a367⟩ | ⟨rfl, a368, a369, a370⟩ | ⟨rfl, a371, a372, a373, a374⟩ | ⟨rfl, a375, a376, a377, a378⟩
          · have _q : True := trivial
            exfalso
            omega
          · have _q : True := trivial
            exfalso
            omega
          · have _q : True := trivial
            exfalso
            omega
          · have _q : True := trivial
            refine jx_if_eq (pc_q := 72) (tg := 74) rfl rfl rfl (by decide) (by decide) (fun h379 => ?_) (fun h379 => ?_)
            · have _q := h379
              exact c_link_at_74 (X := X) (d := d) (c0 := c0) (c1 := c1) (G := G) (A := A) (T := T) (l := l) (w := w) (pg := pg) (lk := lk) (hd := hd) (hW := hW) (e_pg := e_pg) (e_lk := e_lk) (h_l := h_l) (h_w := h_w) L352 G356 A357 gL352_0 gL352_1 gL352_2 hW360 hF365 (by omega) (by omega)
            · have _q := h379
              exact absurd h379 (by omega)
        · have _q := h355
          refine jx_ld (pc_q := 49) (l_q := L352) (st_q := [.int (i32 (0)), .int (i32 (0)), .int (i32 (0)), .ref 66]) rfl (jl_iloadn gL352_3) ?_
          refine jx_if_eq (pc_q := 52) (tg := 65) rfl rfl rfl (by decide) (by decide) (fun h380 => ?_) (fun h380 => ?_)
          · have _q := h380
            refine jx_ar (pc_q := 66) (st_q := [.int (i32 (0)), .int (i32 (0)), .int (i32 (0)), .ref 66]) rfl rfl rfl rfl ?_
            refine jx_vr (pc_q := 69) (as := [.int (i32 (0)), .int (i32 (0)), .int (i32 (0))]) (st := []) rfl rfl rfl rfl ⟨rfl, rfl, Nat.le_of_ble_eq_true rfl⟩ rfl rfl (c_refuse (dd := d) (hd := by omega) (hW := hW) (a := 0) (b := 0) (c := 0)   (h_a := ⟨(by decide), (by decide)⟩) (h_b := ⟨(by decide), (by decide)⟩) (h_c := ⟨(by decide), (by decide)⟩)  ) (fun o V_q hq => ?_)
            obtain ⟨G381, A382, r383, th2_384, rfl, rfl, hW385, hF386, b387, e388, q389⟩ := hq
            have hF390 := Fr_tr hF0 hF386 (Fr_sub (by decide)) (Fr_sub (by decide))
            have bth2_384 : (0 : Int) ≤ th2_384 ∧ th2_384 ≤ 4 := e388 ▸ hW385.1 0
            refine .inr ⟨_, rfl, ?_⟩
            rcases q389 with ⟨rfl, a391, a392⟩ | ⟨rfl, a393, a394, a395⟩ | ⟨rfl, a396, a397, a398, a399⟩ | ⟨rfl, a400, a401, a402, a403⟩
            · have _q : True := trivial
              exfalso
              omega
            · have _q : True := trivial
              exfalso
              omega
            · have _q : True := trivial
              exfalso
              omega
            · have _q : True := trivial
              refine jx_if_eq (pc_q := 72) (tg := 74) rfl rfl rfl (by decide) (by decide) (fun h404 => ?_) (fun h404 => ?_)
              · have _q := h404
                exact c_link_at_74 (X := X) (d := d) (c0 := c0) (c1 := c1) (G := G) (A := A) (T := T) (l := l) (w := w) (pg := pg) (lk := lk) (hd := hd) (hW := hW) (e_pg := e_pg) (e_lk := e_lk) (h_l := h_l) (h_w := h_w) L352 G381 A382 gL352_0 gL352_1 gL352_2 hW385 hF390 (by omega) (by omega)
              · have _q := h404
                exact absurd h404 (by omega)
          · have _q := h380
            exact absurd h380 (by omega)
      · have _q := h354
        refine jx_ld (pc_q := 33) (l_q := L352) (st_q := [.int (i32 (0)), .int (i32 (0)), .ref 66]) rfl (jl_iloadn gL352_3) ?_
        refine jx_if_ne (pc_q := 36) (tg := 40) rfl rfl rfl (by decide) (by decide) (fun h405 => ?_) (fun h405 => ?_)
        · have _q := h405
          exact absurd h405 (by omega)
        · have _q := h405
          refine jx_ar (pc_q := 37) (st_q := [.int (i32 (1)), .int (i32 (0)), .ref 66]) rfl rfl rfl rfl ?_
          refine jx_go (tg := 41) rfl rfl ?_
          refine jx_ld (pc_q := 42) (l_q := L352) (st_q := [.ref 66, .int (i32 (1)), .int (i32 (0)), .ref 66]) rfl (jl_aloadn gL352_0) ?_
          refine jr_get (pc_q := 45) (i := 58) (v := .int (i32 (pg))) rfl rfl (by decide) (rFv_eq (by decide) (show G 58 = pg from (e_pg))) rfl ?_
          refine jx_if_eq (pc_q := 48) (tg := 65) rfl rfl rfl (Int.le_trans (by decide : (-2147483648 : Int) ≤ 0) b_pg.1) (Int.le_trans b_pg.2 (by decide : (1 : Int) ≤ 2147483647)) (fun h406 => ?_) (fun h406 => ?_)
          · have _q := h406
            refine jx_ar (pc_q := 66) (st_q := [.int (i32 (0)), .int (i32 (1)), .int (i32 (0)), .ref 66]) rfl rfl rfl rfl ?_
            refine jx_vr (pc_q := 69) (as := [.int (i32 (0)), .int (i32 (1)), .int (i32 (0))]) (st := []) rfl rfl rfl rfl ⟨rfl, rfl, Nat.le_of_ble_eq_true rfl⟩ rfl rfl (c_refuse (dd := d) (hd := by omega) (hW := hW) (a := 0) (b := 1) (c := 0)   (h_a := ⟨(by decide), (by decide)⟩) (h_b := ⟨(by decide), (by decide)⟩) (h_c := ⟨(by decide), (by decide)⟩)  ) (fun o V_q hq => ?_)
            obtain ⟨G407, A408, r409, th2_410, rfl, rfl, hW411, hF412, b413, e414, q415⟩ := hq
            have hF416 := Fr_tr hF0 hF412 (Fr_sub (by decide)) (Fr_sub (by decide))
            have bth2_410 : (0 : Int) ≤ th2_410 ∧ th2_410 ≤ 4 := e414 ▸ hW411.1 0
            refine .inr ⟨_, rfl, ?_⟩
            rcases q415 with ⟨rfl, a417, a418⟩ | ⟨rfl, a419, a420, a421⟩ | ⟨rfl, a422, a423, a424, a425⟩ | ⟨rfl, a426, a427, a428, a429⟩
            · have _q : True := trivial
              exfalso
              omega
            · have _q : True := trivial
              refine jx_if_eq (pc_q := 72) (tg := 74) rfl rfl rfl (by decide) (by decide) (fun h430 => ?_) (fun h430 => ?_)
              · have _q := h430
                exact absurd h430 (by omega)
              · have _q := h430
                refine jx_ar (pc_q := 73) (st_q := [.int (i32 (0))]) rfl rfl rfl rfl ?_
                refine jx_rt (v := some (.int (i32 (0)))) rfl rfl rfl rfl rfl rfl ?_
                exact ⟨_, _, _, rfl, rfl, hW411, hF416, by omega, trivial⟩
            · have _q : True := trivial
              exfalso
              omega
            · have _q : True := trivial
              exfalso
              omega
          · have _q := h406
            refine jx_ld (pc_q := 49) (l_q := L352) (st_q := [.int (i32 (0)), .int (i32 (1)), .int (i32 (0)), .ref 66]) rfl (jl_iloadn gL352_3) ?_
            refine jx_if_eq (pc_q := 52) (tg := 65) rfl rfl rfl (by decide) (by decide) (fun h431 => ?_) (fun h431 => ?_)
            · have _q := h431
              refine jx_ar (pc_q := 66) (st_q := [.int (i32 (0)), .int (i32 (1)), .int (i32 (0)), .ref 66]) rfl rfl rfl rfl ?_
              refine jx_vr (pc_q := 69) (as := [.int (i32 (0)), .int (i32 (1)), .int (i32 (0))]) (st := []) rfl rfl rfl rfl ⟨rfl, rfl, Nat.le_of_ble_eq_true rfl⟩ rfl rfl (c_refuse (dd := d) (hd := by omega) (hW := hW) (a := 0) (b := 1) (c := 0)   (h_a := ⟨(by decide), (by decide)⟩) (h_b := ⟨(by decide), (by decide)⟩) (h_c := ⟨(by decide), (by decide)⟩)  ) (fun o V_q hq => ?_)
              obtain ⟨G432, A433, r434, th2_435, rfl, rfl, hW436, hF437, b438, e439, q440⟩ := hq
              have hF441 := Fr_tr hF0 hF437 (Fr_sub (by decide)) (Fr_sub (by decide))
              have bth2_435 : (0 : Int) ≤ th2_435 ∧ th2_435 ≤ 4 := e439 ▸ hW436.1 0
              refine .inr ⟨_, rfl, ?_⟩
              rcases q440 with ⟨rfl, a442, a443⟩ | ⟨rfl, a444, a445, a446⟩ | ⟨rfl, a447, a448, a449, a450⟩ | ⟨rfl, a451, a452, a453, a454⟩
              · have _q : True := trivial
                exfalso
                omega
              · have _q : True := trivial
                refine jx_if_eq (pc_q := 72) (tg := 74) rfl rfl rfl (by decide) (by decide) (fun h455 => ?_) (fun h455 => ?_)
                · have _q := h455
                  exact absurd h455 (by omega)
                · have _q := h455
                  refine jx_ar (pc_q := 73) (st_q := [.int (i32 (0))]) rfl rfl rfl rfl ?_
                  refine jx_rt (v := some (.int (i32 (0)))) rfl rfl rfl rfl rfl rfl ?_
                  exact ⟨_, _, _, rfl, rfl, hW436, hF441, by omega, trivial⟩
              · have _q : True := trivial
                exfalso
                omega
              · have _q : True := trivial
                exfalso
                omega
            · have _q := h431
              exact absurd h431 (by omega)
    · have _q := h353
      refine jx_ar (pc_q := 21) (st_q := [.int (i32 (1)), .ref 66]) rfl rfl rfl rfl ?_
      refine jx_go (tg := 25) rfl rfl ?_
      refine jx_ld (pc_q := 26) (l_q := L352) (st_q := [.ref 66, .int (i32 (1)), .ref 66]) rfl (jl_aloadn gL352_0) ?_
      refine jr_get (pc_q := 29) (i := 58) (v := .int (i32 (pg))) rfl rfl (by decide) (rFv_eq (by decide) (show G 58 = pg from (e_pg))) rfl ?_
      refine jx_if_eq (pc_q := 32) (tg := 40) rfl rfl rfl (Int.le_trans (by decide : (-2147483648 : Int) ≤ 0) b_pg.1) (Int.le_trans b_pg.2 (by decide : (1 : Int) ≤ 2147483647)) (fun h456 => ?_) (fun h456 => ?_)
      · have _q := h456
        refine jx_ar (pc_q := 41) (st_q := [.int (i32 (0)), .int (i32 (1)), .ref 66]) rfl rfl rfl rfl ?_
        refine jx_ld (pc_q := 42) (l_q := L352) (st_q := [.ref 66, .int (i32 (0)), .int (i32 (1)), .ref 66]) rfl (jl_aloadn gL352_0) ?_
        refine jr_get (pc_q := 45) (i := 58) (v := .int (i32 (pg))) rfl rfl (by decide) (rFv_eq (by decide) (show G 58 = pg from (e_pg))) rfl ?_
        refine jx_if_eq (pc_q := 48) (tg := 65) rfl rfl rfl (Int.le_trans (by decide : (-2147483648 : Int) ≤ 0) b_pg.1) (Int.le_trans b_pg.2 (by decide : (1 : Int) ≤ 2147483647)) (fun h457 => ?_) (fun h457 => ?_)
        · have _q := h457
          refine jx_ar (pc_q := 66) (st_q := [.int (i32 (0)), .int (i32 (0)), .int (i32 (1)), .ref 66]) rfl rfl rfl rfl ?_
          refine jx_vr (pc_q := 69) (as := [.int (i32 (1)), .int (i32 (0)), .int (i32 (0))]) (st := []) rfl rfl rfl rfl ⟨rfl, rfl, Nat.le_of_ble_eq_true rfl⟩ rfl rfl (c_refuse (dd := d) (hd := by omega) (hW := hW) (a := 1) (b := 0) (c := 0)   (h_a := ⟨(by decide), (by decide)⟩) (h_b := ⟨(by decide), (by decide)⟩) (h_c := ⟨(by decide), (by decide)⟩)  ) (fun o V_q hq => ?_)
          obtain ⟨G458, A459, r460, th2_461, rfl, rfl, hW462, hF463, b464, e465, q466⟩ := hq
          have hF467 := Fr_tr hF0 hF463 (Fr_sub (by decide)) (Fr_sub (by decide))
          have bth2_461 : (0 : Int) ≤ th2_461 ∧ th2_461 ≤ 4 := e465 ▸ hW462.1 0
          refine .inr ⟨_, rfl, ?_⟩
          rcases q466 with ⟨rfl, a468, a469⟩ | ⟨rfl, a470, a471, a472⟩ | ⟨rfl, a473, a474, a475, a476⟩ | ⟨rfl, a477, a478, a479, a480⟩
          · have _q : True := trivial
            refine jx_if_eq (pc_q := 72) (tg := 74) rfl rfl rfl (by decide) (by decide) (fun h481 => ?_) (fun h481 => ?_)
            · have _q := h481
              exact absurd h481 (by omega)
            · have _q := h481
              refine jx_ar (pc_q := 73) (st_q := [.int (i32 (0))]) rfl rfl rfl rfl ?_
              refine jx_rt (v := some (.int (i32 (0)))) rfl rfl rfl rfl rfl rfl ?_
              exact ⟨_, _, _, rfl, rfl, hW462, hF467, by omega, trivial⟩
          · have _q : True := trivial
            exfalso
            omega
          · have _q : True := trivial
            exfalso
            omega
          · have _q : True := trivial
            exfalso
            omega
        · have _q := h457
          refine jx_ld (pc_q := 49) (l_q := L352) (st_q := [.int (i32 (0)), .int (i32 (0)), .int (i32 (1)), .ref 66]) rfl (jl_iloadn gL352_3) ?_
          refine jx_if_eq (pc_q := 52) (tg := 65) rfl rfl rfl (by decide) (by decide) (fun h482 => ?_) (fun h482 => ?_)
          · have _q := h482
            refine jx_ar (pc_q := 66) (st_q := [.int (i32 (0)), .int (i32 (0)), .int (i32 (1)), .ref 66]) rfl rfl rfl rfl ?_
            refine jx_vr (pc_q := 69) (as := [.int (i32 (1)), .int (i32 (0)), .int (i32 (0))]) (st := []) rfl rfl rfl rfl ⟨rfl, rfl, Nat.le_of_ble_eq_true rfl⟩ rfl rfl (c_refuse (dd := d) (hd := by omega) (hW := hW) (a := 1) (b := 0) (c := 0)   (h_a := ⟨(by decide), (by decide)⟩) (h_b := ⟨(by decide), (by decide)⟩) (h_c := ⟨(by decide), (by decide)⟩)  ) (fun o V_q hq => ?_)
            obtain ⟨G483, A484, r485, th2_486, rfl, rfl, hW487, hF488, b489, e490, q491⟩ := hq
            have hF492 := Fr_tr hF0 hF488 (Fr_sub (by decide)) (Fr_sub (by decide))
            have bth2_486 : (0 : Int) ≤ th2_486 ∧ th2_486 ≤ 4 := e490 ▸ hW487.1 0
            refine .inr ⟨_, rfl, ?_⟩
            rcases q491 with ⟨rfl, a493, a494⟩ | ⟨rfl, a495, a496, a497⟩ | ⟨rfl, a498, a499, a500, a501⟩ | ⟨rfl, a502, a503, a504, a505⟩
            · have _q : True := trivial
              refine jx_if_eq (pc_q := 72) (tg := 74) rfl rfl rfl (by decide) (by decide) (fun h506 => ?_) (fun h506 => ?_)
              · have _q := h506
                exact absurd h506 (by omega)
              · have _q := h506
                refine jx_ar (pc_q := 73) (st_q := [.int (i32 (0))]) rfl rfl rfl rfl ?_
                refine jx_rt (v := some (.int (i32 (0)))) rfl rfl rfl rfl rfl rfl ?_
                exact ⟨_, _, _, rfl, rfl, hW487, hF492, by omega, trivial⟩
            · have _q : True := trivial
              exfalso
              omega
            · have _q : True := trivial
              exfalso
              omega
            · have _q : True := trivial
              exfalso
              omega
          · have _q := h482
            exact absurd h482 (by omega)
      · have _q := h456
        refine jx_ld (pc_q := 33) (l_q := L352) (st_q := [.int (i32 (0)), .int (i32 (1)), .ref 66]) rfl (jl_iloadn gL352_3) ?_
        refine jx_if_ne (pc_q := 36) (tg := 40) rfl rfl rfl (by decide) (by decide) (fun h507 => ?_) (fun h507 => ?_)
        · have _q := h507
          exact absurd h507 (by omega)
        · have _q := h507
          refine jx_ar (pc_q := 37) (st_q := [.int (i32 (1)), .int (i32 (1)), .ref 66]) rfl rfl rfl rfl ?_
          refine jx_go (tg := 41) rfl rfl ?_
          refine jx_ld (pc_q := 42) (l_q := L352) (st_q := [.ref 66, .int (i32 (1)), .int (i32 (1)), .ref 66]) rfl (jl_aloadn gL352_0) ?_
          refine jr_get (pc_q := 45) (i := 58) (v := .int (i32 (pg))) rfl rfl (by decide) (rFv_eq (by decide) (show G 58 = pg from (e_pg))) rfl ?_
          refine jx_if_eq (pc_q := 48) (tg := 65) rfl rfl rfl (Int.le_trans (by decide : (-2147483648 : Int) ≤ 0) b_pg.1) (Int.le_trans b_pg.2 (by decide : (1 : Int) ≤ 2147483647)) (fun h508 => ?_) (fun h508 => ?_)
          · have _q := h508
            refine jx_ar (pc_q := 66) (st_q := [.int (i32 (0)), .int (i32 (1)), .int (i32 (1)), .ref 66]) rfl rfl rfl rfl ?_
            refine jx_vr (pc_q := 69) (as := [.int (i32 (1)), .int (i32 (1)), .int (i32 (0))]) (st := []) rfl rfl rfl rfl ⟨rfl, rfl, Nat.le_of_ble_eq_true rfl⟩ rfl rfl (c_refuse (dd := d) (hd := by omega) (hW := hW) (a := 1) (b := 1) (c := 0)   (h_a := ⟨(by decide), (by decide)⟩) (h_b := ⟨(by decide), (by decide)⟩) (h_c := ⟨(by decide), (by decide)⟩)  ) (fun o V_q hq => ?_)
            obtain ⟨G509, A510, r511, th2_512, rfl, rfl, hW513, hF514, b515, e516, q517⟩ := hq
            have hF518 := Fr_tr hF0 hF514 (Fr_sub (by decide)) (Fr_sub (by decide))
            have bth2_512 : (0 : Int) ≤ th2_512 ∧ th2_512 ≤ 4 := e516 ▸ hW513.1 0
            refine .inr ⟨_, rfl, ?_⟩
            rcases q517 with ⟨rfl, a519, a520⟩ | ⟨rfl, a521, a522, a523⟩ | ⟨rfl, a524, a525, a526, a527⟩ | ⟨rfl, a528, a529, a530, a531⟩
            · have _q : True := trivial
              refine jx_if_eq (pc_q := 72) (tg := 74) rfl rfl rfl (by decide) (by decide) (fun h532 => ?_) (fun h532 => ?_)
              · have _q := h532
                exact absurd h532 (by omega)
              · have _q := h532
                refine jx_ar (pc_q := 73) (st_q := [.int (i32 (0))]) rfl rfl rfl rfl ?_
                refine jx_rt (v := some (.int (i32 (0)))) rfl rfl rfl rfl rfl rfl ?_
                exact ⟨_, _, _, rfl, rfl, hW513, hF518, by omega, trivial⟩
            · have _q : True := trivial
              exfalso
              omega
            · have _q : True := trivial
              exfalso
              omega
            · have _q : True := trivial
              exfalso
              omega
          · have _q := h508
            refine jx_ld (pc_q := 49) (l_q := L352) (st_q := [.int (i32 (0)), .int (i32 (1)), .int (i32 (1)), .ref 66]) rfl (jl_iloadn gL352_3) ?_
            refine jx_if_eq (pc_q := 52) (tg := 65) rfl rfl rfl (by decide) (by decide) (fun h533 => ?_) (fun h533 => ?_)
            · have _q := h533
              refine jx_ar (pc_q := 66) (st_q := [.int (i32 (0)), .int (i32 (1)), .int (i32 (1)), .ref 66]) rfl rfl rfl rfl ?_
              refine jx_vr (pc_q := 69) (as := [.int (i32 (1)), .int (i32 (1)), .int (i32 (0))]) (st := []) rfl rfl rfl rfl ⟨rfl, rfl, Nat.le_of_ble_eq_true rfl⟩ rfl rfl (c_refuse (dd := d) (hd := by omega) (hW := hW) (a := 1) (b := 1) (c := 0)   (h_a := ⟨(by decide), (by decide)⟩) (h_b := ⟨(by decide), (by decide)⟩) (h_c := ⟨(by decide), (by decide)⟩)  ) (fun o V_q hq => ?_)
              obtain ⟨G534, A535, r536, th2_537, rfl, rfl, hW538, hF539, b540, e541, q542⟩ := hq
              have hF543 := Fr_tr hF0 hF539 (Fr_sub (by decide)) (Fr_sub (by decide))
              have bth2_537 : (0 : Int) ≤ th2_537 ∧ th2_537 ≤ 4 := e541 ▸ hW538.1 0
              refine .inr ⟨_, rfl, ?_⟩
              rcases q542 with ⟨rfl, a544, a545⟩ | ⟨rfl, a546, a547, a548⟩ | ⟨rfl, a549, a550, a551, a552⟩ | ⟨rfl, a553, a554, a555, a556⟩
              · have _q : True := trivial
                refine jx_if_eq (pc_q := 72) (tg := 74) rfl rfl rfl (by decide) (by decide) (fun h557 => ?_) (fun h557 => ?_)
                · have _q := h557
                  exact absurd h557 (by omega)
                · have _q := h557
                  refine jx_ar (pc_q := 73) (st_q := [.int (i32 (0))]) rfl rfl rfl rfl ?_
                  refine jx_rt (v := some (.int (i32 (0)))) rfl rfl rfl rfl rfl rfl ?_
                  exact ⟨_, _, _, rfl, rfl, hW538, hF543, by omega, trivial⟩
              · have _q : True := trivial
                exfalso
                omega
              · have _q : True := trivial
                exfalso
                omega
              · have _q : True := trivial
                exfalso
                omega
            · have _q := h533
              exact absurd h533 (by omega)
set_option maxRecDepth 20000 in
set_option maxHeartbeats 4000000 in
theorem c_core_at_71 {X : jX} {d : Nat} {c0 c1 : jC} {G : Nat → Int} {A : Nat → Nat → Int} {T : jH} {p w : Int} {pg bp : Int} (hd : 3 ≤ d + 1) (hW : Wk G A) (e_pg : G 58 = pg) (e_bp : A 36 (p).toNat = bp) (h_p : (-2147483648 : Int) ≤ p ∧ p ≤ 2147483647) (h_w : (-2147483648 : Int) ≤ w ∧ w ≤ 2147483647) : ∀ (L : jL) (Gx : Nat → Int) (Ax : Nat → Nat → Int), jGet L 0 = some (.ref 66) → jGet L 1 = some (.int (i32 (p))) → jGet L 2 = some (.int (i32 (w))) → Wk Gx Ax → Fr [0] [] G A Gx Ax → (0 ≤ p) → (p ≤ 5) → wj X d jm408 (71, L, [], rV c0 c1 Gx Ax T) (fun o V_q => ∃ (G_q : Nat → Int) (A_q : Nat → Nat → Int) (r : Int), V_q = rV c0 c1 G_q A_q T ∧ o = .inl (some (.int (i32 r))) ∧ Wk G_q A_q ∧ Fr [0] [] G A G_q A_q ∧ ((-2147483648 : Int) ≤ r ∧ r ≤ 2147483647) ∧ True) := by
  have hF0 : Fr [0] [] G A G A := Fr_rf
  have b_pg : (0 : Int) ≤ pg ∧ pg ≤ 1 := e_pg ▸ hW.1 58
  have b_bp : (-2147483648 : Int) ≤ bp ∧ bp ≤ 2147483647 := e_bp ▸ hW.2 36 _
  intro L Gx Ax gL_0 gL_1 gL_2 hWx hFx iv_0 iv_1
  refine jx_ld (pc_q := 72) (l_q := L) (st_q := [.ref 66]) rfl (jl_aloadn gL_0) ?_
  refine jr_get (pc_q := 75) (i := 97) (v := .ref 133) rfl rfl (by decide) rfl rfl ?_
  refine jx_ld (pc_q := 76) (l_q := L) (st_q := [.int (i32 (p)), .ref 133]) rfl (jl_iloadn gL_1) ?_
  have b1 : (-2147483648 : Int) ≤ A 66 (p).toNat ∧ A 66 (p).toNat ≤ 2147483647 := hW.2 66 _
  refine jr_ldv (pc_q := 77) (i := 66) (m := 6) (z := p) (y := A 66 (p).toNat) rfl (by decide) rfl (by decide) (by omega) (by omega) rfl (show Ax 66 (p).toNat = A 66 (p).toNat from (congrFun (hFx.2 66 rfl) _)) ?_
  refine jx_ar (pc_q := 78) (st_q := [.int (i32 (-1)), .int (i32 (A 66 (p).toNat))]) rfl rfl rfl rfl ?_
  refine jx_icmp_eq (pc_q := 81) (tg := 85) rfl rfl rfl (Int.le_trans (by decide : (-2147483648 : Int) ≤ -2147483648) b1.1) (Int.le_trans b1.2 (by decide : (2147483647 : Int) ≤ 2147483647)) (by decide) (by decide) (fun h2 => ?_) (fun h2 => ?_)
  · have _q := h2
    refine jx_ar (pc_q := 86) (st_q := [.int (i32 (0))]) rfl rfl rfl rfl ?_
    refine jx_ld (pc_q := 87) (l_q := jSto1 L 3 (.int (i32 (0)))) (st_q := []) rfl rfl ?_
    obtain ⟨L3, eL3⟩ : ∃ q, q = jSto1 L 3 (.int (i32 (0))) := ⟨_, rfl⟩
    rw [← eL3]
    have gL3_0 : jGet L3 0 = some (.ref 66) := eL3 ▸ jg_ne (by decide) gL_0 rfl
    have gL3_1 : jGet L3 1 = some (.int (i32 (p))) := eL3 ▸ jg_ne (by decide) gL_1 rfl
    have gL3_2 : jGet L3 2 = some (.int (i32 (w))) := eL3 ▸ jg_ne (by decide) gL_2 rfl
    have gL3_3 : jGet L3 3 = some (.int (i32 (0))) := eL3 ▸ jg_eq
    refine jx_ld (pc_q := 88) (l_q := L3) (st_q := [.int (i32 (w))]) rfl (jl_iloadn gL3_2) ?_
    rcases (by omega : w = 0 ∨ w = 1 ∨ w = 2 ∨ w = 3 ∨ w = 4 ∨ w = 5 ∨ w = 6 ∨ w = 7 ∨ w = 8 ∨ w = 9 ∨ w = 10 ∨ w = 11 ∨ (w < 0 ∨ 11 < w)) with h4 | h4 | h4 | h4 | h4 | h4 | h4 | h4 | h4 | h4 | h4 | h4 | h4
    · refine jx_swe (z := 0) (tg := 152) h4 rfl rfl rfl rfl ?_
      refine jx_ld (pc_q := 153) (l_q := L3) (st_q := [.int (i32 (0))]) rfl (jl_iloadn gL3_3) ?_
      refine jx_if_eq (pc_q := 156) (tg := 165) rfl rfl rfl (by decide) (by decide) (fun h5 => ?_) (fun h5 => ?_)
      · have _q := h5
        refine jx_ar (pc_q := 166) (st_q := [.int (i32 (0))]) rfl rfl rfl rfl ?_
        refine jx_rt (v := some (.int (i32 (0)))) rfl rfl rfl rfl rfl rfl ?_
        exact ⟨_, _, _, rfl, rfl, hWx, hFx, by omega, trivial⟩
      · have _q := h5
        exact absurd h5 (by omega)
    · refine jx_swe (z := 1) (tg := 167) h4 rfl rfl rfl rfl ?_
      refine jx_ld (pc_q := 168) (l_q := L3) (st_q := [.int (i32 (0))]) rfl (jl_iloadn gL3_3) ?_
      refine jx_if_eq (pc_q := 171) (tg := 180) rfl rfl rfl (by decide) (by decide) (fun h6 => ?_) (fun h6 => ?_)
      · have _q := h6
        refine jx_ar (pc_q := 181) (st_q := [.int (i32 (0))]) rfl rfl rfl rfl ?_
        refine jx_rt (v := some (.int (i32 (0)))) rfl rfl rfl rfl rfl rfl ?_
        exact ⟨_, _, _, rfl, rfl, hWx, hFx, by omega, trivial⟩
      · have _q := h6
        exact absurd h6 (by omega)
    · refine jx_swe (z := 2) (tg := 182) h4 rfl rfl rfl rfl ?_
      refine jx_ld (pc_q := 183) (l_q := L3) (st_q := [.int (i32 (0))]) rfl (jl_iloadn gL3_3) ?_
      refine jx_if_eq (pc_q := 186) (tg := 195) rfl rfl rfl (by decide) (by decide) (fun h7 => ?_) (fun h7 => ?_)
      · have _q := h7
        refine jx_ar (pc_q := 196) (st_q := [.int (i32 (0))]) rfl rfl rfl rfl ?_
        refine jx_rt (v := some (.int (i32 (0)))) rfl rfl rfl rfl rfl rfl ?_
        exact ⟨_, _, _, rfl, rfl, hWx, hFx, by omega, trivial⟩
      · have _q := h7
        exact absurd h7 (by omega)
    · refine jx_swe (z := 3) (tg := 197) h4 rfl rfl rfl rfl ?_
      refine jx_ld (pc_q := 198) (l_q := L3) (st_q := [.int (i32 (0))]) rfl (jl_iloadn gL3_3) ?_
      refine jx_if_eq (pc_q := 201) (tg := 210) rfl rfl rfl (by decide) (by decide) (fun h8 => ?_) (fun h8 => ?_)
      · have _q := h8
        refine jx_ar (pc_q := 211) (st_q := [.int (i32 (0))]) rfl rfl rfl rfl ?_
        refine jx_rt (v := some (.int (i32 (0)))) rfl rfl rfl rfl rfl rfl ?_
        exact ⟨_, _, _, rfl, rfl, hWx, hFx, by omega, trivial⟩
      · have _q := h8
        exact absurd h8 (by omega)
    · refine jx_swe (z := 4) (tg := 212) h4 rfl rfl rfl rfl ?_
      refine jx_ld (pc_q := 213) (l_q := L3) (st_q := [.int (i32 (0))]) rfl (jl_iloadn gL3_3) ?_
      refine jx_if_eq (pc_q := 216) (tg := 225) rfl rfl rfl (by decide) (by decide) (fun h9 => ?_) (fun h9 => ?_)
      · have _q := h9
        refine jx_ar (pc_q := 226) (st_q := [.int (i32 (0))]) rfl rfl rfl rfl ?_
        refine jx_rt (v := some (.int (i32 (0)))) rfl rfl rfl rfl rfl rfl ?_
        exact ⟨_, _, _, rfl, rfl, hWx, hFx, by omega, trivial⟩
      · have _q := h9
        exact absurd h9 (by omega)
    · refine jx_swe (z := 5) (tg := 227) h4 rfl rfl rfl rfl ?_
      refine jx_ld (pc_q := 228) (l_q := L3) (st_q := [.int (i32 (0))]) rfl (jl_iloadn gL3_3) ?_
      refine jx_if_eq (pc_q := 231) (tg := 240) rfl rfl rfl (by decide) (by decide) (fun h10 => ?_) (fun h10 => ?_)
      · have _q := h10
        refine jx_ar (pc_q := 241) (st_q := [.int (i32 (0))]) rfl rfl rfl rfl ?_
        refine jx_rt (v := some (.int (i32 (0)))) rfl rfl rfl rfl rfl rfl ?_
        exact ⟨_, _, _, rfl, rfl, hWx, hFx, by omega, trivial⟩
      · have _q := h10
        exact absurd h10 (by omega)
    · refine jx_swe (z := 6) (tg := 242) h4 rfl rfl rfl rfl ?_
      refine jx_ld (pc_q := 243) (l_q := L3) (st_q := [.ref 66]) rfl (jl_aloadn gL3_0) ?_
      refine jr_get (pc_q := 246) (i := 97) (v := .ref 133) rfl rfl (by decide) rfl rfl ?_
      refine jx_ld (pc_q := 247) (l_q := L3) (st_q := [.int (i32 (p)), .ref 133]) rfl (jl_iloadn gL3_1) ?_
      refine jr_ldv (pc_q := 248) (i := 66) (m := 6) (z := p) (y := A 66 (p).toNat) rfl (by decide) rfl (by decide) (by omega) (by omega) rfl (show Ax 66 (p).toNat = A 66 (p).toNat from (congrFun (hFx.2 66 rfl) _)) ?_
      refine jx_rt (v := some (.int (i32 (A 66 (p).toNat)))) rfl rfl rfl rfl rfl rfl ?_
      exact ⟨_, _, _, rfl, rfl, hWx, hFx, by omega, trivial⟩
    · refine jx_swe (z := 7) (tg := 249) h4 rfl rfl rfl rfl ?_
      refine jx_ld (pc_q := 250) (l_q := L3) (st_q := [.ref 66]) rfl (jl_aloadn gL3_0) ?_
      refine jr_get (pc_q := 253) (i := 98) (v := .ref 134) rfl rfl (by decide) rfl rfl ?_
      refine jx_ld (pc_q := 254) (l_q := L3) (st_q := [.int (i32 (p)), .ref 134]) rfl (jl_iloadn gL3_1) ?_
      have b11 : (0 : Int) ≤ A 67 (p).toNat ∧ A 67 (p).toNat ≤ 1 := hW.2 67 _
      refine jr_lbv (pc_q := 255) (i := 67) (m := 6) (z := p) (y := A 67 (p).toNat) rfl (by decide) rfl (by decide) (by omega) (by omega) rfl (show Ax 67 (p).toNat = A 67 (p).toNat from (congrFun (hFx.2 67 rfl) _)) ?_
      refine jx_if_eq (pc_q := 258) (tg := 262) rfl rfl rfl (Int.le_trans (by decide : (-2147483648 : Int) ≤ 0) b11.1) (Int.le_trans b11.2 (by decide : (1 : Int) ≤ 2147483647)) (fun h12 => ?_) (fun h12 => ?_)
      · have _q := h12
        refine jx_ar (pc_q := 263) (st_q := [.int (i32 (0))]) rfl rfl rfl rfl ?_
        refine jx_rt (v := some (.int (i32 (0)))) rfl rfl rfl rfl rfl rfl ?_
        exact ⟨_, _, _, rfl, rfl, hWx, hFx, by omega, trivial⟩
      · have _q := h12
        refine jx_ar (pc_q := 259) (st_q := [.int (i32 (1))]) rfl rfl rfl rfl ?_
        refine jx_go (tg := 263) rfl rfl ?_
        refine jx_rt (v := some (.int (i32 (1)))) rfl rfl rfl rfl rfl rfl ?_
        exact ⟨_, _, _, rfl, rfl, hWx, hFx, by omega, trivial⟩
    · refine jx_swe (z := 8) (tg := 264) h4 rfl rfl rfl rfl ?_
      refine jx_ld (pc_q := 265) (l_q := L3) (st_q := [.ref 66]) rfl (jl_aloadn gL3_0) ?_
      refine jr_get (pc_q := 268) (i := 99) (v := .ref 135) rfl rfl (by decide) rfl rfl ?_
      refine jx_ld (pc_q := 269) (l_q := L3) (st_q := [.int (i32 (p)), .ref 135]) rfl (jl_iloadn gL3_1) ?_
      have b13 : (0 : Int) ≤ A 68 (p).toNat ∧ A 68 (p).toNat ≤ 1 := hW.2 68 _
      refine jr_lbv (pc_q := 270) (i := 68) (m := 6) (z := p) (y := A 68 (p).toNat) rfl (by decide) rfl (by decide) (by omega) (by omega) rfl (show Ax 68 (p).toNat = A 68 (p).toNat from (congrFun (hFx.2 68 rfl) _)) ?_
      refine jx_if_eq (pc_q := 273) (tg := 277) rfl rfl rfl (Int.le_trans (by decide : (-2147483648 : Int) ≤ 0) b13.1) (Int.le_trans b13.2 (by decide : (1 : Int) ≤ 2147483647)) (fun h14 => ?_) (fun h14 => ?_)
      · have _q := h14
        refine jx_ar (pc_q := 278) (st_q := [.int (i32 (0))]) rfl rfl rfl rfl ?_
        refine jx_rt (v := some (.int (i32 (0)))) rfl rfl rfl rfl rfl rfl ?_
        exact ⟨_, _, _, rfl, rfl, hWx, hFx, by omega, trivial⟩
      · have _q := h14
        refine jx_ar (pc_q := 274) (st_q := [.int (i32 (1))]) rfl rfl rfl rfl ?_
        refine jx_go (tg := 278) rfl rfl ?_
        refine jx_rt (v := some (.int (i32 (1)))) rfl rfl rfl rfl rfl rfl ?_
        exact ⟨_, _, _, rfl, rfl, hWx, hFx, by omega, trivial⟩
    · refine jx_swe (z := 9) (tg := 279) h4 rfl rfl rfl rfl ?_
      refine jx_ld (pc_q := 280) (l_q := L3) (st_q := [.ref 66]) rfl (jl_aloadn gL3_0) ?_
      refine jr_get (pc_q := 283) (i := 103) (v := .ref 139) rfl rfl (by decide) rfl rfl ?_
      refine jx_ar (pc_q := 284) (st_q := [.int (i32 (2)), .ref 139]) rfl rfl rfl rfl ?_
      refine jx_ld (pc_q := 285) (l_q := L3) (st_q := [.int (i32 (p)), .int (i32 (2)), .ref 139]) rfl (jl_iloadn gL3_1) ?_
      refine jx_mul (pc_q := 286) rfl rfl ?_
      have b15 : (-2147483648 : Int) ≤ A 72 ((2 * p)).toNat ∧ A 72 ((2 * p)).toNat ≤ 2147483647 := hW.2 72 _
      refine jr_ldv (pc_q := 287) (i := 72) (m := 12) (z := (2 * p)) (y := A 72 ((2 * p)).toNat) rfl (by decide) rfl (by decide) (by omega) (by omega) rfl (show Ax 72 ((2 * p)).toNat = A 72 ((2 * p)).toNat from (congrFun (hFx.2 72 rfl) _)) ?_
      refine jx_rt (v := some (.int (i32 (A 72 ((2 * p)).toNat)))) rfl rfl rfl rfl rfl rfl ?_
      exact ⟨_, _, _, rfl, rfl, hWx, hFx, by omega, trivial⟩
    · refine jx_swe (z := 10) (tg := 288) h4 rfl rfl rfl rfl ?_
      refine jx_ld (pc_q := 289) (l_q := L3) (st_q := [.ref 66]) rfl (jl_aloadn gL3_0) ?_
      refine jr_get (pc_q := 292) (i := 103) (v := .ref 139) rfl rfl (by decide) rfl rfl ?_
      refine jx_ar (pc_q := 293) (st_q := [.int (i32 (2)), .ref 139]) rfl rfl rfl rfl ?_
      refine jx_ld (pc_q := 294) (l_q := L3) (st_q := [.int (i32 (p)), .int (i32 (2)), .ref 139]) rfl (jl_iloadn gL3_1) ?_
      refine jx_mul (pc_q := 295) rfl rfl ?_
      refine jx_ar (pc_q := 296) (st_q := [.int (i32 (1)), .int (i32 ((2 * p))), .ref 139]) rfl rfl rfl rfl ?_
      refine jx_add (pc_q := 297) rfl rfl ?_
      have b16 : (-2147483648 : Int) ≤ A 72 (((2 * p) + 1)).toNat ∧ A 72 (((2 * p) + 1)).toNat ≤ 2147483647 := hW.2 72 _
      refine jr_ldv (pc_q := 298) (i := 72) (m := 12) (z := ((2 * p) + 1)) (y := A 72 (((2 * p) + 1)).toNat) rfl (by decide) rfl (by decide) (by omega) (by omega) rfl (show Ax 72 (((2 * p) + 1)).toNat = A 72 (((2 * p) + 1)).toNat from (congrFun (hFx.2 72 rfl) _)) ?_
      refine jx_rt (v := some (.int (i32 (A 72 (((2 * p) + 1)).toNat)))) rfl rfl rfl rfl rfl rfl ?_
      exact ⟨_, _, _, rfl, rfl, hWx, hFx, by omega, trivial⟩
    · refine jx_swe (z := 11) (tg := 299) h4 rfl rfl rfl rfl ?_
      refine jx_ld (pc_q := 300) (l_q := L3) (st_q := [.ref 66]) rfl (jl_aloadn gL3_0) ?_
      refine jr_get (pc_q := 303) (i := 100) (v := .ref 136) rfl rfl (by decide) rfl rfl ?_
      refine jx_ld (pc_q := 304) (l_q := L3) (st_q := [.int (i32 (p)), .ref 136]) rfl (jl_iloadn gL3_1) ?_
      have b17 : (-2147483648 : Int) ≤ A 69 (p).toNat ∧ A 69 (p).toNat ≤ 2147483647 := hW.2 69 _
      refine jr_ldv (pc_q := 305) (i := 69) (m := 6) (z := p) (y := A 69 (p).toNat) rfl (by decide) rfl (by decide) (by omega) (by omega) rfl (show Ax 69 (p).toNat = A 69 (p).toNat from (congrFun (hFx.2 69 rfl) _)) ?_
      refine jx_rt (v := some (.int (i32 (A 69 (p).toNat)))) rfl rfl rfl rfl rfl rfl ?_
      exact ⟨_, _, _, rfl, rfl, hWx, hFx, by omega, trivial⟩
    · refine jx_swt (tg := 306) (by omega) (by omega) rfl h4 rfl ?_
      refine jx_ld (pc_q := 307) (l_q := L3) (st_q := [.int (i32 (0))]) rfl (jl_iloadn gL3_3) ?_
      refine jx_if_eq (pc_q := 310) (tg := 319) rfl rfl rfl (by decide) (by decide) (fun h18 => ?_) (fun h18 => ?_)
      · have _q := h18
        refine jx_ar (pc_q := 320) (st_q := [.int (i32 (0))]) rfl rfl rfl rfl ?_
        refine jx_rt (v := some (.int (i32 (0)))) rfl rfl rfl rfl rfl rfl ?_
        exact ⟨_, _, _, rfl, rfl, hWx, hFx, by omega, trivial⟩
      · have _q := h18
        exact absurd h18 (by omega)
  · have _q := h2
    refine jx_ar (pc_q := 82) (st_q := [.int (i32 (1))]) rfl rfl rfl rfl ?_
    refine jx_go (tg := 86) rfl rfl ?_
    refine jx_ld (pc_q := 87) (l_q := jSto1 L 3 (.int (i32 (1)))) (st_q := []) rfl rfl ?_
    obtain ⟨L19, eL19⟩ : ∃ q, q = jSto1 L 3 (.int (i32 (1))) := ⟨_, rfl⟩
    rw [← eL19]
    have gL19_0 : jGet L19 0 = some (.ref 66) := eL19 ▸ jg_ne (by decide) gL_0 rfl
    have gL19_1 : jGet L19 1 = some (.int (i32 (p))) := eL19 ▸ jg_ne (by decide) gL_1 rfl
    have gL19_2 : jGet L19 2 = some (.int (i32 (w))) := eL19 ▸ jg_ne (by decide) gL_2 rfl
    have gL19_3 : jGet L19 3 = some (.int (i32 (1))) := eL19 ▸ jg_eq
    refine jx_ld (pc_q := 88) (l_q := L19) (st_q := [.int (i32 (w))]) rfl (jl_iloadn gL19_2) ?_
    rcases (by omega : w = 0 ∨ w = 1 ∨ w = 2 ∨ w = 3 ∨ w = 4 ∨ w = 5 ∨ w = 6 ∨ w = 7 ∨ w = 8 ∨ w = 9 ∨ w = 10 ∨ w = 11 ∨ (w < 0 ∨ 11 < w)) with h20 | h20 | h20 | h20 | h20 | h20 | h20 | h20 | h20 | h20 | h20 | h20 | h20
    · refine jx_swe (z := 0) (tg := 152) h20 rfl rfl rfl rfl ?_
      refine jx_ld (pc_q := 153) (l_q := L19) (st_q := [.int (i32 (1))]) rfl (jl_iloadn gL19_3) ?_
      refine jx_if_eq (pc_q := 156) (tg := 165) rfl rfl rfl (by decide) (by decide) (fun h21 => ?_) (fun h21 => ?_)
      · have _q := h21
        exact absurd h21 (by omega)
      · have _q := h21
        refine jx_ld (pc_q := 157) (l_q := L19) (st_q := [.ref 66]) rfl (jl_aloadn gL19_0) ?_
        refine jr_get (pc_q := 160) (i := 91) (v := .ref 127) rfl rfl (by decide) rfl rfl ?_
        refine jx_ld (pc_q := 161) (l_q := L19) (st_q := [.int (i32 (p)), .ref 127]) rfl (jl_iloadn gL19_1) ?_
        have b22 : (-2147483648 : Int) ≤ A 60 (p).toNat ∧ A 60 (p).toNat ≤ 2147483647 := hW.2 60 _
        refine jr_ldv (pc_q := 162) (i := 60) (m := 6) (z := p) (y := A 60 (p).toNat) rfl (by decide) rfl (by decide) (by omega) (by omega) rfl (show Ax 60 (p).toNat = A 60 (p).toNat from (congrFun (hFx.2 60 rfl) _)) ?_
        refine jx_go (tg := 166) rfl rfl ?_
        refine jx_rt (v := some (.int (i32 (A 60 (p).toNat)))) rfl rfl rfl rfl rfl rfl ?_
        exact ⟨_, _, _, rfl, rfl, hWx, hFx, by omega, trivial⟩
    · refine jx_swe (z := 1) (tg := 167) h20 rfl rfl rfl rfl ?_
      refine jx_ld (pc_q := 168) (l_q := L19) (st_q := [.int (i32 (1))]) rfl (jl_iloadn gL19_3) ?_
      refine jx_if_eq (pc_q := 171) (tg := 180) rfl rfl rfl (by decide) (by decide) (fun h23 => ?_) (fun h23 => ?_)
      · have _q := h23
        exact absurd h23 (by omega)
      · have _q := h23
        refine jx_ld (pc_q := 172) (l_q := L19) (st_q := [.ref 66]) rfl (jl_aloadn gL19_0) ?_
        refine jr_get (pc_q := 175) (i := 92) (v := .ref 128) rfl rfl (by decide) rfl rfl ?_
        refine jx_ld (pc_q := 176) (l_q := L19) (st_q := [.int (i32 (p)), .ref 128]) rfl (jl_iloadn gL19_1) ?_
        have b24 : (-2147483648 : Int) ≤ A 61 (p).toNat ∧ A 61 (p).toNat ≤ 2147483647 := hW.2 61 _
        refine jr_ldv (pc_q := 177) (i := 61) (m := 6) (z := p) (y := A 61 (p).toNat) rfl (by decide) rfl (by decide) (by omega) (by omega) rfl (show Ax 61 (p).toNat = A 61 (p).toNat from (congrFun (hFx.2 61 rfl) _)) ?_
        refine jx_go (tg := 181) rfl rfl ?_
        refine jx_rt (v := some (.int (i32 (A 61 (p).toNat)))) rfl rfl rfl rfl rfl rfl ?_
        exact ⟨_, _, _, rfl, rfl, hWx, hFx, by omega, trivial⟩
    · refine jx_swe (z := 2) (tg := 182) h20 rfl rfl rfl rfl ?_
      refine jx_ld (pc_q := 183) (l_q := L19) (st_q := [.int (i32 (1))]) rfl (jl_iloadn gL19_3) ?_
      refine jx_if_eq (pc_q := 186) (tg := 195) rfl rfl rfl (by decide) (by decide) (fun h25 => ?_) (fun h25 => ?_)
      · have _q := h25
        exact absurd h25 (by omega)
      · have _q := h25
        refine jx_ld (pc_q := 187) (l_q := L19) (st_q := [.ref 66]) rfl (jl_aloadn gL19_0) ?_
        refine jr_get (pc_q := 190) (i := 93) (v := .ref 129) rfl rfl (by decide) rfl rfl ?_
        refine jx_ld (pc_q := 191) (l_q := L19) (st_q := [.int (i32 (p)), .ref 129]) rfl (jl_iloadn gL19_1) ?_
        have b26 : (-2147483648 : Int) ≤ A 62 (p).toNat ∧ A 62 (p).toNat ≤ 2147483647 := hW.2 62 _
        refine jr_ldv (pc_q := 192) (i := 62) (m := 6) (z := p) (y := A 62 (p).toNat) rfl (by decide) rfl (by decide) (by omega) (by omega) rfl (show Ax 62 (p).toNat = A 62 (p).toNat from (congrFun (hFx.2 62 rfl) _)) ?_
        refine jx_go (tg := 196) rfl rfl ?_
        refine jx_rt (v := some (.int (i32 (A 62 (p).toNat)))) rfl rfl rfl rfl rfl rfl ?_
        exact ⟨_, _, _, rfl, rfl, hWx, hFx, by omega, trivial⟩
    · refine jx_swe (z := 3) (tg := 197) h20 rfl rfl rfl rfl ?_
      refine jx_ld (pc_q := 198) (l_q := L19) (st_q := [.int (i32 (1))]) rfl (jl_iloadn gL19_3) ?_
      refine jx_if_eq (pc_q := 201) (tg := 210) rfl rfl rfl (by decide) (by decide) (fun h27 => ?_) (fun h27 => ?_)
      · have _q := h27
        exact absurd h27 (by omega)
      · have _q := h27
        refine jx_ld (pc_q := 202) (l_q := L19) (st_q := [.ref 66]) rfl (jl_aloadn gL19_0) ?_
        refine jr_get (pc_q := 205) (i := 94) (v := .ref 130) rfl rfl (by decide) rfl rfl ?_
        refine jx_ld (pc_q := 206) (l_q := L19) (st_q := [.int (i32 (p)), .ref 130]) rfl (jl_iloadn gL19_1) ?_
        have b28 : (-2147483648 : Int) ≤ A 63 (p).toNat ∧ A 63 (p).toNat ≤ 2147483647 := hW.2 63 _
        refine jr_ldv (pc_q := 207) (i := 63) (m := 6) (z := p) (y := A 63 (p).toNat) rfl (by decide) rfl (by decide) (by omega) (by omega) rfl (show Ax 63 (p).toNat = A 63 (p).toNat from (congrFun (hFx.2 63 rfl) _)) ?_
        refine jx_go (tg := 211) rfl rfl ?_
        refine jx_rt (v := some (.int (i32 (A 63 (p).toNat)))) rfl rfl rfl rfl rfl rfl ?_
        exact ⟨_, _, _, rfl, rfl, hWx, hFx, by omega, trivial⟩
    · refine jx_swe (z := 4) (tg := 212) h20 rfl rfl rfl rfl ?_
      refine jx_ld (pc_q := 213) (l_q := L19) (st_q := [.int (i32 (1))]) rfl (jl_iloadn gL19_3) ?_
      refine jx_if_eq (pc_q := 216) (tg := 225) rfl rfl rfl (by decide) (by decide) (fun h29 => ?_) (fun h29 => ?_)
      · have _q := h29
        exact absurd h29 (by omega)
      · have _q := h29
        refine jx_ld (pc_q := 217) (l_q := L19) (st_q := [.ref 66]) rfl (jl_aloadn gL19_0) ?_
        refine jr_get (pc_q := 220) (i := 95) (v := .ref 131) rfl rfl (by decide) rfl rfl ?_
        refine jx_ld (pc_q := 221) (l_q := L19) (st_q := [.int (i32 (p)), .ref 131]) rfl (jl_iloadn gL19_1) ?_
        have b30 : (-2147483648 : Int) ≤ A 64 (p).toNat ∧ A 64 (p).toNat ≤ 2147483647 := hW.2 64 _
        refine jr_ldv (pc_q := 222) (i := 64) (m := 6) (z := p) (y := A 64 (p).toNat) rfl (by decide) rfl (by decide) (by omega) (by omega) rfl (show Ax 64 (p).toNat = A 64 (p).toNat from (congrFun (hFx.2 64 rfl) _)) ?_
        refine jx_go (tg := 226) rfl rfl ?_
        refine jx_rt (v := some (.int (i32 (A 64 (p).toNat)))) rfl rfl rfl rfl rfl rfl ?_
        exact ⟨_, _, _, rfl, rfl, hWx, hFx, by omega, trivial⟩
    · refine jx_swe (z := 5) (tg := 227) h20 rfl rfl rfl rfl ?_
      refine jx_ld (pc_q := 228) (l_q := L19) (st_q := [.int (i32 (1))]) rfl (jl_iloadn gL19_3) ?_
      refine jx_if_eq (pc_q := 231) (tg := 240) rfl rfl rfl (by decide) (by decide) (fun h31 => ?_) (fun h31 => ?_)
      · have _q := h31
        exact absurd h31 (by omega)
      · have _q := h31
        refine jx_ld (pc_q := 232) (l_q := L19) (st_q := [.ref 66]) rfl (jl_aloadn gL19_0) ?_
        refine jr_get (pc_q := 235) (i := 96) (v := .ref 132) rfl rfl (by decide) rfl rfl ?_
        refine jx_ld (pc_q := 236) (l_q := L19) (st_q := [.int (i32 (p)), .ref 132]) rfl (jl_iloadn gL19_1) ?_
        have b32 : (-2147483648 : Int) ≤ A 65 (p).toNat ∧ A 65 (p).toNat ≤ 2147483647 := hW.2 65 _
        refine jr_ldv (pc_q := 237) (i := 65) (m := 6) (z := p) (y := A 65 (p).toNat) rfl (by decide) rfl (by decide) (by omega) (by omega) rfl (show Ax 65 (p).toNat = A 65 (p).toNat from (congrFun (hFx.2 65 rfl) _)) ?_
        refine jx_go (tg := 241) rfl rfl ?_
        refine jx_rt (v := some (.int (i32 (A 65 (p).toNat)))) rfl rfl rfl rfl rfl rfl ?_
        exact ⟨_, _, _, rfl, rfl, hWx, hFx, by omega, trivial⟩
    · refine jx_swe (z := 6) (tg := 242) h20 rfl rfl rfl rfl ?_
      refine jx_ld (pc_q := 243) (l_q := L19) (st_q := [.ref 66]) rfl (jl_aloadn gL19_0) ?_
      refine jr_get (pc_q := 246) (i := 97) (v := .ref 133) rfl rfl (by decide) rfl rfl ?_
      refine jx_ld (pc_q := 247) (l_q := L19) (st_q := [.int (i32 (p)), .ref 133]) rfl (jl_iloadn gL19_1) ?_
      refine jr_ldv (pc_q := 248) (i := 66) (m := 6) (z := p) (y := A 66 (p).toNat) rfl (by decide) rfl (by decide) (by omega) (by omega) rfl (show Ax 66 (p).toNat = A 66 (p).toNat from (congrFun (hFx.2 66 rfl) _)) ?_
      refine jx_rt (v := some (.int (i32 (A 66 (p).toNat)))) rfl rfl rfl rfl rfl rfl ?_
      exact ⟨_, _, _, rfl, rfl, hWx, hFx, by omega, trivial⟩
    · refine jx_swe (z := 7) (tg := 249) h20 rfl rfl rfl rfl ?_
      refine jx_ld (pc_q := 250) (l_q := L19) (st_q := [.ref 66]) rfl (jl_aloadn gL19_0) ?_
      refine jr_get (pc_q := 253) (i := 98) (v := .ref 134) rfl rfl (by decide) rfl rfl ?_
      refine jx_ld (pc_q := 254) (l_q := L19) (st_q := [.int (i32 (p)), .ref 134]) rfl (jl_iloadn gL19_1) ?_
      have b33 : (0 : Int) ≤ A 67 (p).toNat ∧ A 67 (p).toNat ≤ 1 := hW.2 67 _
      refine jr_lbv (pc_q := 255) (i := 67) (m := 6) (z := p) (y := A 67 (p).toNat) rfl (by decide) rfl (by decide) (by omega) (by omega) rfl (show Ax 67 (p).toNat = A 67 (p).toNat from (congrFun (hFx.2 67 rfl) _)) ?_
      refine jx_if_eq (pc_q := 258) (tg := 262) rfl rfl rfl (Int.le_trans (by decide : (-2147483648 : Int) ≤ 0) b33.1) (Int.le_trans b33.2 (by decide : (1 : Int) ≤ 2147483647)) (fun h34 => ?_) (fun h34 => ?_)
      · have _q := h34
        refine jx_ar (pc_q := 263) (st_q := [.int (i32 (0))]) rfl rfl rfl rfl ?_
        refine jx_rt (v := some (.int (i32 (0)))) rfl rfl rfl rfl rfl rfl ?_
        exact ⟨_, _, _, rfl, rfl, hWx, hFx, by omega, trivial⟩
      · have _q := h34
        refine jx_ar (pc_q := 259) (st_q := [.int (i32 (1))]) rfl rfl rfl rfl ?_
        refine jx_go (tg := 263) rfl rfl ?_
        refine jx_rt (v := some (.int (i32 (1)))) rfl rfl rfl rfl rfl rfl ?_
        exact ⟨_, _, _, rfl, rfl, hWx, hFx, by omega, trivial⟩
    · refine jx_swe (z := 8) (tg := 264) h20 rfl rfl rfl rfl ?_
      refine jx_ld (pc_q := 265) (l_q := L19) (st_q := [.ref 66]) rfl (jl_aloadn gL19_0) ?_
      refine jr_get (pc_q := 268) (i := 99) (v := .ref 135) rfl rfl (by decide) rfl rfl ?_
      refine jx_ld (pc_q := 269) (l_q := L19) (st_q := [.int (i32 (p)), .ref 135]) rfl (jl_iloadn gL19_1) ?_
      have b35 : (0 : Int) ≤ A 68 (p).toNat ∧ A 68 (p).toNat ≤ 1 := hW.2 68 _
      refine jr_lbv (pc_q := 270) (i := 68) (m := 6) (z := p) (y := A 68 (p).toNat) rfl (by decide) rfl (by decide) (by omega) (by omega) rfl (show Ax 68 (p).toNat = A 68 (p).toNat from (congrFun (hFx.2 68 rfl) _)) ?_
      refine jx_if_eq (pc_q := 273) (tg := 277) rfl rfl rfl (Int.le_trans (by decide : (-2147483648 : Int) ≤ 0) b35.1) (Int.le_trans b35.2 (by decide : (1 : Int) ≤ 2147483647)) (fun h36 => ?_) (fun h36 => ?_)
      · have _q := h36
        refine jx_ar (pc_q := 278) (st_q := [.int (i32 (0))]) rfl rfl rfl rfl ?_
        refine jx_rt (v := some (.int (i32 (0)))) rfl rfl rfl rfl rfl rfl ?_
        exact ⟨_, _, _, rfl, rfl, hWx, hFx, by omega, trivial⟩
      · have _q := h36
        refine jx_ar (pc_q := 274) (st_q := [.int (i32 (1))]) rfl rfl rfl rfl ?_
        refine jx_go (tg := 278) rfl rfl ?_
        refine jx_rt (v := some (.int (i32 (1)))) rfl rfl rfl rfl rfl rfl ?_
        exact ⟨_, _, _, rfl, rfl, hWx, hFx, by omega, trivial⟩
    · refine jx_swe (z := 9) (tg := 279) h20 rfl rfl rfl rfl ?_
      refine jx_ld (pc_q := 280) (l_q := L19) (st_q := [.ref 66]) rfl (jl_aloadn gL19_0) ?_
      refine jr_get (pc_q := 283) (i := 103) (v := .ref 139) rfl rfl (by decide) rfl rfl ?_
      refine jx_ar (pc_q := 284) (st_q := [.int (i32 (2)), .ref 139]) rfl rfl rfl rfl ?_
      refine jx_ld (pc_q := 285) (l_q := L19) (st_q := [.int (i32 (p)), .int (i32 (2)), .ref 139]) rfl (jl_iloadn gL19_1) ?_
      refine jx_mul (pc_q := 286) rfl rfl ?_
      have b37 : (-2147483648 : Int) ≤ A 72 ((2 * p)).toNat ∧ A 72 ((2 * p)).toNat ≤ 2147483647 := hW.2 72 _
      refine jr_ldv (pc_q := 287) (i := 72) (m := 12) (z := (2 * p)) (y := A 72 ((2 * p)).toNat) rfl (by decide) rfl (by decide) (by omega) (by omega) rfl (show Ax 72 ((2 * p)).toNat = A 72 ((2 * p)).toNat from (congrFun (hFx.2 72 rfl) _)) ?_
      refine jx_rt (v := some (.int (i32 (A 72 ((2 * p)).toNat)))) rfl rfl rfl rfl rfl rfl ?_
      exact ⟨_, _, _, rfl, rfl, hWx, hFx, by omega, trivial⟩
    · refine jx_swe (z := 10) (tg := 288) h20 rfl rfl rfl rfl ?_
      refine jx_ld (pc_q := 289) (l_q := L19) (st_q := [.ref 66]) rfl (jl_aloadn gL19_0) ?_
      refine jr_get (pc_q := 292) (i := 103) (v := .ref 139) rfl rfl (by decide) rfl rfl ?_
      refine jx_ar (pc_q := 293) (st_q := [.int (i32 (2)), .ref 139]) rfl rfl rfl rfl ?_
      refine jx_ld (pc_q := 294) (l_q := L19) (st_q := [.int (i32 (p)), .int (i32 (2)), .ref 139]) rfl (jl_iloadn gL19_1) ?_
      refine jx_mul (pc_q := 295) rfl rfl ?_
      refine jx_ar (pc_q := 296) (st_q := [.int (i32 (1)), .int (i32 ((2 * p))), .ref 139]) rfl rfl rfl rfl ?_
      refine jx_add (pc_q := 297) rfl rfl ?_
      have b38 : (-2147483648 : Int) ≤ A 72 (((2 * p) + 1)).toNat ∧ A 72 (((2 * p) + 1)).toNat ≤ 2147483647 := hW.2 72 _
      refine jr_ldv (pc_q := 298) (i := 72) (m := 12) (z := ((2 * p) + 1)) (y := A 72 (((2 * p) + 1)).toNat) rfl (by decide) rfl (by decide) (by omega) (by omega) rfl (show Ax 72 (((2 * p) + 1)).toNat = A 72 (((2 * p) + 1)).toNat from (congrFun (hFx.2 72 rfl) _)) ?_
      refine jx_rt (v := some (.int (i32 (A 72 (((2 * p) + 1)).toNat)))) rfl rfl rfl rfl rfl rfl ?_
      exact ⟨_, _, _, rfl, rfl, hWx, hFx, by omega, trivial⟩
    · refine jx_swe (z := 11) (tg := 299) h20 rfl rfl rfl rfl ?_
      refine jx_ld (pc_q := 300) (l_q := L19) (st_q := [.ref 66]) rfl (jl_aloadn gL19_0) ?_
      refine jr_get (pc_q := 303) (i := 100) (v := .ref 136) rfl rfl (by decide) rfl rfl ?_
      refine jx_ld (pc_q := 304) (l_q := L19) (st_q := [.int (i32 (p)), .ref 136]) rfl (jl_iloadn gL19_1) ?_
      have b39 : (-2147483648 : Int) ≤ A 69 (p).toNat ∧ A 69 (p).toNat ≤ 2147483647 := hW.2 69 _
      refine jr_ldv (pc_q := 305) (i := 69) (m := 6) (z := p) (y := A 69 (p).toNat) rfl (by decide) rfl (by decide) (by omega) (by omega) rfl (show Ax 69 (p).toNat = A 69 (p).toNat from (congrFun (hFx.2 69 rfl) _)) ?_
      refine jx_rt (v := some (.int (i32 (A 69 (p).toNat)))) rfl rfl rfl rfl rfl rfl ?_
      exact ⟨_, _, _, rfl, rfl, hWx, hFx, by omega, trivial⟩
    · refine jx_swt (tg := 306) (by omega) (by omega) rfl h20 rfl ?_
      refine jx_ld (pc_q := 307) (l_q := L19) (st_q := [.int (i32 (1))]) rfl (jl_iloadn gL19_3) ?_
      refine jx_if_eq (pc_q := 310) (tg := 319) rfl rfl rfl (by decide) (by decide) (fun h40 => ?_) (fun h40 => ?_)
      · have _q := h40
        exact absurd h40 (by omega)
      · have _q := h40
        refine jx_ld (pc_q := 311) (l_q := L19) (st_q := [.ref 66]) rfl (jl_aloadn gL19_0) ?_
        refine jr_get (pc_q := 314) (i := 101) (v := .ref 137) rfl rfl (by decide) rfl rfl ?_
        refine jx_ld (pc_q := 315) (l_q := L19) (st_q := [.int (i32 (p)), .ref 137]) rfl (jl_iloadn gL19_1) ?_
        have b41 : (-2147483648 : Int) ≤ A 70 (p).toNat ∧ A 70 (p).toNat ≤ 2147483647 := hW.2 70 _
        refine jr_ldv (pc_q := 316) (i := 70) (m := 6) (z := p) (y := A 70 (p).toNat) rfl (by decide) rfl (by decide) (by omega) (by omega) rfl (show Ax 70 (p).toNat = A 70 (p).toNat from (congrFun (hFx.2 70 rfl) _)) ?_
        refine jx_go (tg := 320) rfl rfl ?_
        refine jx_rt (v := some (.int (i32 (A 70 (p).toNat)))) rfl rfl rfl rfl rfl rfl ?_
        exact ⟨_, _, _, rfl, rfl, hWx, hFx, by omega, trivial⟩
set_option maxRecDepth 20000 in
set_option maxHeartbeats 4000000 in
theorem c_core {X : jX} {dd : Nat} {c0 c1 : jC} {G : Nat → Int} {A : Nat → Nat → Int} {T : jH} {p w : Int} {pg bp : Int} (hd : 3 ≤ dd) (hW : Wk G A) (e_pg : G 58 = pg) (e_bp : A 36 (p).toNat = bp) (h_p : (-2147483648 : Int) ≤ p ∧ p ≤ 2147483647) (h_w : (-2147483648 : Int) ≤ w ∧ w ≤ 2147483647) : wk X dd 408 [.ref 66, .int (i32 p), .int (i32 w)] (rV c0 c1 G A T) (fun o V_q => ∃ (G_q : Nat → Int) (A_q : Nat → Nat → Int) (r : Int), V_q = rV c0 c1 G_q A_q T ∧ o = .inl (some (.int (i32 r))) ∧ Wk G_q A_q ∧ Fr [0] [] G A G_q A_q ∧ ((-2147483648 : Int) ≤ r ∧ r ≤ 2147483647) ∧ True) := by
  obtain ⟨d, rfl⟩ : ∃ d, dd = d + 1 := ⟨dd - 1, by omega⟩
  refine wk_of (e := jm408) rfl (Nat.le_of_ble_eq_true rfl) ?_
  show wj X d jm408 (0, [(0, .ref 66), (1, .int (i32 (p))), (2, .int (i32 (w)))], [], rV c0 c1 G A T) _
  have hF0 : Fr [0] [] G A G A := Fr_rf
  have b_pg : (0 : Int) ≤ pg ∧ pg ≤ 1 := e_pg ▸ hW.1 58
  have b_bp : (-2147483648 : Int) ≤ bp ∧ bp ≤ 2147483647 := e_bp ▸ hW.2 36 _
  refine jx_ld (pc_q := 1) (l_q := [(0, .ref 66), (1, .int (i32 (p))), (2, .int (i32 (w)))]) (st_q := [.ref 66]) rfl (jl_aloadn rfl) ?_
  refine jx_ld (pc_q := 2) (l_q := [(0, .ref 66), (1, .int (i32 (p))), (2, .int (i32 (w)))]) (st_q := [.ref 66, .ref 66]) rfl (jl_aloadn rfl) ?_
  refine jr_get (pc_q := 5) (i := 58) (v := .int (i32 (pg))) rfl rfl (by decide) (rFv_eq (by decide) (show G 58 = pg from (e_pg))) rfl ?_
  refine jx_if_ne (pc_q := 8) (tg := 12) rfl rfl rfl (Int.le_trans (by decide : (-2147483648 : Int) ≤ 0) b_pg.1) (Int.le_trans b_pg.2 (by decide : (1 : Int) ≤ 2147483647)) (fun h42 => ?_) (fun h42 => ?_)
  · have _q := h42
    refine jx_ar (pc_q := 13) (st_q := [.int (i32 (0)), .ref 66]) rfl rfl rfl rfl ?_
    refine jx_ld (pc_q := 14) (l_q := [(0, .ref 66), (1, .int (i32 (p))), (2, .int (i32 (w)))]) (st_q := [.ref 66, .int (i32 (0)), .ref 66]) rfl (jl_aloadn rfl) ?_
    refine jr_get (pc_q := 17) (i := 58) (v := .int (i32 (pg))) rfl rfl (by decide) (rFv_eq (by decide) (show G 58 = pg from (e_pg))) rfl ?_
    refine jx_if_eq (pc_q := 20) (tg := 32) rfl rfl rfl (Int.le_trans (by decide : (-2147483648 : Int) ≤ 0) b_pg.1) (Int.le_trans b_pg.2 (by decide : (1 : Int) ≤ 2147483647)) (fun h43 => ?_) (fun h43 => ?_)
    · have _q := h43
      refine jx_ar (pc_q := 33) (st_q := [.int (i32 (0)), .int (i32 (0)), .ref 66]) rfl rfl rfl rfl ?_
      refine jx_ld (pc_q := 34) (l_q := [(0, .ref 66), (1, .int (i32 (p))), (2, .int (i32 (w)))]) (st_q := [.ref 66, .int (i32 (0)), .int (i32 (0)), .ref 66]) rfl (jl_aloadn rfl) ?_
      refine jr_get (pc_q := 37) (i := 58) (v := .int (i32 (pg))) rfl rfl (by decide) (rFv_eq (by decide) (show G 58 = pg from (e_pg))) rfl ?_
      refine jx_if_eq (pc_q := 40) (tg := 62) rfl rfl rfl (Int.le_trans (by decide : (-2147483648 : Int) ≤ 0) b_pg.1) (Int.le_trans b_pg.2 (by decide : (1 : Int) ≤ 2147483647)) (fun h44 => ?_) (fun h44 => ?_)
      · have _q := h44
        refine jx_ar (pc_q := 63) (st_q := [.int (i32 (0)), .int (i32 (0)), .int (i32 (0)), .ref 66]) rfl rfl rfl rfl ?_
        refine jx_vr (pc_q := 66) (as := [.int (i32 (0)), .int (i32 (0)), .int (i32 (0))]) (st := []) rfl rfl rfl rfl ⟨rfl, rfl, Nat.le_of_ble_eq_true rfl⟩ rfl rfl (c_refuse (dd := d) (hd := by omega) (hW := hW) (a := 0) (b := 0) (c := 0)   (h_a := ⟨(by decide), (by decide)⟩) (h_b := ⟨(by decide), (by decide)⟩) (h_c := ⟨(by decide), (by decide)⟩)  ) (fun o V_q hq => ?_)
        obtain ⟨G45, A46, r47, th2_48, rfl, rfl, hW49, hF50, b51, e52, q53⟩ := hq
        have hF54 := Fr_tr hF0 hF50 (Fr_sub (by decide)) (Fr_sub (by decide))
        have bth2_48 : (0 : Int) ≤ th2_48 ∧ th2_48 ≤ 4 := e52 ▸ hW49.1 0
        refine .inr ⟨_, rfl, ?_⟩
        rcases q53 with ⟨rfl, a55, a56⟩ | ⟨rfl, a57, a58, a59⟩ | ⟨rfl, a60, a61, a62, a63⟩ | ⟨rfl, a64, a65, a66, a67⟩
        · have _q : True := trivial
          exfalso
          omega
        · have _q : True := trivial
          exfalso
          omega
        · have _q : True := trivial
          exfalso
          omega
        · have _q : True := trivial
          refine jx_if_eq (pc_q := 69) (tg := 71) rfl rfl rfl (by decide) (by decide) (fun h68 => ?_) (fun h68 => ?_)
          · have _q := h68
            exact c_core_at_71 (X := X) (d := d) (c0 := c0) (c1 := c1) (G := G) (A := A) (T := T) (p := p) (w := w) (pg := pg) (bp := bp) (hd := hd) (hW := hW) (e_pg := e_pg) (e_bp := e_bp) (h_p := h_p) (h_w := h_w) [(0, .ref 66), (1, .int (i32 (p))), (2, .int (i32 (w)))] G45 A46 rfl rfl rfl hW49 hF54 (by omega) (by omega)
          · have _q := h68
            exact absurd h68 (by omega)
      · have _q := h44
        refine jx_ld (pc_q := 41) (l_q := [(0, .ref 66), (1, .int (i32 (p))), (2, .int (i32 (w)))]) (st_q := [.ref 66, .int (i32 (0)), .int (i32 (0)), .ref 66]) rfl (jl_aloadn rfl) ?_
        refine jx_ld (pc_q := 42) (l_q := [(0, .ref 66), (1, .int (i32 (p))), (2, .int (i32 (w)))]) (st_q := [.int (i32 (p)), .ref 66, .int (i32 (0)), .int (i32 (0)), .ref 66]) rfl (jl_iloadn rfl) ?_
        refine jx_vr (pc_q := 45) (as := [.int (i32 (p))]) (st := [.int (i32 (0)), .int (i32 (0)), .ref 66]) rfl rfl rfl rfl ⟨rfl, rfl, Nat.le_of_ble_eq_true rfl⟩ rfl rfl (c_isCore2 (dd := d) (hd := by omega) (hW := hW) (p := p) (bp := bp) (e_bp := show A 36 (p).toNat = bp from (e_bp))  (h_p := ⟨(Int.le_trans (by decide : (-2147483648 : Int) ≤ -2147483648) h_p.1), (Int.le_trans h_p.2 (by decide : (2147483647 : Int) ≤ 2147483647))⟩)  ) (fun o V_q hq => ?_)
        obtain ⟨r69, rfl, rfl, b70, q71⟩ := hq
        refine .inr ⟨_, rfl, ?_⟩
        rcases q71 with ⟨rfl, a72, a73, a74⟩ | ⟨rfl, a75⟩
        · have _q : True := trivial
          refine jx_if_eq (pc_q := 48) (tg := 62) rfl rfl rfl (by decide) (by decide) (fun h76 => ?_) (fun h76 => ?_)
          · have _q := h76
            exact absurd h76 (by omega)
          · have _q := h76
            refine jx_ld (pc_q := 49) (l_q := [(0, .ref 66), (1, .int (i32 (p))), (2, .int (i32 (w)))]) (st_q := [.int (i32 (w)), .int (i32 (0)), .int (i32 (0)), .ref 66]) rfl (jl_iloadn rfl) ?_
            refine jx_ar (pc_q := 50) (st_q := [.int (i32 (0)), .int (i32 (w)), .int (i32 (0)), .int (i32 (0)), .ref 66]) rfl rfl rfl rfl ?_
            refine jx_ar (pc_q := 52) (st_q := [.int (i32 (12)), .int (i32 (0)), .int (i32 (w)), .int (i32 (0)), .int (i32 (0)), .ref 66]) rfl rfl rfl rfl ?_
            refine jx_st (pc_q := 55) (as := [.int (i32 (w)), .int (i32 (0)), .int (i32 (12))]) (st := [.int (i32 (0)), .int (i32 (0)), .ref 66]) rfl rfl ⟨rfl, Nat.le_of_ble_eq_true rfl⟩ rfl rfl rfl (c_in (dd := d) (hd := by omega) (v := w) (a := 0) (b := 12)   (h_v := ⟨(Int.le_trans (by decide : (-2147483648 : Int) ≤ -2147483648) h_w.1), (Int.le_trans h_w.2 (by decide : (2147483647 : Int) ≤ 2147483647))⟩) (h_a := ⟨(by decide), (by decide)⟩) (h_b := ⟨(by decide), (by decide)⟩)  ) (fun o V_q hq => ?_)
            obtain ⟨r77, rfl, rfl, b78, q79⟩ := hq
            refine .inr ⟨_, rfl, ?_⟩
            rcases q79 with ⟨rfl, a80, a81⟩ | ⟨rfl, a82⟩
            · have _q : True := trivial
              refine jx_if_ne (pc_q := 58) (tg := 62) rfl rfl rfl (by decide) (by decide) (fun h83 => ?_) (fun h83 => ?_)
              · have _q := h83
                refine jx_ar (pc_q := 63) (st_q := [.int (i32 (0)), .int (i32 (0)), .int (i32 (0)), .ref 66]) rfl rfl rfl rfl ?_
                refine jx_vr (pc_q := 66) (as := [.int (i32 (0)), .int (i32 (0)), .int (i32 (0))]) (st := []) rfl rfl rfl rfl ⟨rfl, rfl, Nat.le_of_ble_eq_true rfl⟩ rfl rfl (c_refuse (dd := d) (hd := by omega) (hW := hW) (a := 0) (b := 0) (c := 0)   (h_a := ⟨(by decide), (by decide)⟩) (h_b := ⟨(by decide), (by decide)⟩) (h_c := ⟨(by decide), (by decide)⟩)  ) (fun o V_q hq => ?_)
                obtain ⟨G84, A85, r86, th2_87, rfl, rfl, hW88, hF89, b90, e91, q92⟩ := hq
                have hF93 := Fr_tr hF0 hF89 (Fr_sub (by decide)) (Fr_sub (by decide))
                have bth2_87 : (0 : Int) ≤ th2_87 ∧ th2_87 ≤ 4 := e91 ▸ hW88.1 0
                refine .inr ⟨_, rfl, ?_⟩
                rcases q92 with ⟨rfl, a94, a95⟩ | ⟨rfl, a96, a97, a98⟩ | ⟨rfl, a99, a100, a101, a102⟩ | ⟨rfl, a103, a104, a105, a106⟩
                · have _q : True := trivial
                  exfalso
                  omega
                · have _q : True := trivial
                  exfalso
                  omega
                · have _q : True := trivial
                  exfalso
                  omega
                · have _q : True := trivial
                  refine jx_if_eq (pc_q := 69) (tg := 71) rfl rfl rfl (by decide) (by decide) (fun h107 => ?_) (fun h107 => ?_)
                  · have _q := h107
                    exact c_core_at_71 (X := X) (d := d) (c0 := c0) (c1 := c1) (G := G) (A := A) (T := T) (p := p) (w := w) (pg := pg) (bp := bp) (hd := hd) (hW := hW) (e_pg := e_pg) (e_bp := e_bp) (h_p := h_p) (h_w := h_w) [(0, .ref 66), (1, .int (i32 (p))), (2, .int (i32 (w)))] G84 A85 rfl rfl rfl hW88 hF93 (by omega) (by omega)
                  · have _q := h107
                    exact absurd h107 (by omega)
              · have _q := h83
                exact absurd h83 (by omega)
            · have _q : True := trivial
              refine jx_if_ne (pc_q := 58) (tg := 62) rfl rfl rfl (by decide) (by decide) (fun h108 => ?_) (fun h108 => ?_)
              · have _q := h108
                exact absurd h108 (by omega)
              · have _q := h108
                refine jx_ar (pc_q := 59) (st_q := [.int (i32 (1)), .int (i32 (0)), .int (i32 (0)), .ref 66]) rfl rfl rfl rfl ?_
                refine jx_go (tg := 63) rfl rfl ?_
                refine jx_vr (pc_q := 66) (as := [.int (i32 (0)), .int (i32 (0)), .int (i32 (1))]) (st := []) rfl rfl rfl rfl ⟨rfl, rfl, Nat.le_of_ble_eq_true rfl⟩ rfl rfl (c_refuse (dd := d) (hd := by omega) (hW := hW) (a := 0) (b := 0) (c := 1)   (h_a := ⟨(by decide), (by decide)⟩) (h_b := ⟨(by decide), (by decide)⟩) (h_c := ⟨(by decide), (by decide)⟩)  ) (fun o V_q hq => ?_)
                obtain ⟨G109, A110, r111, th2_112, rfl, rfl, hW113, hF114, b115, e116, q117⟩ := hq
                have hF118 := Fr_tr hF0 hF114 (Fr_sub (by decide)) (Fr_sub (by decide))
                have bth2_112 : (0 : Int) ≤ th2_112 ∧ th2_112 ≤ 4 := e116 ▸ hW113.1 0
                refine .inr ⟨_, rfl, ?_⟩
                rcases q117 with ⟨rfl, a119, a120⟩ | ⟨rfl, a121, a122, a123⟩ | ⟨rfl, a124, a125, a126, a127⟩ | ⟨rfl, a128, a129, a130, a131⟩
                · have _q : True := trivial
                  exfalso
                  omega
                · have _q : True := trivial
                  exfalso
                  omega
                · have _q : True := trivial
                  refine jx_if_eq (pc_q := 69) (tg := 71) rfl rfl rfl (by decide) (by decide) (fun h132 => ?_) (fun h132 => ?_)
                  · have _q := h132
                    exact absurd h132 (by omega)
                  · have _q := h132
                    refine jx_ar (pc_q := 70) (st_q := [.int (i32 (0))]) rfl rfl rfl rfl ?_
                    refine jx_rt (v := some (.int (i32 (0)))) rfl rfl rfl rfl rfl rfl ?_
                    exact ⟨_, _, _, rfl, rfl, hW113, hF118, by omega, trivial⟩
                · have _q : True := trivial
                  exfalso
                  omega
        · have _q : True := trivial
          refine jx_if_eq (pc_q := 48) (tg := 62) rfl rfl rfl (by decide) (by decide) (fun h133 => ?_) (fun h133 => ?_)
          · have _q := h133
            refine jx_ar (pc_q := 63) (st_q := [.int (i32 (0)), .int (i32 (0)), .int (i32 (0)), .ref 66]) rfl rfl rfl rfl ?_
            refine jx_vr (pc_q := 66) (as := [.int (i32 (0)), .int (i32 (0)), .int (i32 (0))]) (st := []) rfl rfl rfl rfl ⟨rfl, rfl, Nat.le_of_ble_eq_true rfl⟩ rfl rfl (c_refuse (dd := d) (hd := by omega) (hW := hW) (a := 0) (b := 0) (c := 0)   (h_a := ⟨(by decide), (by decide)⟩) (h_b := ⟨(by decide), (by decide)⟩) (h_c := ⟨(by decide), (by decide)⟩)  ) (fun o V_q hq => ?_)
            obtain ⟨G134, A135, r136, th2_137, rfl, rfl, hW138, hF139, b140, e141, q142⟩ := hq
            have hF143 := Fr_tr hF0 hF139 (Fr_sub (by decide)) (Fr_sub (by decide))
            have bth2_137 : (0 : Int) ≤ th2_137 ∧ th2_137 ≤ 4 := e141 ▸ hW138.1 0
            refine .inr ⟨_, rfl, ?_⟩
            rcases q142 with ⟨rfl, a144, a145⟩ | ⟨rfl, a146, a147, a148⟩ | ⟨rfl, a149, a150, a151, a152⟩ | ⟨rfl, a153, a154, a155, a156⟩
            · have _q : True := trivial
              exfalso
              omega
            · have _q : True := trivial
              exfalso
              omega
            · have _q : True := trivial
              exfalso
              omega
            · have _q : True := trivial
              refine jx_if_eq (pc_q := 69) (tg := 71) rfl rfl rfl (by decide) (by decide) (fun h157 => ?_) (fun h157 => ?_)
              · have _q := h157
                exact c_core_at_71 (X := X) (d := d) (c0 := c0) (c1 := c1) (G := G) (A := A) (T := T) (p := p) (w := w) (pg := pg) (bp := bp) (hd := hd) (hW := hW) (e_pg := e_pg) (e_bp := e_bp) (h_p := h_p) (h_w := h_w) [(0, .ref 66), (1, .int (i32 (p))), (2, .int (i32 (w)))] G134 A135 rfl rfl rfl hW138 hF143 (by omega) (by omega)
              · have _q := h157
                exact absurd h157 (by omega)
          · have _q := h133
            exact absurd h133 (by omega)
    · have _q := h43
      refine jx_ld (pc_q := 21) (l_q := [(0, .ref 66), (1, .int (i32 (p))), (2, .int (i32 (w)))]) (st_q := [.ref 66, .int (i32 (0)), .ref 66]) rfl (jl_aloadn rfl) ?_
      refine jx_ld (pc_q := 22) (l_q := [(0, .ref 66), (1, .int (i32 (p))), (2, .int (i32 (w)))]) (st_q := [.int (i32 (p)), .ref 66, .int (i32 (0)), .ref 66]) rfl (jl_iloadn rfl) ?_
      refine jx_vr (pc_q := 25) (as := [.int (i32 (p))]) (st := [.int (i32 (0)), .ref 66]) rfl rfl rfl rfl ⟨rfl, rfl, Nat.le_of_ble_eq_true rfl⟩ rfl rfl (c_isCore2 (dd := d) (hd := by omega) (hW := hW) (p := p) (bp := bp) (e_bp := show A 36 (p).toNat = bp from (e_bp))  (h_p := ⟨(Int.le_trans (by decide : (-2147483648 : Int) ≤ -2147483648) h_p.1), (Int.le_trans h_p.2 (by decide : (2147483647 : Int) ≤ 2147483647))⟩)  ) (fun o V_q hq => ?_)
      obtain ⟨r158, rfl, rfl, b159, q160⟩ := hq
      refine .inr ⟨_, rfl, ?_⟩
      rcases q160 with ⟨rfl, a161, a162, a163⟩ | ⟨rfl, a164⟩
      · have _q : True := trivial
        refine jx_if_ne (pc_q := 28) (tg := 32) rfl rfl rfl (by decide) (by decide) (fun h165 => ?_) (fun h165 => ?_)
        · have _q := h165
          refine jx_ar (pc_q := 33) (st_q := [.int (i32 (0)), .int (i32 (0)), .ref 66]) rfl rfl rfl rfl ?_
          refine jx_ld (pc_q := 34) (l_q := [(0, .ref 66), (1, .int (i32 (p))), (2, .int (i32 (w)))]) (st_q := [.ref 66, .int (i32 (0)), .int (i32 (0)), .ref 66]) rfl (jl_aloadn rfl) ?_
          refine jr_get (pc_q := 37) (i := 58) (v := .int (i32 (pg))) rfl rfl (by decide) (rFv_eq (by decide) (show G 58 = pg from (e_pg))) rfl ?_
          refine jx_if_eq (pc_q := 40) (tg := 62) rfl rfl rfl (Int.le_trans (by decide : (-2147483648 : Int) ≤ 0) b_pg.1) (Int.le_trans b_pg.2 (by decide : (1 : Int) ≤ 2147483647)) (fun h166 => ?_) (fun h166 => ?_)
          · have _q := h166
            refine jx_ar (pc_q := 63) (st_q := [.int (i32 (0)), .int (i32 (0)), .int (i32 (0)), .ref 66]) rfl rfl rfl rfl ?_
            refine jx_vr (pc_q := 66) (as := [.int (i32 (0)), .int (i32 (0)), .int (i32 (0))]) (st := []) rfl rfl rfl rfl ⟨rfl, rfl, Nat.le_of_ble_eq_true rfl⟩ rfl rfl (c_refuse (dd := d) (hd := by omega) (hW := hW) (a := 0) (b := 0) (c := 0)   (h_a := ⟨(by decide), (by decide)⟩) (h_b := ⟨(by decide), (by decide)⟩) (h_c := ⟨(by decide), (by decide)⟩)  ) (fun o V_q hq => ?_)
            obtain ⟨G167, A168, r169, th2_170, rfl, rfl, hW171, hF172, b173, e174, q175⟩ := hq
            have hF176 := Fr_tr hF0 hF172 (Fr_sub (by decide)) (Fr_sub (by decide))
            have bth2_170 : (0 : Int) ≤ th2_170 ∧ th2_170 ≤ 4 := e174 ▸ hW171.1 0
            refine .inr ⟨_, rfl, ?_⟩
            rcases q175 with ⟨rfl, a177, a178⟩ | ⟨rfl, a179, a180, a181⟩ | ⟨rfl, a182, a183, a184, a185⟩ | ⟨rfl, a186, a187, a188, a189⟩
            · have _q : True := trivial
              exfalso
              omega
            · have _q : True := trivial
              exfalso
              omega
            · have _q : True := trivial
              exfalso
              omega
            · have _q : True := trivial
              refine jx_if_eq (pc_q := 69) (tg := 71) rfl rfl rfl (by decide) (by decide) (fun h190 => ?_) (fun h190 => ?_)
              · have _q := h190
                exact c_core_at_71 (X := X) (d := d) (c0 := c0) (c1 := c1) (G := G) (A := A) (T := T) (p := p) (w := w) (pg := pg) (bp := bp) (hd := hd) (hW := hW) (e_pg := e_pg) (e_bp := e_bp) (h_p := h_p) (h_w := h_w) [(0, .ref 66), (1, .int (i32 (p))), (2, .int (i32 (w)))] G167 A168 rfl rfl rfl hW171 hF176 (by omega) (by omega)
              · have _q := h190
                exact absurd h190 (by omega)
          · have _q := h166
            refine jx_ld (pc_q := 41) (l_q := [(0, .ref 66), (1, .int (i32 (p))), (2, .int (i32 (w)))]) (st_q := [.ref 66, .int (i32 (0)), .int (i32 (0)), .ref 66]) rfl (jl_aloadn rfl) ?_
            refine jx_ld (pc_q := 42) (l_q := [(0, .ref 66), (1, .int (i32 (p))), (2, .int (i32 (w)))]) (st_q := [.int (i32 (p)), .ref 66, .int (i32 (0)), .int (i32 (0)), .ref 66]) rfl (jl_iloadn rfl) ?_
            refine jx_vr (pc_q := 45) (as := [.int (i32 (p))]) (st := [.int (i32 (0)), .int (i32 (0)), .ref 66]) rfl rfl rfl rfl ⟨rfl, rfl, Nat.le_of_ble_eq_true rfl⟩ rfl rfl (c_isCore2 (dd := d) (hd := by omega) (hW := hW) (p := p) (bp := bp) (e_bp := show A 36 (p).toNat = bp from (e_bp))  (h_p := ⟨(Int.le_trans (by decide : (-2147483648 : Int) ≤ -2147483648) h_p.1), (Int.le_trans h_p.2 (by decide : (2147483647 : Int) ≤ 2147483647))⟩)  ) (fun o V_q hq => ?_)
            obtain ⟨r191, rfl, rfl, b192, q193⟩ := hq
            refine .inr ⟨_, rfl, ?_⟩
            rcases q193 with ⟨rfl, a194, a195, a196⟩ | ⟨rfl, a197⟩
            · have _q : True := trivial
              refine jx_if_eq (pc_q := 48) (tg := 62) rfl rfl rfl (by decide) (by decide) (fun h198 => ?_) (fun h198 => ?_)
              · have _q := h198
                exact absurd h198 (by omega)
              · have _q := h198
                refine jx_ld (pc_q := 49) (l_q := [(0, .ref 66), (1, .int (i32 (p))), (2, .int (i32 (w)))]) (st_q := [.int (i32 (w)), .int (i32 (0)), .int (i32 (0)), .ref 66]) rfl (jl_iloadn rfl) ?_
                refine jx_ar (pc_q := 50) (st_q := [.int (i32 (0)), .int (i32 (w)), .int (i32 (0)), .int (i32 (0)), .ref 66]) rfl rfl rfl rfl ?_
                refine jx_ar (pc_q := 52) (st_q := [.int (i32 (12)), .int (i32 (0)), .int (i32 (w)), .int (i32 (0)), .int (i32 (0)), .ref 66]) rfl rfl rfl rfl ?_
                refine jx_st (pc_q := 55) (as := [.int (i32 (w)), .int (i32 (0)), .int (i32 (12))]) (st := [.int (i32 (0)), .int (i32 (0)), .ref 66]) rfl rfl ⟨rfl, Nat.le_of_ble_eq_true rfl⟩ rfl rfl rfl (c_in (dd := d) (hd := by omega) (v := w) (a := 0) (b := 12)   (h_v := ⟨(Int.le_trans (by decide : (-2147483648 : Int) ≤ -2147483648) h_w.1), (Int.le_trans h_w.2 (by decide : (2147483647 : Int) ≤ 2147483647))⟩) (h_a := ⟨(by decide), (by decide)⟩) (h_b := ⟨(by decide), (by decide)⟩)  ) (fun o V_q hq => ?_)
                obtain ⟨r199, rfl, rfl, b200, q201⟩ := hq
                refine .inr ⟨_, rfl, ?_⟩
                rcases q201 with ⟨rfl, a202, a203⟩ | ⟨rfl, a204⟩
                · have _q : True := trivial
                  refine jx_if_ne (pc_q := 58) (tg := 62) rfl rfl rfl (by decide) (by decide) (fun h205 => ?_) (fun h205 => ?_)
                  · have _q := h205
                    refine jx_ar (pc_q := 63) (st_q := [.int (i32 (0)), .int (i32 (0)), .int (i32 (0)), .ref 66]) rfl rfl rfl rfl ?_
                    refine jx_vr (pc_q := 66) (as := [.int (i32 (0)), .int (i32 (0)), .int (i32 (0))]) (st := []) rfl rfl rfl rfl ⟨rfl, rfl, Nat.le_of_ble_eq_true rfl⟩ rfl rfl (c_refuse (dd := d) (hd := by omega) (hW := hW) (a := 0) (b := 0) (c := 0)   (h_a := ⟨(by decide), (by decide)⟩) (h_b := ⟨(by decide), (by decide)⟩) (h_c := ⟨(by decide), (by decide)⟩)  ) (fun o V_q hq => ?_)
                    obtain ⟨G206, A207, r208, th2_209, rfl, rfl, hW210, hF211, b212, e213, q214⟩ := hq
                    have hF215 := Fr_tr hF0 hF211 (Fr_sub (by decide)) (Fr_sub (by decide))
                    have bth2_209 : (0 : Int) ≤ th2_209 ∧ th2_209 ≤ 4 := e213 ▸ hW210.1 0
                    refine .inr ⟨_, rfl, ?_⟩
                    rcases q214 with ⟨rfl, a216, a217⟩ | ⟨rfl, a218, a219, a220⟩ | ⟨rfl, a221, a222, a223, a224⟩ | ⟨rfl, a225, a226, a227, a228⟩
                    · have _q : True := trivial
                      exfalso
                      omega
                    · have _q : True := trivial
                      exfalso
                      omega
                    · have _q : True := trivial
                      exfalso
                      omega
                    · have _q : True := trivial
                      refine jx_if_eq (pc_q := 69) (tg := 71) rfl rfl rfl (by decide) (by decide) (fun h229 => ?_) (fun h229 => ?_)
                      · have _q := h229
                        exact c_core_at_71 (X := X) (d := d) (c0 := c0) (c1 := c1) (G := G) (A := A) (T := T) (p := p) (w := w) (pg := pg) (bp := bp) (hd := hd) (hW := hW) (e_pg := e_pg) (e_bp := e_bp) (h_p := h_p) (h_w := h_w) [(0, .ref 66), (1, .int (i32 (p))), (2, .int (i32 (w)))] G206 A207 rfl rfl rfl hW210 hF215 (by omega) (by omega)
                      · have _q := h229
                        exact absurd h229 (by omega)
                  · have _q := h205
                    exact absurd h205 (by omega)
                · have _q : True := trivial
                  refine jx_if_ne (pc_q := 58) (tg := 62) rfl rfl rfl (by decide) (by decide) (fun h230 => ?_) (fun h230 => ?_)
                  · have _q := h230
                    exact absurd h230 (by omega)
                  · have _q := h230
                    refine jx_ar (pc_q := 59) (st_q := [.int (i32 (1)), .int (i32 (0)), .int (i32 (0)), .ref 66]) rfl rfl rfl rfl ?_
                    refine jx_go (tg := 63) rfl rfl ?_
                    refine jx_vr (pc_q := 66) (as := [.int (i32 (0)), .int (i32 (0)), .int (i32 (1))]) (st := []) rfl rfl rfl rfl ⟨rfl, rfl, Nat.le_of_ble_eq_true rfl⟩ rfl rfl (c_refuse (dd := d) (hd := by omega) (hW := hW) (a := 0) (b := 0) (c := 1)   (h_a := ⟨(by decide), (by decide)⟩) (h_b := ⟨(by decide), (by decide)⟩) (h_c := ⟨(by decide), (by decide)⟩)  ) (fun o V_q hq => ?_)
                    obtain ⟨G231, A232, r233, th2_234, rfl, rfl, hW235, hF236, b237, e238, q239⟩ := hq
                    have hF240 := Fr_tr hF0 hF236 (Fr_sub (by decide)) (Fr_sub (by decide))
                    have bth2_234 : (0 : Int) ≤ th2_234 ∧ th2_234 ≤ 4 := e238 ▸ hW235.1 0
                    refine .inr ⟨_, rfl, ?_⟩
                    rcases q239 with ⟨rfl, a241, a242⟩ | ⟨rfl, a243, a244, a245⟩ | ⟨rfl, a246, a247, a248, a249⟩ | ⟨rfl, a250, a251, a252, a253⟩
                    · have _q : True := trivial
                      exfalso
                      omega
                    · have _q : True := trivial
                      exfalso
                      omega
                    · have _q : True := trivial
                      refine jx_if_eq (pc_q := 69) (tg := 71) rfl rfl rfl (by decide) (by decide) (fun h254 => ?_) (fun h254 => ?_)
                      · have _q := h254
                        exact absurd h254 (by omega)
                      · have _q := h254
                        refine jx_ar (pc_q := 70) (st_q := [.int (i32 (0))]) rfl rfl rfl rfl ?_
                        refine jx_rt (v := some (.int (i32 (0)))) rfl rfl rfl rfl rfl rfl ?_
                        exact ⟨_, _, _, rfl, rfl, hW235, hF240, by omega, trivial⟩
                    · have _q : True := trivial
                      exfalso
                      omega
            · have _q : True := trivial
              refine jx_if_eq (pc_q := 48) (tg := 62) rfl rfl rfl (by decide) (by decide) (fun h255 => ?_) (fun h255 => ?_)
              · have _q := h255
                refine jx_ar (pc_q := 63) (st_q := [.int (i32 (0)), .int (i32 (0)), .int (i32 (0)), .ref 66]) rfl rfl rfl rfl ?_
                refine jx_vr (pc_q := 66) (as := [.int (i32 (0)), .int (i32 (0)), .int (i32 (0))]) (st := []) rfl rfl rfl rfl ⟨rfl, rfl, Nat.le_of_ble_eq_true rfl⟩ rfl rfl (c_refuse (dd := d) (hd := by omega) (hW := hW) (a := 0) (b := 0) (c := 0)   (h_a := ⟨(by decide), (by decide)⟩) (h_b := ⟨(by decide), (by decide)⟩) (h_c := ⟨(by decide), (by decide)⟩)  ) (fun o V_q hq => ?_)
                obtain ⟨G256, A257, r258, th2_259, rfl, rfl, hW260, hF261, b262, e263, q264⟩ := hq
                have hF265 := Fr_tr hF0 hF261 (Fr_sub (by decide)) (Fr_sub (by decide))
                have bth2_259 : (0 : Int) ≤ th2_259 ∧ th2_259 ≤ 4 := e263 ▸ hW260.1 0
                refine .inr ⟨_, rfl, ?_⟩
                rcases q264 with ⟨rfl, a266, a267⟩ | ⟨rfl, a268, a269, a270⟩ | ⟨rfl, a271, a272, a273, a274⟩ | ⟨rfl, a275, a276, a277, a278⟩
                · have _q : True := trivial
                  exfalso
                  omega
                · have _q : True := trivial
                  exfalso
                  omega
                · have _q : True := trivial
                  exfalso
                  omega
                · have _q : True := trivial
                  refine jx_if_eq (pc_q := 69) (tg := 71) rfl rfl rfl (by decide) (by decide) (fun h279 => ?_) (fun h279 => ?_)
                  · have _q := h279
                    exact c_core_at_71 (X := X) (d := d) (c0 := c0) (c1 := c1) (G := G) (A := A) (T := T) (p := p) (w := w) (pg := pg) (bp := bp) (hd := hd) (hW := hW) (e_pg := e_pg) (e_bp := e_bp) (h_p := h_p) (h_w := h_w) [(0, .ref 66), (1, .int (i32 (p))), (2, .int (i32 (w)))] G256 A257 rfl rfl rfl hW260 hF265 (by omega) (by omega)
                  · have _q := h279
                    exact absurd h279 (by omega)
              · have _q := h255
                exact absurd h255 (by omega)
        · have _q := h165
          exact absurd h165 (by omega)
      · have _q : True := trivial
        refine jx_if_ne (pc_q := 28) (tg := 32) rfl rfl rfl (by decide) (by decide) (fun h280 => ?_) (fun h280 => ?_)
        · have _q := h280
          exact absurd h280 (by omega)
        · have _q := h280
          refine jx_ar (pc_q := 29) (st_q := [.int (i32 (1)), .int (i32 (0)), .ref 66]) rfl rfl rfl rfl ?_
          refine jx_go (tg := 33) rfl rfl ?_
          refine jx_ld (pc_q := 34) (l_q := [(0, .ref 66), (1, .int (i32 (p))), (2, .int (i32 (w)))]) (st_q := [.ref 66, .int (i32 (1)), .int (i32 (0)), .ref 66]) rfl (jl_aloadn rfl) ?_
          refine jr_get (pc_q := 37) (i := 58) (v := .int (i32 (pg))) rfl rfl (by decide) (rFv_eq (by decide) (show G 58 = pg from (e_pg))) rfl ?_
          refine jx_if_eq (pc_q := 40) (tg := 62) rfl rfl rfl (Int.le_trans (by decide : (-2147483648 : Int) ≤ 0) b_pg.1) (Int.le_trans b_pg.2 (by decide : (1 : Int) ≤ 2147483647)) (fun h281 => ?_) (fun h281 => ?_)
          · have _q := h281
            refine jx_ar (pc_q := 63) (st_q := [.int (i32 (0)), .int (i32 (1)), .int (i32 (0)), .ref 66]) rfl rfl rfl rfl ?_
            refine jx_vr (pc_q := 66) (as := [.int (i32 (0)), .int (i32 (1)), .int (i32 (0))]) (st := []) rfl rfl rfl rfl ⟨rfl, rfl, Nat.le_of_ble_eq_true rfl⟩ rfl rfl (c_refuse (dd := d) (hd := by omega) (hW := hW) (a := 0) (b := 1) (c := 0)   (h_a := ⟨(by decide), (by decide)⟩) (h_b := ⟨(by decide), (by decide)⟩) (h_c := ⟨(by decide), (by decide)⟩)  ) (fun o V_q hq => ?_)
            obtain ⟨G282, A283, r284, th2_285, rfl, rfl, hW286, hF287, b288, e289, q290⟩ := hq
            have hF291 := Fr_tr hF0 hF287 (Fr_sub (by decide)) (Fr_sub (by decide))
            have bth2_285 : (0 : Int) ≤ th2_285 ∧ th2_285 ≤ 4 := e289 ▸ hW286.1 0
            refine .inr ⟨_, rfl, ?_⟩
            rcases q290 with ⟨rfl, a292, a293⟩ | ⟨rfl, a294, a295, a296⟩ | ⟨rfl, a297, a298, a299, a300⟩ | ⟨rfl, a301, a302, a303, a304⟩
            · have _q : True := trivial
              exfalso
              omega
            · have _q : True := trivial
              refine jx_if_eq (pc_q := 69) (tg := 71) rfl rfl rfl (by decide) (by decide) (fun h305 => ?_) (fun h305 => ?_)
              · have _q := h305
                exact absurd h305 (by omega)
              · have _q := h305
                refine jx_ar (pc_q := 70) (st_q := [.int (i32 (0))]) rfl rfl rfl rfl ?_
                refine jx_rt (v := some (.int (i32 (0)))) rfl rfl rfl rfl rfl rfl ?_
                exact ⟨_, _, _, rfl, rfl, hW286, hF291, by omega, trivial⟩
            · have _q : True := trivial
              exfalso
              omega
            · have _q : True := trivial
              exfalso
              omega
          · have _q := h281
            refine jx_ld (pc_q := 41) (l_q := [(0, .ref 66), (1, .int (i32 (p))), (2, .int (i32 (w)))]) (st_q := [.ref 66, .int (i32 (1)), .int (i32 (0)), .ref 66]) rfl (jl_aloadn rfl) ?_
            refine jx_ld (pc_q := 42) (l_q := [(0, .ref 66), (1, .int (i32 (p))), (2, .int (i32 (w)))]) (st_q := [.int (i32 (p)), .ref 66, .int (i32 (1)), .int (i32 (0)), .ref 66]) rfl (jl_iloadn rfl) ?_
            refine jx_vr (pc_q := 45) (as := [.int (i32 (p))]) (st := [.int (i32 (1)), .int (i32 (0)), .ref 66]) rfl rfl rfl rfl ⟨rfl, rfl, Nat.le_of_ble_eq_true rfl⟩ rfl rfl (c_isCore2 (dd := d) (hd := by omega) (hW := hW) (p := p) (bp := bp) (e_bp := show A 36 (p).toNat = bp from (e_bp))  (h_p := ⟨(Int.le_trans (by decide : (-2147483648 : Int) ≤ -2147483648) h_p.1), (Int.le_trans h_p.2 (by decide : (2147483647 : Int) ≤ 2147483647))⟩)  ) (fun o V_q hq => ?_)
            obtain ⟨r306, rfl, rfl, b307, q308⟩ := hq
            refine .inr ⟨_, rfl, ?_⟩
            rcases q308 with ⟨rfl, a309, a310, a311⟩ | ⟨rfl, a312⟩
            · have _q : True := trivial
              refine jx_if_eq (pc_q := 48) (tg := 62) rfl rfl rfl (by decide) (by decide) (fun h313 => ?_) (fun h313 => ?_)
              · have _q := h313
                exact absurd h313 (by omega)
              · have _q := h313
                refine jx_ld (pc_q := 49) (l_q := [(0, .ref 66), (1, .int (i32 (p))), (2, .int (i32 (w)))]) (st_q := [.int (i32 (w)), .int (i32 (1)), .int (i32 (0)), .ref 66]) rfl (jl_iloadn rfl) ?_
                refine jx_ar (pc_q := 50) (st_q := [.int (i32 (0)), .int (i32 (w)), .int (i32 (1)), .int (i32 (0)), .ref 66]) rfl rfl rfl rfl ?_
                refine jx_ar (pc_q := 52) (st_q := [.int (i32 (12)), .int (i32 (0)), .int (i32 (w)), .int (i32 (1)), .int (i32 (0)), .ref 66]) rfl rfl rfl rfl ?_
                refine jx_st (pc_q := 55) (as := [.int (i32 (w)), .int (i32 (0)), .int (i32 (12))]) (st := [.int (i32 (1)), .int (i32 (0)), .ref 66]) rfl rfl ⟨rfl, Nat.le_of_ble_eq_true rfl⟩ rfl rfl rfl (c_in (dd := d) (hd := by omega) (v := w) (a := 0) (b := 12)   (h_v := ⟨(Int.le_trans (by decide : (-2147483648 : Int) ≤ -2147483648) h_w.1), (Int.le_trans h_w.2 (by decide : (2147483647 : Int) ≤ 2147483647))⟩) (h_a := ⟨(by decide), (by decide)⟩) (h_b := ⟨(by decide), (by decide)⟩)  ) (fun o V_q hq => ?_)
                obtain ⟨r314, rfl, rfl, b315, q316⟩ := hq
                refine .inr ⟨_, rfl, ?_⟩
                rcases q316 with ⟨rfl, a317, a318⟩ | ⟨rfl, a319⟩
                · have _q : True := trivial
                  refine jx_if_ne (pc_q := 58) (tg := 62) rfl rfl rfl (by decide) (by decide) (fun h320 => ?_) (fun h320 => ?_)
                  · have _q := h320
                    refine jx_ar (pc_q := 63) (st_q := [.int (i32 (0)), .int (i32 (1)), .int (i32 (0)), .ref 66]) rfl rfl rfl rfl ?_
                    refine jx_vr (pc_q := 66) (as := [.int (i32 (0)), .int (i32 (1)), .int (i32 (0))]) (st := []) rfl rfl rfl rfl ⟨rfl, rfl, Nat.le_of_ble_eq_true rfl⟩ rfl rfl (c_refuse (dd := d) (hd := by omega) (hW := hW) (a := 0) (b := 1) (c := 0)   (h_a := ⟨(by decide), (by decide)⟩) (h_b := ⟨(by decide), (by decide)⟩) (h_c := ⟨(by decide), (by decide)⟩)  ) (fun o V_q hq => ?_)
                    obtain ⟨G321, A322, r323, th2_324, rfl, rfl, hW325, hF326, b327, e328, q329⟩ := hq
                    have hF330 := Fr_tr hF0 hF326 (Fr_sub (by decide)) (Fr_sub (by decide))
                    have bth2_324 : (0 : Int) ≤ th2_324 ∧ th2_324 ≤ 4 := e328 ▸ hW325.1 0
                    refine .inr ⟨_, rfl, ?_⟩
                    rcases q329 with ⟨rfl, a331, a332⟩ | ⟨rfl, a333, a334, a335⟩ | ⟨rfl, a336, a337, a338, a339⟩ | ⟨rfl, a340, a341, a342, a343⟩
                    · have _q : True := trivial
                      exfalso
                      omega
                    · have _q : True := trivial
                      refine jx_if_eq (pc_q := 69) (tg := 71) rfl rfl rfl (by decide) (by decide) (fun h344 => ?_) (fun h344 => ?_)
                      · have _q := h344
                        exact absurd h344 (by omega)
                      · have _q := h344
                        refine jx_ar (pc_q := 70) (st_q := [.int (i32 (0))]) rfl rfl rfl rfl ?_
                        refine jx_rt (v := some (.int (i32 (0)))) rfl rfl rfl rfl rfl rfl ?_
                        exact ⟨_, _, _, rfl, rfl, hW325, hF330, by omega, trivial⟩
                    · have _q : True := trivial
                      exfalso
                      omega
                    · have _q : True := trivial
                      exfalso
                      omega
                  · have _q := h320
                    exact absurd h320 (by omega)
                · have _q : True := trivial
                  refine jx_if_ne (pc_q := 58) (tg := 62) rfl rfl rfl (by decide) (by decide) (fun h345 => ?_) (fun h345 => ?_)
                  · have _q := h345
                    exact absurd h345 (by omega)
                  · have _q := h345
                    refine jx_ar (pc_q := 59) (st_q := [.int (i32 (1)), .int (i32 (1)), .int (i32 (0)), .ref 66]) rfl rfl rfl rfl ?_
                    refine jx_go (tg := 63) rfl rfl ?_
                    refine jx_vr (pc_q := 66) (as := [.int (i32 (0)), .int (i32 (1)), .int (i32 (1))]) (st := []) rfl rfl rfl rfl ⟨rfl, rfl, Nat.le_of_ble_eq_true rfl⟩ rfl rfl (c_refuse (dd := d) (hd := by omega) (hW := hW) (a := 0) (b := 1) (c := 1)   (h_a := ⟨(by decide), (by decide)⟩) (h_b := ⟨(by decide), (by decide)⟩) (h_c := ⟨(by decide), (by decide)⟩)  ) (fun o V_q hq => ?_)
                    obtain ⟨G346, A347, r348, th2_349, rfl, rfl, hW350, hF351, b352, e353, q354⟩ := hq
                    have hF355 := Fr_tr hF0 hF351 (Fr_sub (by decide)) (Fr_sub (by decide))
                    have bth2_349 : (0 : Int) ≤ th2_349 ∧ th2_349 ≤ 4 := e353 ▸ hW350.1 0
                    refine .inr ⟨_, rfl, ?_⟩
                    rcases q354 with ⟨rfl, a356, a357⟩ | ⟨rfl, a358, a359, a360⟩ | ⟨rfl, a361, a362, a363, a364⟩ | ⟨rfl, a365, a366, a367, a368⟩
                    · have _q : True := trivial
                      exfalso
                      omega
                    · have _q : True := trivial
                      refine jx_if_eq (pc_q := 69) (tg := 71) rfl rfl rfl (by decide) (by decide) (fun h369 => ?_) (fun h369 => ?_)
                      · have _q := h369
                        exact absurd h369 (by omega)
                      · have _q := h369
                        refine jx_ar (pc_q := 70) (st_q := [.int (i32 (0))]) rfl rfl rfl rfl ?_
                        refine jx_rt (v := some (.int (i32 (0)))) rfl rfl rfl rfl rfl rfl ?_
                        exact ⟨_, _, _, rfl, rfl, hW350, hF355, by omega, trivial⟩
                    · have _q : True := trivial
                      exfalso
                      omega
                    · have _q : True := trivial
                      exfalso
                      omega
            · have _q : True := trivial
              refine jx_if_eq (pc_q := 48) (tg := 62) rfl rfl rfl (by decide) (by decide) (fun h370 => ?_) (fun h370 => ?_)
              · have _q := h370
                refine jx_ar (pc_q := 63) (st_q := [.int (i32 (0)), .int (i32 (1)), .int (i32 (0)), .ref 66]) rfl rfl rfl rfl ?_
                refine jx_vr (pc_q := 66) (as := [.int (i32 (0)), .int (i32 (1)), .int (i32 (0))]) (st := []) rfl rfl rfl rfl ⟨rfl, rfl, Nat.le_of_ble_eq_true rfl⟩ rfl rfl (c_refuse (dd := d) (hd := by omega) (hW := hW) (a := 0) (b := 1) (c := 0)   (h_a := ⟨(by decide), (by decide)⟩) (h_b := ⟨(by decide), (by decide)⟩) (h_c := ⟨(by decide), (by decide)⟩)  ) (fun o V_q hq => ?_)
                obtain ⟨G371, A372, r373, th2_374, rfl, rfl, hW375, hF376, b377, e378, q379⟩ := hq
                have hF380 := Fr_tr hF0 hF376 (Fr_sub (by decide)) (Fr_sub (by decide))
                have bth2_374 : (0 : Int) ≤ th2_374 ∧ th2_374 ≤ 4 := e378 ▸ hW375.1 0
                refine .inr ⟨_, rfl, ?_⟩
                rcases q379 with ⟨rfl, a381, a382⟩ | ⟨rfl, a383, a384, a385⟩ | ⟨rfl, a386, a387, a388, a389⟩ | ⟨rfl, a390, a391, a392, a393⟩
                · have _q : True := trivial
                  exfalso
                  omega
                · have _q : True := trivial
                  refine jx_if_eq (pc_q := 69) (tg := 71) rfl rfl rfl (by decide) (by decide) (fun h394 => ?_) (fun h394 => ?_)
                  · have _q := h394
                    exact absurd h394 (by omega)
                  · have _q := h394
                    refine jx_ar (pc_q := 70) (st_q := [.int (i32 (0))]) rfl rfl rfl rfl ?_
                    refine jx_rt (v := some (.int (i32 (0)))) rfl rfl rfl rfl rfl rfl ?_
                    exact ⟨_, _, _, rfl, rfl, hW375, hF380, by omega, trivial⟩
                · have _q : True := trivial
                  exfalso
                  omega
                · have _q : True := trivial
                  exfalso
                  omega
              · have _q := h370
                exact absurd h370 (by omega)
  · have _q := h42
    refine jx_ar (pc_q := 9) (st_q := [.int (i32 (1)), .ref 66]) rfl rfl rfl rfl ?_
    refine jx_go (tg := 13) rfl rfl ?_
    refine jx_ld (pc_q := 14) (l_q := [(0, .ref 66), (1, .int (i32 (p))), (2, .int (i32 (w)))]) (st_q := [.ref 66, .int (i32 (1)), .ref 66]) rfl (jl_aloadn rfl) ?_
    refine jr_get (pc_q := 17) (i := 58) (v := .int (i32 (pg))) rfl rfl (by decide) (rFv_eq (by decide) (show G 58 = pg from (e_pg))) rfl ?_
    refine jx_if_eq (pc_q := 20) (tg := 32) rfl rfl rfl (Int.le_trans (by decide : (-2147483648 : Int) ≤ 0) b_pg.1) (Int.le_trans b_pg.2 (by decide : (1 : Int) ≤ 2147483647)) (fun h395 => ?_) (fun h395 => ?_)
    · have _q := h395
      refine jx_ar (pc_q := 33) (st_q := [.int (i32 (0)), .int (i32 (1)), .ref 66]) rfl rfl rfl rfl ?_
      refine jx_ld (pc_q := 34) (l_q := [(0, .ref 66), (1, .int (i32 (p))), (2, .int (i32 (w)))]) (st_q := [.ref 66, .int (i32 (0)), .int (i32 (1)), .ref 66]) rfl (jl_aloadn rfl) ?_
      refine jr_get (pc_q := 37) (i := 58) (v := .int (i32 (pg))) rfl rfl (by decide) (rFv_eq (by decide) (show G 58 = pg from (e_pg))) rfl ?_
      refine jx_if_eq (pc_q := 40) (tg := 62) rfl rfl rfl (Int.le_trans (by decide : (-2147483648 : Int) ≤ 0) b_pg.1) (Int.le_trans b_pg.2 (by decide : (1 : Int) ≤ 2147483647)) (fun h396 => ?_) (fun h396 => ?_)
      · have _q := h396
        refine jx_ar (pc_q := 63) (st_q := [.int (i32 (0)), .int (i32 (0)), .int (i32 (1)), .ref 66]) rfl rfl rfl rfl ?_
        refine jx_vr (pc_q := 66) (as := [.int (i32 (1)), .int (i32 (0)), .int (i32 (0))]) (st := []) rfl rfl rfl rfl ⟨rfl, rfl, Nat.le_of_ble_eq_true rfl⟩ rfl rfl (c_refuse (dd := d) (hd := by omega) (hW := hW) (a := 1) (b := 0) (c := 0)   (h_a := ⟨(by decide), (by decide)⟩) (h_b := ⟨(by decide), (by decide)⟩) (h_c := ⟨(by decide), (by decide)⟩)  ) (fun o V_q hq => ?_)
        obtain ⟨G397, A398, r399, th2_400, rfl, rfl, hW401, hF402, b403, e404, q405⟩ := hq
        have hF406 := Fr_tr hF0 hF402 (Fr_sub (by decide)) (Fr_sub (by decide))
        have bth2_400 : (0 : Int) ≤ th2_400 ∧ th2_400 ≤ 4 := e404 ▸ hW401.1 0
        refine .inr ⟨_, rfl, ?_⟩
        rcases q405 with ⟨rfl, a407, a408⟩ | ⟨rfl, a409, a410, a411⟩ | ⟨rfl, a412, a413, a414, a415⟩ | ⟨rfl, a416, a417, a418, a419⟩
        · have _q : True := trivial
          refine jx_if_eq (pc_q := 69) (tg := 71) rfl rfl rfl (by decide) (by decide) (fun h420 => ?_) (fun h420 => ?_)
          · have _q := h420
            exact absurd h420 (by omega)
          · have _q := h420
            refine jx_ar (pc_q := 70) (st_q := [.int (i32 (0))]) rfl rfl rfl rfl ?_
            refine jx_rt (v := some (.int (i32 (0)))) rfl rfl rfl rfl rfl rfl ?_
            exact ⟨_, _, _, rfl, rfl, hW401, hF406, by omega, trivial⟩
        · have _q : True := trivial
          exfalso
          omega
        · have _q : True := trivial
          exfalso
          omega
        · have _q : True := trivial
          exfalso
          omega
      · have _q := h396
        refine jx_ld (pc_q := 41) (l_q := [(0, .ref 66), (1, .int (i32 (p))), (2, .int (i32 (w)))]) (st_q := [.ref 66, .int (i32 (0)), .int (i32 (1)), .ref 66]) rfl (jl_aloadn rfl) ?_
        refine jx_ld (pc_q := 42) (l_q := [(0, .ref 66), (1, .int (i32 (p))), (2, .int (i32 (w)))]) (st_q := [.int (i32 (p)), .ref 66, .int (i32 (0)), .int (i32 (1)), .ref 66]) rfl (jl_iloadn rfl) ?_
        refine jx_vr (pc_q := 45) (as := [.int (i32 (p))]) (st := [.int (i32 (0)), .int (i32 (1)), .ref 66]) rfl rfl rfl rfl ⟨rfl, rfl, Nat.le_of_ble_eq_true rfl⟩ rfl rfl (c_isCore2 (dd := d) (hd := by omega) (hW := hW) (p := p) (bp := bp) (e_bp := show A 36 (p).toNat = bp from (e_bp))  (h_p := ⟨(Int.le_trans (by decide : (-2147483648 : Int) ≤ -2147483648) h_p.1), (Int.le_trans h_p.2 (by decide : (2147483647 : Int) ≤ 2147483647))⟩)  ) (fun o V_q hq => ?_)
        obtain ⟨r421, rfl, rfl, b422, q423⟩ := hq
        refine .inr ⟨_, rfl, ?_⟩
        rcases q423 with ⟨rfl, a424, a425, a426⟩ | ⟨rfl, a427⟩
        · have _q : True := trivial
          refine jx_if_eq (pc_q := 48) (tg := 62) rfl rfl rfl (by decide) (by decide) (fun h428 => ?_) (fun h428 => ?_)
          · have _q := h428
            exact absurd h428 (by omega)
          · have _q := h428
            refine jx_ld (pc_q := 49) (l_q := [(0, .ref 66), (1, .int (i32 (p))), (2, .int (i32 (w)))]) (st_q := [.int (i32 (w)), .int (i32 (0)), .int (i32 (1)), .ref 66]) rfl (jl_iloadn rfl) ?_
            refine jx_ar (pc_q := 50) (st_q := [.int (i32 (0)), .int (i32 (w)), .int (i32 (0)), .int (i32 (1)), .ref 66]) rfl rfl rfl rfl ?_
            refine jx_ar (pc_q := 52) (st_q := [.int (i32 (12)), .int (i32 (0)), .int (i32 (w)), .int (i32 (0)), .int (i32 (1)), .ref 66]) rfl rfl rfl rfl ?_
            refine jx_st (pc_q := 55) (as := [.int (i32 (w)), .int (i32 (0)), .int (i32 (12))]) (st := [.int (i32 (0)), .int (i32 (1)), .ref 66]) rfl rfl ⟨rfl, Nat.le_of_ble_eq_true rfl⟩ rfl rfl rfl (c_in (dd := d) (hd := by omega) (v := w) (a := 0) (b := 12)   (h_v := ⟨(Int.le_trans (by decide : (-2147483648 : Int) ≤ -2147483648) h_w.1), (Int.le_trans h_w.2 (by decide : (2147483647 : Int) ≤ 2147483647))⟩) (h_a := ⟨(by decide), (by decide)⟩) (h_b := ⟨(by decide), (by decide)⟩)  ) (fun o V_q hq => ?_)
            obtain ⟨r429, rfl, rfl, b430, q431⟩ := hq
            refine .inr ⟨_, rfl, ?_⟩
            rcases q431 with ⟨rfl, a432, a433⟩ | ⟨rfl, a434⟩
            · have _q : True := trivial
              refine jx_if_ne (pc_q := 58) (tg := 62) rfl rfl rfl (by decide) (by decide) (fun h435 => ?_) (fun h435 => ?_)
              · have _q := h435
                refine jx_ar (pc_q := 63) (st_q := [.int (i32 (0)), .int (i32 (0)), .int (i32 (1)), .ref 66]) rfl rfl rfl rfl ?_
                refine jx_vr (pc_q := 66) (as := [.int (i32 (1)), .int (i32 (0)), .int (i32 (0))]) (st := []) rfl rfl rfl rfl ⟨rfl, rfl, Nat.le_of_ble_eq_true rfl⟩ rfl rfl (c_refuse (dd := d) (hd := by omega) (hW := hW) (a := 1) (b := 0) (c := 0)   (h_a := ⟨(by decide), (by decide)⟩) (h_b := ⟨(by decide), (by decide)⟩) (h_c := ⟨(by decide), (by decide)⟩)  ) (fun o V_q hq => ?_)
                obtain ⟨G436, A437, r438, th2_439, rfl, rfl, hW440, hF441, b442, e443, q444⟩ := hq
                have hF445 := Fr_tr hF0 hF441 (Fr_sub (by decide)) (Fr_sub (by decide))
                have bth2_439 : (0 : Int) ≤ th2_439 ∧ th2_439 ≤ 4 := e443 ▸ hW440.1 0
                refine .inr ⟨_, rfl, ?_⟩
                rcases q444 with ⟨rfl, a446, a447⟩ | ⟨rfl, a448, a449, a450⟩ | ⟨rfl, a451, a452, a453, a454⟩ | ⟨rfl, a455, a456, a457, a458⟩
                · have _q : True := trivial
                  refine jx_if_eq (pc_q := 69) (tg := 71) rfl rfl rfl (by decide) (by decide) (fun h459 => ?_) (fun h459 => ?_)
                  · have _q := h459
                    exact absurd h459 (by omega)
                  · have _q := h459
                    refine jx_ar (pc_q := 70) (st_q := [.int (i32 (0))]) rfl rfl rfl rfl ?_
                    refine jx_rt (v := some (.int (i32 (0)))) rfl rfl rfl rfl rfl rfl ?_
                    exact ⟨_, _, _, rfl, rfl, hW440, hF445, by omega, trivial⟩
                · have _q : True := trivial
                  exfalso
                  omega
                · have _q : True := trivial
                  exfalso
                  omega
                · have _q : True := trivial
                  exfalso
                  omega
              · have _q := h435
                exact absurd h435 (by omega)
            · have _q : True := trivial
              refine jx_if_ne (pc_q := 58) (tg := 62) rfl rfl rfl (by decide) (by decide) (fun h460 => ?_) (fun h460 => ?_)
              · have _q := h460
                exact absurd h460 (by omega)
              · have _q := h460
                refine jx_ar (pc_q := 59) (st_q := [.int (i32 (1)), .int (i32 (0)), .int (i32 (1)), .ref 66]) rfl rfl rfl rfl ?_
                refine jx_go (tg := 63) rfl rfl ?_
                refine jx_vr (pc_q := 66) (as := [.int (i32 (1)), .int (i32 (0)), .int (i32 (1))]) (st := []) rfl rfl rfl rfl ⟨rfl, rfl, Nat.le_of_ble_eq_true rfl⟩ rfl rfl (c_refuse (dd := d) (hd := by omega) (hW := hW) (a := 1) (b := 0) (c := 1)   (h_a := ⟨(by decide), (by decide)⟩) (h_b := ⟨(by decide), (by decide)⟩) (h_c := ⟨(by decide), (by decide)⟩)  ) (fun o V_q hq => ?_)
                obtain ⟨G461, A462, r463, th2_464, rfl, rfl, hW465, hF466, b467, e468, q469⟩ := hq
                have hF470 := Fr_tr hF0 hF466 (Fr_sub (by decide)) (Fr_sub (by decide))
                have bth2_464 : (0 : Int) ≤ th2_464 ∧ th2_464 ≤ 4 := e468 ▸ hW465.1 0
                refine .inr ⟨_, rfl, ?_⟩
                rcases q469 with ⟨rfl, a471, a472⟩ | ⟨rfl, a473, a474, a475⟩ | ⟨rfl, a476, a477, a478, a479⟩ | ⟨rfl, a480, a481, a482, a483⟩
                · have _q : True := trivial
                  refine jx_if_eq (pc_q := 69) (tg := 71) rfl rfl rfl (by decide) (by decide) (fun h484 => ?_) (fun h484 => ?_)
                  · have _q := h484
                    exact absurd h484 (by omega)
                  · have _q := h484
                    refine jx_ar (pc_q := 70) (st_q := [.int (i32 (0))]) rfl rfl rfl rfl ?_
                    refine jx_rt (v := some (.int (i32 (0)))) rfl rfl rfl rfl rfl rfl ?_
                    exact ⟨_, _, _, rfl, rfl, hW465, hF470, by omega, trivial⟩
                · have _q : True := trivial
                  exfalso
                  omega
                · have _q : True := trivial
                  exfalso
                  omega
                · have _q : True := trivial
                  exfalso
                  omega
        · have _q : True := trivial
          refine jx_if_eq (pc_q := 48) (tg := 62) rfl rfl rfl (by decide) (by decide) (fun h485 => ?_) (fun h485 => ?_)
          · have _q := h485
            refine jx_ar (pc_q := 63) (st_q := [.int (i32 (0)), .int (i32 (0)), .int (i32 (1)), .ref 66]) rfl rfl rfl rfl ?_
            refine jx_vr (pc_q := 66) (as := [.int (i32 (1)), .int (i32 (0)), .int (i32 (0))]) (st := []) rfl rfl rfl rfl ⟨rfl, rfl, Nat.le_of_ble_eq_true rfl⟩ rfl rfl (c_refuse (dd := d) (hd := by omega) (hW := hW) (a := 1) (b := 0) (c := 0)   (h_a := ⟨(by decide), (by decide)⟩) (h_b := ⟨(by decide), (by decide)⟩) (h_c := ⟨(by decide), (by decide)⟩)  ) (fun o V_q hq => ?_)
            obtain ⟨G486, A487, r488, th2_489, rfl, rfl, hW490, hF491, b492, e493, q494⟩ := hq
            have hF495 := Fr_tr hF0 hF491 (Fr_sub (by decide)) (Fr_sub (by decide))
            have bth2_489 : (0 : Int) ≤ th2_489 ∧ th2_489 ≤ 4 := e493 ▸ hW490.1 0
            refine .inr ⟨_, rfl, ?_⟩
            rcases q494 with ⟨rfl, a496, a497⟩ | ⟨rfl, a498, a499, a500⟩ | ⟨rfl, a501, a502, a503, a504⟩ | ⟨rfl, a505, a506, a507, a508⟩
            · have _q : True := trivial
              refine jx_if_eq (pc_q := 69) (tg := 71) rfl rfl rfl (by decide) (by decide) (fun h509 => ?_) (fun h509 => ?_)
              · have _q := h509
                exact absurd h509 (by omega)
              · have _q := h509
                refine jx_ar (pc_q := 70) (st_q := [.int (i32 (0))]) rfl rfl rfl rfl ?_
                refine jx_rt (v := some (.int (i32 (0)))) rfl rfl rfl rfl rfl rfl ?_
                exact ⟨_, _, _, rfl, rfl, hW490, hF495, by omega, trivial⟩
            · have _q : True := trivial
              exfalso
              omega
            · have _q : True := trivial
              exfalso
              omega
            · have _q : True := trivial
              exfalso
              omega
          · have _q := h485
            exact absurd h485 (by omega)
    · have _q := h395
      refine jx_ld (pc_q := 21) (l_q := [(0, .ref 66), (1, .int (i32 (p))), (2, .int (i32 (w)))]) (st_q := [.ref 66, .int (i32 (1)), .ref 66]) rfl (jl_aloadn rfl) ?_
      refine jx_ld (pc_q := 22) (l_q := [(0, .ref 66), (1, .int (i32 (p))), (2, .int (i32 (w)))]) (st_q := [.int (i32 (p)), .ref 66, .int (i32 (1)), .ref 66]) rfl (jl_iloadn rfl) ?_
      refine jx_vr (pc_q := 25) (as := [.int (i32 (p))]) (st := [.int (i32 (1)), .ref 66]) rfl rfl rfl rfl ⟨rfl, rfl, Nat.le_of_ble_eq_true rfl⟩ rfl rfl (c_isCore2 (dd := d) (hd := by omega) (hW := hW) (p := p) (bp := bp) (e_bp := show A 36 (p).toNat = bp from (e_bp))  (h_p := ⟨(Int.le_trans (by decide : (-2147483648 : Int) ≤ -2147483648) h_p.1), (Int.le_trans h_p.2 (by decide : (2147483647 : Int) ≤ 2147483647))⟩)  ) (fun o V_q hq => ?_)
      obtain ⟨r510, rfl, rfl, b511, q512⟩ := hq
      refine .inr ⟨_, rfl, ?_⟩
      rcases q512 with ⟨rfl, a513, a514, a515⟩ | ⟨rfl, a516⟩
      · have _q : True := trivial
        refine jx_if_ne (pc_q := 28) (tg := 32) rfl rfl rfl (by decide) (by decide) (fun h517 => ?_) (fun h517 => ?_)
        · have _q := h517
          refine jx_ar (pc_q := 33) (st_q := [.int (i32 (0)), .int (i32 (1)), .ref 66]) rfl rfl rfl rfl ?_
          refine jx_ld (pc_q := 34) (l_q := [(0, .ref 66), (1, .int (i32 (p))), (2, .int (i32 (w)))]) (st_q := [.ref 66, .int (i32 (0)), .int (i32 (1)), .ref 66]) rfl (jl_aloadn rfl) ?_
          refine jr_get (pc_q := 37) (i := 58) (v := .int (i32 (pg))) rfl rfl (by decide) (rFv_eq (by decide) (show G 58 = pg from (e_pg))) rfl ?_
          refine jx_if_eq (pc_q := 40) (tg := 62) rfl rfl rfl (Int.le_trans (by decide : (-2147483648 : Int) ≤ 0) b_pg.1) (Int.le_trans b_pg.2 (by decide : (1 : Int) ≤ 2147483647)) (fun h518 => ?_) (fun h518 => ?_)
          · have _q := h518
            refine jx_ar (pc_q := 63) (st_q := [.int (i32 (0)), .int (i32 (0)), .int (i32 (1)), .ref 66]) rfl rfl rfl rfl ?_
            refine jx_vr (pc_q := 66) (as := [.int (i32 (1)), .int (i32 (0)), .int (i32 (0))]) (st := []) rfl rfl rfl rfl ⟨rfl, rfl, Nat.le_of_ble_eq_true rfl⟩ rfl rfl (c_refuse (dd := d) (hd := by omega) (hW := hW) (a := 1) (b := 0) (c := 0)   (h_a := ⟨(by decide), (by decide)⟩) (h_b := ⟨(by decide), (by decide)⟩) (h_c := ⟨(by decide), (by decide)⟩)  ) (fun o V_q hq => ?_)
            obtain ⟨G519, A520, r521, th2_522, rfl, rfl, hW523, hF524, b525, e526, q527⟩ := hq
            have hF528 := Fr_tr hF0 hF524 (Fr_sub (by decide)) (Fr_sub (by decide))
            have bth2_522 : (0 : Int) ≤ th2_522 ∧ th2_522 ≤ 4 := e526 ▸ hW523.1 0
            refine .inr ⟨_, rfl, ?_⟩
            rcases q527 with ⟨rfl, a529, a530⟩ | ⟨rfl, a531, a532, a533⟩ | ⟨rfl, a534, a535, a536, a537⟩ | ⟨rfl, a538, a539, a540, a541⟩
            · have _q : True := trivial
              refine jx_if_eq (pc_q := 69) (tg := 71) rfl rfl rfl (by decide) (by decide) (fun h542 => ?_) (fun h542 => ?_)
              · have _q := h542
                exact absurd h542 (by omega)
              · have _q := h542
                refine jx_ar (pc_q := 70) (st_q := [.int (i32 (0))]) rfl rfl rfl rfl ?_
                refine jx_rt (v := some (.int (i32 (0)))) rfl rfl rfl rfl rfl rfl ?_
                exact ⟨_, _, _, rfl, rfl, hW523, hF528, by omega, trivial⟩
            · have _q : True := trivial
              exfalso
              omega
            · have _q : True := trivial
              exfalso
              omega
            · have _q : True := trivial
              exfalso
              omega
          · have _q := h518
            refine jx_ld (pc_q := 41) (l_q := [(0, .ref 66), (1, .int (i32 (p))), (2, .int (i32 (w)))]) (st_q := [.ref 66, .int (i32 (0)), .int (i32 (1)), .ref 66]) rfl (jl_aloadn rfl) ?_
            refine jx_ld (pc_q := 42) (l_q := [(0, .ref 66), (1, .int (i32 (p))), (2, .int (i32 (w)))]) (st_q := [.int (i32 (p)), .ref 66, .int (i32 (0)), .int (i32 (1)), .ref 66]) rfl (jl_iloadn rfl) ?_
            refine jx_vr (pc_q := 45) (as := [.int (i32 (p))]) (st := [.int (i32 (0)), .int (i32 (1)), .ref 66]) rfl rfl rfl rfl ⟨rfl, rfl, Nat.le_of_ble_eq_true rfl⟩ rfl rfl (c_isCore2 (dd := d) (hd := by omega) (hW := hW) (p := p) (bp := bp) (e_bp := show A 36 (p).toNat = bp from (e_bp))  (h_p := ⟨(Int.le_trans (by decide : (-2147483648 : Int) ≤ -2147483648) h_p.1), (Int.le_trans h_p.2 (by decide : (2147483647 : Int) ≤ 2147483647))⟩)  ) (fun o V_q hq => ?_)
            obtain ⟨r543, rfl, rfl, b544, q545⟩ := hq
            refine .inr ⟨_, rfl, ?_⟩
            rcases q545 with ⟨rfl, a546, a547, a548⟩ | ⟨rfl, a549⟩
            · have _q : True := trivial
              refine jx_if_eq (pc_q := 48) (tg := 62) rfl rfl rfl (by decide) (by decide) (fun h550 => ?_) (fun h550 => ?_)
              · have _q := h550
                exact absurd h550 (by omega)
              · have _q := h550
                refine jx_ld (pc_q := 49) (l_q := [(0, .ref 66), (1, .int (i32 (p))), (2, .int (i32 (w)))]) (st_q := [.int (i32 (w)), .int (i32 (0)), .int (i32 (1)), .ref 66]) rfl (jl_iloadn rfl) ?_
                refine jx_ar (pc_q := 50) (st_q := [.int (i32 (0)), .int (i32 (w)), .int (i32 (0)), .int (i32 (1)), .ref 66]) rfl rfl rfl rfl ?_
                refine jx_ar (pc_q := 52) (st_q := [.int (i32 (12)), .int (i32 (0)), .int (i32 (w)), .int (i32 (0)), .int (i32 (1)), .ref 66]) rfl rfl rfl rfl ?_
                refine jx_st (pc_q := 55) (as := [.int (i32 (w)), .int (i32 (0)), .int (i32 (12))]) (st := [.int (i32 (0)), .int (i32 (1)), .ref 66]) rfl rfl ⟨rfl, Nat.le_of_ble_eq_true rfl⟩ rfl rfl rfl (c_in (dd := d) (hd := by omega) (v := w) (a := 0) (b := 12)   (h_v := ⟨(Int.le_trans (by decide : (-2147483648 : Int) ≤ -2147483648) h_w.1), (Int.le_trans h_w.2 (by decide : (2147483647 : Int) ≤ 2147483647))⟩) (h_a := ⟨(by decide), (by decide)⟩) (h_b := ⟨(by decide), (by decide)⟩)  ) (fun o V_q hq => ?_)
                obtain ⟨r551, rfl, rfl, b552, q553⟩ := hq
                refine .inr ⟨_, rfl, ?_⟩
                rcases q553 with ⟨rfl, a554, a555⟩ | ⟨rfl, a556⟩
                · have _q : True := trivial
                  refine jx_if_ne (pc_q := 58) (tg := 62) rfl rfl rfl (by decide) (by decide) (fun h557 => ?_) (fun h557 => ?_)
                  · have _q := h557
                    refine jx_ar (pc_q := 63) (st_q := [.int (i32 (0)), .int (i32 (0)), .int (i32 (1)), .ref 66]) rfl rfl rfl rfl ?_
                    refine jx_vr (pc_q := 66) (as := [.int (i32 (1)), .int (i32 (0)), .int (i32 (0))]) (st := []) rfl rfl rfl rfl ⟨rfl, rfl, Nat.le_of_ble_eq_true rfl⟩ rfl rfl (c_refuse (dd := d) (hd := by omega) (hW := hW) (a := 1) (b := 0) (c := 0)   (h_a := ⟨(by decide), (by decide)⟩) (h_b := ⟨(by decide), (by decide)⟩) (h_c := ⟨(by decide), (by decide)⟩)  ) (fun o V_q hq => ?_)
                    obtain ⟨G558, A559, r560, th2_561, rfl, rfl, hW562, hF563, b564, e565, q566⟩ := hq
                    have hF567 := Fr_tr hF0 hF563 (Fr_sub (by decide)) (Fr_sub (by decide))
                    have bth2_561 : (0 : Int) ≤ th2_561 ∧ th2_561 ≤ 4 := e565 ▸ hW562.1 0
                    refine .inr ⟨_, rfl, ?_⟩
                    rcases q566 with ⟨rfl, a568, a569⟩ | ⟨rfl, a570, a571, a572⟩ | ⟨rfl, a573, a574, a575, a576⟩ | ⟨rfl, a577, a578, a579, a580⟩
                    · have _q : True := trivial
                      refine jx_if_eq (pc_q := 69) (tg := 71) rfl rfl rfl (by decide) (by decide) (fun h581 => ?_) (fun h581 => ?_)
                      · have _q := h581
                        exact absurd h581 (by omega)
                      · have _q := h581
                        refine jx_ar (pc_q := 70) (st_q := [.int (i32 (0))]) rfl rfl rfl rfl ?_
                        refine jx_rt (v := some (.int (i32 (0)))) rfl rfl rfl rfl rfl rfl ?_
                        exact ⟨_, _, _, rfl, rfl, hW562, hF567, by omega, trivial⟩
                    · have _q : True := trivial
                      exfalso
                      omega
                    · have _q : True := trivial
                      exfalso
                      omega
                    · have _q : True := trivial
                      exfalso
                      omega
                  · have _q := h557
                    exact absurd h557 (by omega)
                · have _q : True := trivial
                  refine jx_if_ne (pc_q := 58) (tg := 62) rfl rfl rfl (by decide) (by decide) (fun h582 => ?_) (fun h582 => ?_)
                  · have _q := h582
                    exact absurd h582 (by omega)
                  · have _q := h582
                    refine jx_ar (pc_q := 59) (st_q := [.int (i32 (1)), .int (i32 (0)), .int (i32 (1)), .ref 66]) rfl rfl rfl rfl ?_
                    refine jx_go (tg := 63) rfl rfl ?_
                    refine jx_vr (pc_q := 66) (as := [.int (i32 (1)), .int (i32 (0)), .int (i32 (1))]) (st := []) rfl rfl rfl rfl ⟨rfl, rfl, Nat.le_of_ble_eq_true rfl⟩ rfl rfl (c_refuse (dd := d) (hd := by omega) (hW := hW) (a := 1) (b := 0) (c := 1)   (h_a := ⟨(by decide), (by decide)⟩) (h_b := ⟨(by decide), (by decide)⟩) (h_c := ⟨(by decide), (by decide)⟩)  ) (fun o V_q hq => ?_)
                    obtain ⟨G583, A584, r585, th2_586, rfl, rfl, hW587, hF588, b589, e590, q591⟩ := hq
                    have hF592 := Fr_tr hF0 hF588 (Fr_sub (by decide)) (Fr_sub (by decide))
                    have bth2_586 : (0 : Int) ≤ th2_586 ∧ th2_586 ≤ 4 := e590 ▸ hW587.1 0
                    refine .inr ⟨_, rfl, ?_⟩
                    rcases q591 with ⟨rfl, a593, a594⟩ | ⟨rfl, a595, a596, a597⟩ | ⟨rfl, a598, a599, a600, a601⟩ | ⟨rfl, a602, a603, a604, a605⟩
                    · have _q : True := trivial
                      refine jx_if_eq (pc_q := 69) (tg := 71) rfl rfl rfl (by decide) (by decide) (fun h606 => ?_) (fun h606 => ?_)
                      · have _q := h606
                        exact absurd h606 (by omega)
                      · have _q := h606
                        refine jx_ar (pc_q := 70) (st_q := [.int (i32 (0))]) rfl rfl rfl rfl ?_
                        refine jx_rt (v := some (.int (i32 (0)))) rfl rfl rfl rfl rfl rfl ?_
                        exact ⟨_, _, _, rfl, rfl, hW587, hF592, by omega, trivial⟩
                    · have _q : True := trivial
                      exfalso
                      omega
                    · have _q : True := trivial
                      exfalso
                      omega
                    · have _q : True := trivial
                      exfalso
                      omega
            · have _q : True := trivial
              refine jx_if_eq (pc_q := 48) (tg := 62) rfl rfl rfl (by decide) (by decide) (fun h607 => ?_) (fun h607 => ?_)
              · have _q := h607
                refine jx_ar (pc_q := 63) (st_q := [.int (i32 (0)), .int (i32 (0)), .int (i32 (1)), .ref 66]) rfl rfl rfl rfl ?_
                refine jx_vr (pc_q := 66) (as := [.int (i32 (1)), .int (i32 (0)), .int (i32 (0))]) (st := []) rfl rfl rfl rfl ⟨rfl, rfl, Nat.le_of_ble_eq_true rfl⟩ rfl rfl (c_refuse (dd := d) (hd := by omega) (hW := hW) (a := 1) (b := 0) (c := 0)   (h_a := ⟨(by decide), (by decide)⟩) (h_b := ⟨(by decide), (by decide)⟩) (h_c := ⟨(by decide), (by decide)⟩)  ) (fun o V_q hq => ?_)
                obtain ⟨G608, A609, r610, th2_611, rfl, rfl, hW612, hF613, b614, e615, q616⟩ := hq
                have hF617 := Fr_tr hF0 hF613 (Fr_sub (by decide)) (Fr_sub (by decide))
                have bth2_611 : (0 : Int) ≤ th2_611 ∧ th2_611 ≤ 4 := e615 ▸ hW612.1 0
                refine .inr ⟨_, rfl, ?_⟩
                rcases q616 with ⟨rfl, a618, a619⟩ | ⟨rfl, a620, a621, a622⟩ | ⟨rfl, a623, a624, a625, a626⟩ | ⟨rfl, a627, a628, a629, a630⟩
                · have _q : True := trivial
                  refine jx_if_eq (pc_q := 69) (tg := 71) rfl rfl rfl (by decide) (by decide) (fun h631 => ?_) (fun h631 => ?_)
                  · have _q := h631
                    exact absurd h631 (by omega)
                  · have _q := h631
                    refine jx_ar (pc_q := 70) (st_q := [.int (i32 (0))]) rfl rfl rfl rfl ?_
                    refine jx_rt (v := some (.int (i32 (0)))) rfl rfl rfl rfl rfl rfl ?_
                    exact ⟨_, _, _, rfl, rfl, hW612, hF617, by omega, trivial⟩
                · have _q : True := trivial
                  exfalso
                  omega
                · have _q : True := trivial
                  exfalso
                  omega
                · have _q : True := trivial
                  exfalso
                  omega
              · have _q := h607
                exact absurd h607 (by omega)
        · have _q := h517
          exact absurd h517 (by omega)
      · have _q : True := trivial
        refine jx_if_ne (pc_q := 28) (tg := 32) rfl rfl rfl (by decide) (by decide) (fun h632 => ?_) (fun h632 => ?_)
        · have _q := h632
          exact absurd h632 (by omega)
        · have _q := h632
          refine jx_ar (pc_q := 29) (st_q := [.int (i32 (1)), .int (i32 (1)), .ref 66]) rfl rfl rfl rfl ?_
          refine jx_go (tg := 33) rfl rfl ?_
          refine jx_ld (pc_q := 34) (l_q := [(0, .ref 66), (1, .int (i32 (p))), (2, .int (i32 (w)))]) (st_q := [.ref 66, .int (i32 (1)), .int (i32 (1)), .ref 66]) rfl (jl_aloadn rfl) ?_
          refine jr_get (pc_q := 37) (i := 58) (v := .int (i32 (pg))) rfl rfl (by decide) (rFv_eq (by decide) (show G 58 = pg from (e_pg))) rfl ?_
          refine jx_if_eq (pc_q := 40) (tg := 62) rfl rfl rfl (Int.le_trans (by decide : (-2147483648 : Int) ≤ 0) b_pg.1) (Int.le_trans b_pg.2 (by decide : (1 : Int) ≤ 2147483647)) (fun h633 => ?_) (fun h633 => ?_)
          · have _q := h633
            refine jx_ar (pc_q := 63) (st_q := [.int (i32 (0)), .int (i32 (1)), .int (i32 (1)), .ref 66]) rfl rfl rfl rfl ?_
            refine jx_vr (pc_q := 66) (as := [.int (i32 (1)), .int (i32 (1)), .int (i32 (0))]) (st := []) rfl rfl rfl rfl ⟨rfl, rfl, Nat.le_of_ble_eq_true rfl⟩ rfl rfl (c_refuse (dd := d) (hd := by omega) (hW := hW) (a := 1) (b := 1) (c := 0)   (h_a := ⟨(by decide), (by decide)⟩) (h_b := ⟨(by decide), (by decide)⟩) (h_c := ⟨(by decide), (by decide)⟩)  ) (fun o V_q hq => ?_)
            obtain ⟨G634, A635, r636, th2_637, rfl, rfl, hW638, hF639, b640, e641, q642⟩ := hq
            have hF643 := Fr_tr hF0 hF639 (Fr_sub (by decide)) (Fr_sub (by decide))
            have bth2_637 : (0 : Int) ≤ th2_637 ∧ th2_637 ≤ 4 := e641 ▸ hW638.1 0
            refine .inr ⟨_, rfl, ?_⟩
            rcases q642 with ⟨rfl, a644, a645⟩ | ⟨rfl, a646, a647, a648⟩ | ⟨rfl, a649, a650, a651, a652⟩ | ⟨rfl, a653, a654, a655, a656⟩
            · have _q : True := trivial
              refine jx_if_eq (pc_q := 69) (tg := 71) rfl rfl rfl (by decide) (by decide) (fun h657 => ?_) (fun h657 => ?_)
              · have _q := h657
                exact absurd h657 (by omega)
              · have _q := h657
                refine jx_ar (pc_q := 70) (st_q := [.int (i32 (0))]) rfl rfl rfl rfl ?_
                refine jx_rt (v := some (.int (i32 (0)))) rfl rfl rfl rfl rfl rfl ?_
                exact ⟨_, _, _, rfl, rfl, hW638, hF643, by omega, trivial⟩
            · have _q : True := trivial
              exfalso
              omega
            · have _q : True := trivial
              exfalso
              omega
            · have _q : True := trivial
              exfalso
              omega
          · have _q := h633
            refine jx_ld (pc_q := 41) (l_q := [(0, .ref 66), (1, .int (i32 (p))), (2, .int (i32 (w)))]) (st_q := [.ref 66, .int (i32 (1)), .int (i32 (1)), .ref 66]) rfl (jl_aloadn rfl) ?_
            refine jx_ld (pc_q := 42) (l_q := [(0, .ref 66), (1, .int (i32 (p))), (2, .int (i32 (w)))]) (st_q := [.int (i32 (p)), .ref 66, .int (i32 (1)), .int (i32 (1)), .ref 66]) rfl (jl_iloadn rfl) ?_
            refine jx_vr (pc_q := 45) (as := [.int (i32 (p))]) (st := [.int (i32 (1)), .int (i32 (1)), .ref 66]) rfl rfl rfl rfl ⟨rfl, rfl, Nat.le_of_ble_eq_true rfl⟩ rfl rfl (c_isCore2 (dd := d) (hd := by omega) (hW := hW) (p := p) (bp := bp) (e_bp := show A 36 (p).toNat = bp from (e_bp))  (h_p := ⟨(Int.le_trans (by decide : (-2147483648 : Int) ≤ -2147483648) h_p.1), (Int.le_trans h_p.2 (by decide : (2147483647 : Int) ≤ 2147483647))⟩)  ) (fun o V_q hq => ?_)
            obtain ⟨r658, rfl, rfl, b659, q660⟩ := hq
            refine .inr ⟨_, rfl, ?_⟩
            rcases q660 with ⟨rfl, a661, a662, a663⟩ | ⟨rfl, a664⟩
            · have _q : True := trivial
              refine jx_if_eq (pc_q := 48) (tg := 62) rfl rfl rfl (by decide) (by decide) (fun h665 => ?_) (fun h665 => ?_)
              · have _q := h665
                exact absurd h665 (by omega)
              · have _q := h665
                refine jx_ld (pc_q := 49) (l_q := [(0, .ref 66), (1, .int (i32 (p))), (2, .int (i32 (w)))]) (st_q := [.int (i32 (w)), .int (i32 (1)), .int (i32 (1)), .ref 66]) rfl (jl_iloadn rfl) ?_
                refine jx_ar (pc_q := 50) (st_q := [.int (i32 (0)), .int (i32 (w)), .int (i32 (1)), .int (i32 (1)), .ref 66]) rfl rfl rfl rfl ?_
                refine jx_ar (pc_q := 52) (st_q := [.int (i32 (12)), .int (i32 (0)), .int (i32 (w)), .int (i32 (1)), .int (i32 (1)), .ref 66]) rfl rfl rfl rfl ?_
                refine jx_st (pc_q := 55) (as := [.int (i32 (w)), .int (i32 (0)), .int (i32 (12))]) (st := [.int (i32 (1)), .int (i32 (1)), .ref 66]) rfl rfl ⟨rfl, Nat.le_of_ble_eq_true rfl⟩ rfl rfl rfl (c_in (dd := d) (hd := by omega) (v := w) (a := 0) (b := 12)   (h_v := ⟨(Int.le_trans (by decide : (-2147483648 : Int) ≤ -2147483648) h_w.1), (Int.le_trans h_w.2 (by decide : (2147483647 : Int) ≤ 2147483647))⟩) (h_a := ⟨(by decide), (by decide)⟩) (h_b := ⟨(by decide), (by decide)⟩)  ) (fun o V_q hq => ?_)
                obtain ⟨r666, rfl, rfl, b667, q668⟩ := hq
                refine .inr ⟨_, rfl, ?_⟩
                rcases q668 with ⟨rfl, a669, a670⟩ | ⟨rfl, a671⟩
                · have _q : True := trivial
                  refine jx_if_ne (pc_q := 58) (tg := 62) rfl rfl rfl (by decide) (by decide) (fun h672 => ?_) (fun h672 => ?_)
                  · have _q := h672
                    refine jx_ar (pc_q := 63) (st_q := [.int (i32 (0)), .int (i32 (1)), .int (i32 (1)), .ref 66]) rfl rfl rfl rfl ?_
                    refine jx_vr (pc_q := 66) (as := [.int (i32 (1)), .int (i32 (1)), .int (i32 (0))]) (st := []) rfl rfl rfl rfl ⟨rfl, rfl, Nat.le_of_ble_eq_true rfl⟩ rfl rfl (c_refuse (dd := d) (hd := by omega) (hW := hW) (a := 1) (b := 1) (c := 0)   (h_a := ⟨(by decide), (by decide)⟩) (h_b := ⟨(by decide), (by decide)⟩) (h_c := ⟨(by decide), (by decide)⟩)  ) (fun o V_q hq => ?_)
                    obtain ⟨G673, A674, r675, th2_676, rfl, rfl, hW677, hF678, b679, e680, q681⟩ := hq
                    have hF682 := Fr_tr hF0 hF678 (Fr_sub (by decide)) (Fr_sub (by decide))
                    have bth2_676 : (0 : Int) ≤ th2_676 ∧ th2_676 ≤ 4 := e680 ▸ hW677.1 0
                    refine .inr ⟨_, rfl, ?_⟩
                    rcases q681 with ⟨rfl, a683, a684⟩ | ⟨rfl, a685, a686, a687⟩ | ⟨rfl, a688, a689, a690, a691⟩ | ⟨rfl, a692, a693, a694, a695⟩
                    · have _q : True := trivial
                      refine jx_if_eq (pc_q := 69) (tg := 71) rfl rfl rfl (by decide) (by decide) (fun h696 => ?_) (fun h696 => ?_)
                      · have _q := h696
                        exact absurd h696 (by omega)
                      · have _q := h696
                        refine jx_ar (pc_q := 70) (st_q := [.int (i32 (0))]) rfl rfl rfl rfl ?_
                        refine jx_rt (v := some (.int (i32 (0)))) rfl rfl rfl rfl rfl rfl ?_
                        exact ⟨_, _, _, rfl, rfl, hW677, hF682, by omega, trivial⟩
                    · have _q : True := trivial
                      exfalso
                      omega
                    · have _q : True := trivial
                      exfalso
                      omega
                    · have _q : True := trivial
                      exfalso
                      omega
                  · have _q := h672
                    exact absurd h672 (by omega)
                · have _q : True := trivial
                  refine jx_if_ne (pc_q := 58) (tg := 62) rfl rfl rfl (by decide) (by decide) (fun h697 => ?_) (fun h697 => ?_)
                  · have _q := h697
                    exact absurd h697 (by omega)
                  · have _q := h697
                    refine jx_ar (pc_q := 59) (st_q := [.int (i32 (1)), .int (i32 (1)), .int (i32 (1)), .ref 66]) rfl rfl rfl rfl ?_
                    refine jx_go (tg := 63) rfl rfl ?_
                    refine jx_vr (pc_q := 66) (as := [.int (i32 (1)), .int (i32 (1)), .int (i32 (1))]) (st := []) rfl rfl rfl rfl ⟨rfl, rfl, Nat.le_of_ble_eq_true rfl⟩ rfl rfl (c_refuse (dd := d) (hd := by omega) (hW := hW) (a := 1) (b := 1) (c := 1)   (h_a := ⟨(by decide), (by decide)⟩) (h_b := ⟨(by decide), (by decide)⟩) (h_c := ⟨(by decide), (by decide)⟩)  ) (fun o V_q hq => ?_)
                    obtain ⟨G698, A699, r700, th2_701, rfl, rfl, hW702, hF703, b704, e705, q706⟩ := hq
                    have hF707 := Fr_tr hF0 hF703 (Fr_sub (by decide)) (Fr_sub (by decide))
                    have bth2_701 : (0 : Int) ≤ th2_701 ∧ th2_701 ≤ 4 := e705 ▸ hW702.1 0
                    refine .inr ⟨_, rfl, ?_⟩
                    rcases q706 with ⟨rfl, a708, a709⟩ | ⟨rfl, a710, a711, a712⟩ | ⟨rfl, a713, a714, a715, a716⟩ | ⟨rfl, a717, a718, a719, a720⟩
                    · have _q : True := trivial
                      refine jx_if_eq (pc_q := 69) (tg := 71) rfl rfl rfl (by decide) (by decide) (fun h721 => ?_) (fun h721 => ?_)
                      · have _q := h721
                        exact absurd h721 (by omega)
                      · have _q := h721
                        refine jx_ar (pc_q := 70) (st_q := [.int (i32 (0))]) rfl rfl rfl rfl ?_
                        refine jx_rt (v := some (.int (i32 (0)))) rfl rfl rfl rfl rfl rfl ?_
                        exact ⟨_, _, _, rfl, rfl, hW702, hF707, by omega, trivial⟩
                    · have _q : True := trivial
                      exfalso
                      omega
                    · have _q : True := trivial
                      exfalso
                      omega
                    · have _q : True := trivial
                      exfalso
                      omega
            · have _q : True := trivial
              refine jx_if_eq (pc_q := 48) (tg := 62) rfl rfl rfl (by decide) (by decide) (fun h722 => ?_) (fun h722 => ?_)
              · have _q := h722
                refine jx_ar (pc_q := 63) (st_q := [.int (i32 (0)), .int (i32 (1)), .int (i32 (1)), .ref 66]) rfl rfl rfl rfl ?_
                refine jx_vr (pc_q := 66) (as := [.int (i32 (1)), .int (i32 (1)), .int (i32 (0))]) (st := []) rfl rfl rfl rfl ⟨rfl, rfl, Nat.le_of_ble_eq_true rfl⟩ rfl rfl (c_refuse (dd := d) (hd := by omega) (hW := hW) (a := 1) (b := 1) (c := 0)   (h_a := ⟨(by decide), (by decide)⟩) (h_b := ⟨(by decide), (by decide)⟩) (h_c := ⟨(by decide), (by decide)⟩)  ) (fun o V_q hq => ?_)
                obtain ⟨G723, A724, r725, th2_726, rfl, rfl, hW727, hF728, b729, e730, q731⟩ := hq
                have hF732 := Fr_tr hF0 hF728 (Fr_sub (by decide)) (Fr_sub (by decide))
                have bth2_726 : (0 : Int) ≤ th2_726 ∧ th2_726 ≤ 4 := e730 ▸ hW727.1 0
                refine .inr ⟨_, rfl, ?_⟩
                rcases q731 with ⟨rfl, a733, a734⟩ | ⟨rfl, a735, a736, a737⟩ | ⟨rfl, a738, a739, a740, a741⟩ | ⟨rfl, a742, a743, a744, a745⟩
                · have _q : True := trivial
                  refine jx_if_eq (pc_q := 69) (tg := 71) rfl rfl rfl (by decide) (by decide) (fun h746 => ?_) (fun h746 => ?_)
                  · have _q := h746
                    exact absurd h746 (by omega)
                  · have _q := h746
                    refine jx_ar (pc_q := 70) (st_q := [.int (i32 (0))]) rfl rfl rfl rfl ?_
                    refine jx_rt (v := some (.int (i32 (0)))) rfl rfl rfl rfl rfl rfl ?_
                    exact ⟨_, _, _, rfl, rfl, hW727, hF732, by omega, trivial⟩
                · have _q : True := trivial
                  exfalso
                  omega
                · have _q : True := trivial
                  exfalso
                  omega
                · have _q : True := trivial
                  exfalso
                  omega
              · have _q := h722
                exact absurd h722 (by omega)
set_option maxRecDepth 20000 in
set_option maxHeartbeats 4000000 in
theorem c_ready_at_120 {X : jX} {d : Nat} {c0 c1 : jC} {G : Nat → Int} {A : Nat → Nat → Int} {T : jH} {p i : Int} {pg lk bp : Int} (hd : 3 ≤ d + 1) (hW : Wk G A) (e_pg : G 58 = pg) (e_lk : G 52 = lk) (e_bp : A 36 (p).toNat = bp) (h_p : (-2147483648 : Int) ≤ p ∧ p ≤ 2147483647) (h_i : (-2147483648 : Int) ≤ i ∧ i ≤ 2147483647) (p_0 : (pg) = 1 → GZ (lk) A) : ∀ (L : jL) (Gx : Nat → Int) (Ax : Nat → Nat → Int) (hi : Int), jGet L 0 = some (.ref 66) → jGet L 1 = some (.int (i32 (p))) → jGet L 2 = some (.int (i32 (i))) → jGet L 4 = some (.int (i32 hi)) → Wk Gx Ax → Fr [0] [] G A Gx Ax → ((-2147483648 : Int) ≤ hi ∧ hi ≤ 2147483647) → (0 ≤ p) → (p ≤ 5) → (0 ≤ hi) → (hi ≤ 1050) → (0 ≤ i) → (i ≤ hi + 1049) → wj X d jm409 (120, L, [], rV c0 c1 Gx Ax T) (fun o V_q => ∃ (G_q : Nat → Int) (A_q : Nat → Nat → Int) (r : Int), V_q = rV c0 c1 G_q A_q T ∧ o = .inl (some (.int (i32 r))) ∧ Wk G_q A_q ∧ Fr [0] [] G A G_q A_q ∧ ((-2147483648 : Int) ≤ r ∧ r ≤ 2147483647) ∧ True) := by
  have hF0 : Fr [0] [] G A G A := Fr_rf
  have b_pg : (0 : Int) ≤ pg ∧ pg ≤ 1 := e_pg ▸ hW.1 58
  have b_lk : (0 : Int) ≤ lk ∧ lk ≤ 12 := e_lk ▸ hW.1 52
  have b_bp : (-2147483648 : Int) ≤ bp ∧ bp ≤ 2147483647 := e_bp ▸ hW.2 36 _
  intro L Gx Ax hi gL_0 gL_1 gL_2 gL_4 hWx hFx rx_hi iv_0 iv_1 iv_2 iv_3 iv_4 iv_5
  refine jx_ld (pc_q := 121) (l_q := L) (st_q := [.int (i32 (i))]) rfl (jl_iloadn gL_2) ?_
  refine jx_ld (pc_q := 123) (l_q := L) (st_q := [.int (i32 (hi)), .int (i32 (i))]) rfl (jl_iload gL_4) ?_
  refine jx_icmp_ge (pc_q := 126) (tg := 141) rfl rfl rfl (Int.le_trans (by decide : (-2147483648 : Int) ≤ -2147483648) h_i.1) (Int.le_trans h_i.2 (by decide : (2147483647 : Int) ≤ 2147483647)) (Int.le_trans (by decide : (-2147483648 : Int) ≤ -2147483648) rx_hi.1) (Int.le_trans rx_hi.2 (by decide : (2147483647 : Int) ≤ 2147483647)) (fun h1 => ?_) (fun h1 => ?_)
  · have _q := h1
    refine jx_ld (pc_q := 142) (l_q := L) (st_q := [.ref 66]) rfl (jl_aloadn gL_0) ?_
    refine jr_get (pc_q := 145) (i := 102) (v := .ref 138) rfl rfl (by decide) rfl rfl ?_
    refine jx_ar (pc_q := 148) (st_q := [.int (i32 (1100)), .ref 138]) rfl rfl rfl rfl ?_
    refine jx_ar (pc_q := 149) (st_q := [.int (i32 (2)), .int (i32 (1100)), .ref 138]) rfl rfl rfl rfl ?_
    refine jx_ld (pc_q := 150) (l_q := L) (st_q := [.int (i32 (p)), .int (i32 (2)), .int (i32 (1100)), .ref 138]) rfl (jl_iloadn gL_1) ?_
    refine jx_mul (pc_q := 151) rfl rfl ?_
    refine jx_ar (pc_q := 152) (st_q := [.int (i32 (1)), .int (i32 ((2 * p))), .int (i32 (1100)), .ref 138]) rfl rfl rfl rfl ?_
    refine jx_add (pc_q := 153) rfl rfl ?_
    refine jx_mul (pc_q := 154) rfl rfl ?_
    refine jx_ld (pc_q := 155) (l_q := L) (st_q := [.int (i32 (i)), .int (i32 ((1100 * ((2 * p) + 1)))), .ref 138]) rfl (jl_iloadn gL_2) ?_
    refine jx_add (pc_q := 156) rfl rfl ?_
    refine jx_ld (pc_q := 158) (l_q := L) (st_q := [.int (i32 (hi)), .int (i32 (((1100 * ((2 * p) + 1)) + i))), .ref 138]) rfl (jl_iload gL_4) ?_
    refine jx_sub (pc_q := 159) rfl rfl ?_
    have b2 : (-2147483648 : Int) ≤ A 71 ((((1100 * ((2 * p) + 1)) + i) - hi)).toNat ∧ A 71 ((((1100 * ((2 * p) + 1)) + i) - hi)).toNat ≤ 2147483647 := hW.2 71 _
    refine jr_ldv (pc_q := 160) (i := 71) (m := 13200) (z := (((1100 * ((2 * p) + 1)) + i) - hi)) (y := A 71 ((((1100 * ((2 * p) + 1)) + i) - hi)).toNat) rfl (by decide) rfl (by decide) (by omega) (by omega) rfl (show Ax 71 ((((1100 * ((2 * p) + 1)) + i) - hi)).toNat = A 71 ((((1100 * ((2 * p) + 1)) + i) - hi)).toNat from (congrFun (hFx.2 71 rfl) _)) ?_
    refine jx_rt (v := some (.int (i32 (A 71 ((((1100 * ((2 * p) + 1)) + i) - hi)).toNat)))) rfl rfl rfl rfl rfl rfl ?_
    exact ⟨_, _, _, rfl, rfl, hWx, hFx, by omega, trivial⟩
  · have _q := h1
    refine jx_ld (pc_q := 127) (l_q := L) (st_q := [.ref 66]) rfl (jl_aloadn gL_0) ?_
    refine jr_get (pc_q := 130) (i := 102) (v := .ref 138) rfl rfl (by decide) rfl rfl ?_
    refine jx_ar (pc_q := 133) (st_q := [.int (i32 (2200)), .ref 138]) rfl rfl rfl rfl ?_
    refine jx_ld (pc_q := 134) (l_q := L) (st_q := [.int (i32 (p)), .int (i32 (2200)), .ref 138]) rfl (jl_iloadn gL_1) ?_
    refine jx_mul (pc_q := 135) rfl rfl ?_
    refine jx_ld (pc_q := 136) (l_q := L) (st_q := [.int (i32 (i)), .int (i32 ((2200 * p))), .ref 138]) rfl (jl_iloadn gL_2) ?_
    refine jx_add (pc_q := 137) rfl rfl ?_
    have b3 : (-2147483648 : Int) ≤ A 71 (((2200 * p) + i)).toNat ∧ A 71 (((2200 * p) + i)).toNat ≤ 2147483647 := hW.2 71 _
    refine jr_ldv (pc_q := 138) (i := 71) (m := 13200) (z := ((2200 * p) + i)) (y := A 71 (((2200 * p) + i)).toNat) rfl (by decide) rfl (by decide) (by omega) (by omega) rfl (show Ax 71 (((2200 * p) + i)).toNat = A 71 (((2200 * p) + i)).toNat from (congrFun (hFx.2 71 rfl) _)) ?_
    refine jx_go (tg := 160) rfl rfl ?_
    refine jx_rt (v := some (.int (i32 (A 71 (((2200 * p) + i)).toNat)))) rfl rfl rfl rfl rfl rfl ?_
    exact ⟨_, _, _, rfl, rfl, hWx, hFx, by omega, trivial⟩
set_option maxRecDepth 20000 in
set_option maxHeartbeats 4000000 in
theorem c_ready {X : jX} {dd : Nat} {c0 c1 : jC} {G : Nat → Int} {A : Nat → Nat → Int} {T : jH} {p i : Int} {pg lk bp : Int} (hd : 3 ≤ dd) (hW : Wk G A) (e_pg : G 58 = pg) (e_lk : G 52 = lk) (e_bp : A 36 (p).toNat = bp) (h_p : (-2147483648 : Int) ≤ p ∧ p ≤ 2147483647) (h_i : (-2147483648 : Int) ≤ i ∧ i ≤ 2147483647) (p_0 : (pg) = 1 → GZ (lk) A) : wk X dd 409 [.ref 66, .int (i32 p), .int (i32 i)] (rV c0 c1 G A T) (fun o V_q => ∃ (G_q : Nat → Int) (A_q : Nat → Nat → Int) (r : Int), V_q = rV c0 c1 G_q A_q T ∧ o = .inl (some (.int (i32 r))) ∧ Wk G_q A_q ∧ Fr [0] [] G A G_q A_q ∧ ((-2147483648 : Int) ≤ r ∧ r ≤ 2147483647) ∧ True) := by
  obtain ⟨d, rfl⟩ : ∃ d, dd = d + 1 := ⟨dd - 1, by omega⟩
  refine wk_of (e := jm409) rfl (Nat.le_of_ble_eq_true rfl) ?_
  show wj X d jm409 (0, [(0, .ref 66), (1, .int (i32 (p))), (2, .int (i32 (i)))], [], rV c0 c1 G A T) _
  have hF0 : Fr [0] [] G A G A := Fr_rf
  have b_pg : (0 : Int) ≤ pg ∧ pg ≤ 1 := e_pg ▸ hW.1 58
  have b_lk : (0 : Int) ≤ lk ∧ lk ≤ 12 := e_lk ▸ hW.1 52
  have b_bp : (-2147483648 : Int) ≤ bp ∧ bp ≤ 2147483647 := e_bp ▸ hW.2 36 _
  refine jx_ld (pc_q := 1) (l_q := [(0, .ref 66), (1, .int (i32 (p))), (2, .int (i32 (i)))]) (st_q := [.ref 66]) rfl (jl_aloadn rfl) ?_
  refine jr_get (pc_q := 4) (i := 58) (v := .int (i32 (pg))) rfl rfl (by decide) (rFv_eq (by decide) (show G 58 = pg from (e_pg))) rfl ?_
  refine jx_if_eq (pc_q := 7) (tg := 19) rfl rfl rfl (Int.le_trans (by decide : (-2147483648 : Int) ≤ 0) b_pg.1) (Int.le_trans b_pg.2 (by decide : (1 : Int) ≤ 2147483647)) (fun h4 => ?_) (fun h4 => ?_)
  · have _q := h4
    refine jx_ar (pc_q := 20) (st_q := [.int (i32 (0))]) rfl rfl rfl rfl ?_
    refine jx_ld (pc_q := 21) (l_q := jSto1 [(0, .ref 66), (1, .int (i32 (p))), (2, .int (i32 (i)))] 3 (.int (i32 (0)))) (st_q := []) rfl rfl ?_
    obtain ⟨L5, eL5⟩ : ∃ q, q = jSto1 [(0, .ref 66), (1, .int (i32 (p))), (2, .int (i32 (i)))] 3 (.int (i32 (0))) := ⟨_, rfl⟩
    rw [← eL5]
    have gL5_0 : jGet L5 0 = some (.ref 66) := eL5 ▸ jg_ne (by decide) (rfl : jGet [(0, .ref 66), (1, .int (i32 (p))), (2, .int (i32 (i)))] 0 = some (.ref 66)) rfl
    have gL5_1 : jGet L5 1 = some (.int (i32 (p))) := eL5 ▸ jg_ne (by decide) (rfl : jGet [(0, .ref 66), (1, .int (i32 (p))), (2, .int (i32 (i)))] 1 = some (.int (i32 (p)))) rfl
    have gL5_2 : jGet L5 2 = some (.int (i32 (i))) := eL5 ▸ jg_ne (by decide) (rfl : jGet [(0, .ref 66), (1, .int (i32 (p))), (2, .int (i32 (i)))] 2 = some (.int (i32 (i)))) rfl
    have gL5_3 : jGet L5 3 = some (.int (i32 (0))) := eL5 ▸ jg_eq
    refine jx_ld (pc_q := 22) (l_q := L5) (st_q := [.int (i32 (0))]) rfl (jl_iloadn gL5_3) ?_
    refine jx_if_eq (pc_q := 25) (tg := 36) rfl rfl rfl (by decide) (by decide) (fun h6 => ?_) (fun h6 => ?_)
    · have _q := h6
      refine jx_ar (pc_q := 37) (st_q := [.int (i32 (0))]) rfl rfl rfl rfl ?_
      refine jx_ld (pc_q := 39) (l_q := jSto1 L5 4 (.int (i32 (0)))) (st_q := []) rfl rfl ?_
      obtain ⟨L7, eL7⟩ : ∃ q, q = jSto1 L5 4 (.int (i32 (0))) := ⟨_, rfl⟩
      rw [← eL7]
      have gL7_0 : jGet L7 0 = some (.ref 66) := eL7 ▸ jg_ne (by decide) gL5_0 rfl
      have gL7_1 : jGet L7 1 = some (.int (i32 (p))) := eL7 ▸ jg_ne (by decide) gL5_1 rfl
      have gL7_2 : jGet L7 2 = some (.int (i32 (i))) := eL7 ▸ jg_ne (by decide) gL5_2 rfl
      have gL7_3 : jGet L7 3 = some (.int (i32 (0))) := eL7 ▸ jg_ne (by decide) gL5_3 rfl
      have gL7_4 : jGet L7 4 = some (.int (i32 (0))) := eL7 ▸ jg_eq
      refine jx_ld (pc_q := 40) (l_q := L7) (st_q := [.int (i32 (0))]) rfl (jl_iloadn gL7_3) ?_
      refine jx_if_eq (pc_q := 43) (tg := 59) rfl rfl rfl (by decide) (by decide) (fun h8 => ?_) (fun h8 => ?_)
      · have _q := h8
        refine jx_ar (pc_q := 60) (st_q := [.int (i32 (0))]) rfl rfl rfl rfl ?_
        refine jx_ld (pc_q := 62) (l_q := jSto1 L7 5 (.int (i32 (0)))) (st_q := []) rfl rfl ?_
        obtain ⟨L9, eL9⟩ : ∃ q, q = jSto1 L7 5 (.int (i32 (0))) := ⟨_, rfl⟩
        rw [← eL9]
        have gL9_0 : jGet L9 0 = some (.ref 66) := eL9 ▸ jg_ne (by decide) gL7_0 rfl
        have gL9_1 : jGet L9 1 = some (.int (i32 (p))) := eL9 ▸ jg_ne (by decide) gL7_1 rfl
        have gL9_2 : jGet L9 2 = some (.int (i32 (i))) := eL9 ▸ jg_ne (by decide) gL7_2 rfl
        have gL9_3 : jGet L9 3 = some (.int (i32 (0))) := eL9 ▸ jg_ne (by decide) gL7_3 rfl
        have gL9_4 : jGet L9 4 = some (.int (i32 (0))) := eL9 ▸ jg_ne (by decide) gL7_4 rfl
        have gL9_5 : jGet L9 5 = some (.int (i32 (0))) := eL9 ▸ jg_eq
        refine jx_ld (pc_q := 63) (l_q := L9) (st_q := [.ref 66]) rfl (jl_aloadn gL9_0) ?_
        refine jx_ld (pc_q := 64) (l_q := L9) (st_q := [.ref 66, .ref 66]) rfl (jl_aloadn gL9_0) ?_
        refine jr_get (pc_q := 67) (i := 58) (v := .int (i32 (pg))) rfl rfl (by decide) (rFv_eq (by decide) (show G 58 = pg from (e_pg))) rfl ?_
        refine jx_if_ne (pc_q := 70) (tg := 74) rfl rfl rfl (Int.le_trans (by decide : (-2147483648 : Int) ≤ 0) b_pg.1) (Int.le_trans b_pg.2 (by decide : (1 : Int) ≤ 2147483647)) (fun h10 => ?_) (fun h10 => ?_)
        · have _q := h10
          refine jx_ar (pc_q := 75) (st_q := [.int (i32 (0)), .ref 66]) rfl rfl rfl rfl ?_
          refine jx_ld (pc_q := 76) (l_q := L9) (st_q := [.ref 66, .int (i32 (0)), .ref 66]) rfl (jl_aloadn gL9_0) ?_
          refine jr_get (pc_q := 79) (i := 58) (v := .int (i32 (pg))) rfl rfl (by decide) (rFv_eq (by decide) (show G 58 = pg from (e_pg))) rfl ?_
          refine jx_if_eq (pc_q := 82) (tg := 90) rfl rfl rfl (Int.le_trans (by decide : (-2147483648 : Int) ≤ 0) b_pg.1) (Int.le_trans b_pg.2 (by decide : (1 : Int) ≤ 2147483647)) (fun h11 => ?_) (fun h11 => ?_)
          · have _q := h11
            refine jx_ar (pc_q := 91) (st_q := [.int (i32 (0)), .int (i32 (0)), .ref 66]) rfl rfl rfl rfl ?_
            refine jx_ld (pc_q := 92) (l_q := L9) (st_q := [.int (i32 (0)), .int (i32 (0)), .int (i32 (0)), .ref 66]) rfl (jl_iloadn gL9_3) ?_
            refine jx_if_eq (pc_q := 95) (tg := 111) rfl rfl rfl (by decide) (by decide) (fun h12 => ?_) (fun h12 => ?_)
            · have _q := h12
              refine jx_ar (pc_q := 112) (st_q := [.int (i32 (0)), .int (i32 (0)), .int (i32 (0)), .ref 66]) rfl rfl rfl rfl ?_
              refine jx_vr (pc_q := 115) (as := [.int (i32 (0)), .int (i32 (0)), .int (i32 (0))]) (st := []) rfl rfl rfl rfl ⟨rfl, rfl, Nat.le_of_ble_eq_true rfl⟩ rfl rfl (c_refuse (dd := d) (hd := by omega) (hW := hW) (a := 0) (b := 0) (c := 0)   (h_a := ⟨(by decide), (by decide)⟩) (h_b := ⟨(by decide), (by decide)⟩) (h_c := ⟨(by decide), (by decide)⟩)  ) (fun o V_q hq => ?_)
              obtain ⟨G13, A14, r15, th2_16, rfl, rfl, hW17, hF18, b19, e20, q21⟩ := hq
              have hF22 := Fr_tr hF0 hF18 (Fr_sub (by decide)) (Fr_sub (by decide))
              have sf23 : (pg) = 1 → GZ (lk) A14 := (show A14 = A from funext (fun k => hF18.2 k rfl)) ▸ p_0
              have bth2_16 : (0 : Int) ≤ th2_16 ∧ th2_16 ≤ 4 := e20 ▸ hW17.1 0
              refine .inr ⟨_, rfl, ?_⟩
              rcases q21 with ⟨rfl, a24, a25⟩ | ⟨rfl, a26, a27, a28⟩ | ⟨rfl, a29, a30, a31, a32⟩ | ⟨rfl, a33, a34, a35, a36⟩
              · have _q : True := trivial
                exfalso
                omega
              · have _q : True := trivial
                exfalso
                omega
              · have _q : True := trivial
                exfalso
                omega
              · have _q : True := trivial
                refine jx_if_eq (pc_q := 118) (tg := 120) rfl rfl rfl (by decide) (by decide) (fun h37 => ?_) (fun h37 => ?_)
                · have _q := h37
                  exact c_ready_at_120 (X := X) (d := d) (c0 := c0) (c1 := c1) (G := G) (A := A) (T := T) (p := p) (i := i) (pg := pg) (lk := lk) (bp := bp) (hd := hd) (hW := hW) (e_pg := e_pg) (e_lk := e_lk) (e_bp := e_bp) (h_p := h_p) (h_i := h_i) (p_0 := p_0) L9 G13 A14 (0) gL9_0 gL9_1 gL9_2 gL9_4 hW17 hF22 (by omega) (by omega) (by omega) (by omega) (by omega) (by omega) (by omega)
                · have _q := h37
                  exact absurd h37 (by omega)
            · have _q := h12
              exact absurd h12 (by omega)
          · have _q := h11
            refine jx_ld (pc_q := 83) (l_q := L9) (st_q := [.int (i32 (0)), .int (i32 (0)), .ref 66]) rfl (jl_iloadn gL9_3) ?_
            refine jx_if_ne (pc_q := 86) (tg := 90) rfl rfl rfl (by decide) (by decide) (fun h38 => ?_) (fun h38 => ?_)
            · have _q := h38
              exact absurd h38 (by omega)
            · have _q := h38
              refine jx_ar (pc_q := 87) (st_q := [.int (i32 (1)), .int (i32 (0)), .ref 66]) rfl rfl rfl rfl ?_
              refine jx_go (tg := 91) rfl rfl ?_
              refine jx_ld (pc_q := 92) (l_q := L9) (st_q := [.int (i32 (0)), .int (i32 (1)), .int (i32 (0)), .ref 66]) rfl (jl_iloadn gL9_3) ?_
              refine jx_if_eq (pc_q := 95) (tg := 111) rfl rfl rfl (by decide) (by decide) (fun h39 => ?_) (fun h39 => ?_)
              · have _q := h39
                refine jx_ar (pc_q := 112) (st_q := [.int (i32 (0)), .int (i32 (1)), .int (i32 (0)), .ref 66]) rfl rfl rfl rfl ?_
                refine jx_vr (pc_q := 115) (as := [.int (i32 (0)), .int (i32 (1)), .int (i32 (0))]) (st := []) rfl rfl rfl rfl ⟨rfl, rfl, Nat.le_of_ble_eq_true rfl⟩ rfl rfl (c_refuse (dd := d) (hd := by omega) (hW := hW) (a := 0) (b := 1) (c := 0)   (h_a := ⟨(by decide), (by decide)⟩) (h_b := ⟨(by decide), (by decide)⟩) (h_c := ⟨(by decide), (by decide)⟩)  ) (fun o V_q hq => ?_)
                obtain ⟨G40, A41, r42, th2_43, rfl, rfl, hW44, hF45, b46, e47, q48⟩ := hq
                have hF49 := Fr_tr hF0 hF45 (Fr_sub (by decide)) (Fr_sub (by decide))
                have sf50 : (pg) = 1 → GZ (lk) A41 := (show A41 = A from funext (fun k => hF45.2 k rfl)) ▸ p_0
                have bth2_43 : (0 : Int) ≤ th2_43 ∧ th2_43 ≤ 4 := e47 ▸ hW44.1 0
                refine .inr ⟨_, rfl, ?_⟩
                rcases q48 with ⟨rfl, a51, a52⟩ | ⟨rfl, a53, a54, a55⟩ | ⟨rfl, a56, a57, a58, a59⟩ | ⟨rfl, a60, a61, a62, a63⟩
                · have _q : True := trivial
                  exfalso
                  omega
                · have _q : True := trivial
                  refine jx_if_eq (pc_q := 118) (tg := 120) rfl rfl rfl (by decide) (by decide) (fun h64 => ?_) (fun h64 => ?_)
                  · have _q := h64
                    exact absurd h64 (by omega)
                  · have _q := h64
                    refine jx_ar (pc_q := 119) (st_q := [.int (i32 (0))]) rfl rfl rfl rfl ?_
                    refine jx_rt (v := some (.int (i32 (0)))) rfl rfl rfl rfl rfl rfl ?_
                    exact ⟨_, _, _, rfl, rfl, hW44, hF49, by omega, trivial⟩
                · have _q : True := trivial
                  exfalso
                  omega
                · have _q : True := trivial
                  exfalso
                  omega
              · have _q := h39
                exact absurd h39 (by omega)
        · have _q := h10
          refine jx_ar (pc_q := 71) (st_q := [.int (i32 (1)), .ref 66]) rfl rfl rfl rfl ?_
          refine jx_go (tg := 75) rfl rfl ?_
          refine jx_ld (pc_q := 76) (l_q := L9) (st_q := [.ref 66, .int (i32 (1)), .ref 66]) rfl (jl_aloadn gL9_0) ?_
          refine jr_get (pc_q := 79) (i := 58) (v := .int (i32 (pg))) rfl rfl (by decide) (rFv_eq (by decide) (show G 58 = pg from (e_pg))) rfl ?_
          refine jx_if_eq (pc_q := 82) (tg := 90) rfl rfl rfl (Int.le_trans (by decide : (-2147483648 : Int) ≤ 0) b_pg.1) (Int.le_trans b_pg.2 (by decide : (1 : Int) ≤ 2147483647)) (fun h65 => ?_) (fun h65 => ?_)
          · have _q := h65
            refine jx_ar (pc_q := 91) (st_q := [.int (i32 (0)), .int (i32 (1)), .ref 66]) rfl rfl rfl rfl ?_
            refine jx_ld (pc_q := 92) (l_q := L9) (st_q := [.int (i32 (0)), .int (i32 (0)), .int (i32 (1)), .ref 66]) rfl (jl_iloadn gL9_3) ?_
            refine jx_if_eq (pc_q := 95) (tg := 111) rfl rfl rfl (by decide) (by decide) (fun h66 => ?_) (fun h66 => ?_)
            · have _q := h66
              refine jx_ar (pc_q := 112) (st_q := [.int (i32 (0)), .int (i32 (0)), .int (i32 (1)), .ref 66]) rfl rfl rfl rfl ?_
              refine jx_vr (pc_q := 115) (as := [.int (i32 (1)), .int (i32 (0)), .int (i32 (0))]) (st := []) rfl rfl rfl rfl ⟨rfl, rfl, Nat.le_of_ble_eq_true rfl⟩ rfl rfl (c_refuse (dd := d) (hd := by omega) (hW := hW) (a := 1) (b := 0) (c := 0)   (h_a := ⟨(by decide), (by decide)⟩) (h_b := ⟨(by decide), (by decide)⟩) (h_c := ⟨(by decide), (by decide)⟩)  ) (fun o V_q hq => ?_)
              obtain ⟨G67, A68, r69, th2_70, rfl, rfl, hW71, hF72, b73, e74, q75⟩ := hq
              have hF76 := Fr_tr hF0 hF72 (Fr_sub (by decide)) (Fr_sub (by decide))
              have sf77 : (pg) = 1 → GZ (lk) A68 := (show A68 = A from funext (fun k => hF72.2 k rfl)) ▸ p_0
              have bth2_70 : (0 : Int) ≤ th2_70 ∧ th2_70 ≤ 4 := e74 ▸ hW71.1 0
              refine .inr ⟨_, rfl, ?_⟩
              rcases q75 with ⟨rfl, a78, a79⟩ | ⟨rfl, a80, a81, a82⟩ | ⟨rfl, a83, a84, a85, a86⟩ | ⟨rfl, a87, a88, a89, a90⟩
              · have _q : True := trivial
                refine jx_if_eq (pc_q := 118) (tg := 120) rfl rfl rfl (by decide) (by decide) (fun h91 => ?_) (fun h91 => ?_)
                · have _q := h91
                  exact absurd h91 (by omega)
                · have _q := h91
                  refine jx_ar (pc_q := 119) (st_q := [.int (i32 (0))]) rfl rfl rfl rfl ?_
                  refine jx_rt (v := some (.int (i32 (0)))) rfl rfl rfl rfl rfl rfl ?_
                  exact ⟨_, _, _, rfl, rfl, hW71, hF76, by omega, trivial⟩
              · have _q : True := trivial
                exfalso
                omega
              · have _q : True := trivial
                exfalso
                omega
              · have _q : True := trivial
                exfalso
                omega
            · have _q := h66
              exact absurd h66 (by omega)
          · have _q := h65
            refine jx_ld (pc_q := 83) (l_q := L9) (st_q := [.int (i32 (0)), .int (i32 (1)), .ref 66]) rfl (jl_iloadn gL9_3) ?_
            refine jx_if_ne (pc_q := 86) (tg := 90) rfl rfl rfl (by decide) (by decide) (fun h92 => ?_) (fun h92 => ?_)
            · have _q := h92
              exact absurd h92 (by omega)
            · have _q := h92
              refine jx_ar (pc_q := 87) (st_q := [.int (i32 (1)), .int (i32 (1)), .ref 66]) rfl rfl rfl rfl ?_
              refine jx_go (tg := 91) rfl rfl ?_
              refine jx_ld (pc_q := 92) (l_q := L9) (st_q := [.int (i32 (0)), .int (i32 (1)), .int (i32 (1)), .ref 66]) rfl (jl_iloadn gL9_3) ?_
              refine jx_if_eq (pc_q := 95) (tg := 111) rfl rfl rfl (by decide) (by decide) (fun h93 => ?_) (fun h93 => ?_)
              · have _q := h93
                refine jx_ar (pc_q := 112) (st_q := [.int (i32 (0)), .int (i32 (1)), .int (i32 (1)), .ref 66]) rfl rfl rfl rfl ?_
                refine jx_vr (pc_q := 115) (as := [.int (i32 (1)), .int (i32 (1)), .int (i32 (0))]) (st := []) rfl rfl rfl rfl ⟨rfl, rfl, Nat.le_of_ble_eq_true rfl⟩ rfl rfl (c_refuse (dd := d) (hd := by omega) (hW := hW) (a := 1) (b := 1) (c := 0)   (h_a := ⟨(by decide), (by decide)⟩) (h_b := ⟨(by decide), (by decide)⟩) (h_c := ⟨(by decide), (by decide)⟩)  ) (fun o V_q hq => ?_)
                obtain ⟨G94, A95, r96, th2_97, rfl, rfl, hW98, hF99, b100, e101, q102⟩ := hq
                have hF103 := Fr_tr hF0 hF99 (Fr_sub (by decide)) (Fr_sub (by decide))
                have sf104 : (pg) = 1 → GZ (lk) A95 := (show A95 = A from funext (fun k => hF99.2 k rfl)) ▸ p_0
                have bth2_97 : (0 : Int) ≤ th2_97 ∧ th2_97 ≤ 4 := e101 ▸ hW98.1 0
                refine .inr ⟨_, rfl, ?_⟩
                rcases q102 with ⟨rfl, a105, a106⟩ | ⟨rfl, a107, a108, a109⟩ | ⟨rfl, a110, a111, a112, a113⟩ | ⟨rfl, a114, a115, a116, a117⟩
                · have _q : True := trivial
                  refine jx_if_eq (pc_q := 118) (tg := 120) rfl rfl rfl (by decide) (by decide) (fun h118 => ?_) (fun h118 => ?_)
                  · have _q := h118
                    exact absurd h118 (by omega)
                  · have _q := h118
                    refine jx_ar (pc_q := 119) (st_q := [.int (i32 (0))]) rfl rfl rfl rfl ?_
                    refine jx_rt (v := some (.int (i32 (0)))) rfl rfl rfl rfl rfl rfl ?_
                    exact ⟨_, _, _, rfl, rfl, hW98, hF103, by omega, trivial⟩
                · have _q : True := trivial
                  exfalso
                  omega
                · have _q : True := trivial
                  exfalso
                  omega
                · have _q : True := trivial
                  exfalso
                  omega
              · have _q := h93
                exact absurd h93 (by omega)
      · have _q := h8
        exact absurd h8 (by omega)
    · have _q := h6
      exact absurd h6 (by omega)
  · have _q := h4
    refine jx_ld (pc_q := 8) (l_q := [(0, .ref 66), (1, .int (i32 (p))), (2, .int (i32 (i)))]) (st_q := [.ref 66]) rfl (jl_aloadn rfl) ?_
    refine jx_ld (pc_q := 9) (l_q := [(0, .ref 66), (1, .int (i32 (p))), (2, .int (i32 (i)))]) (st_q := [.int (i32 (p)), .ref 66]) rfl (jl_iloadn rfl) ?_
    refine jx_vr (pc_q := 12) (as := [.int (i32 (p))]) (st := []) rfl rfl rfl rfl ⟨rfl, rfl, Nat.le_of_ble_eq_true rfl⟩ rfl rfl (c_isCore2 (dd := d) (hd := by omega) (hW := hW) (p := p) (bp := bp) (e_bp := show A 36 (p).toNat = bp from (e_bp))  (h_p := ⟨(Int.le_trans (by decide : (-2147483648 : Int) ≤ -2147483648) h_p.1), (Int.le_trans h_p.2 (by decide : (2147483647 : Int) ≤ 2147483647))⟩)  ) (fun o V_q hq => ?_)
    obtain ⟨r119, rfl, rfl, b120, q121⟩ := hq
    refine .inr ⟨_, rfl, ?_⟩
    rcases q121 with ⟨rfl, a122, a123, a124⟩ | ⟨rfl, a125⟩
    · have _q : True := trivial
      refine jx_if_eq (pc_q := 15) (tg := 19) rfl rfl rfl (by decide) (by decide) (fun h126 => ?_) (fun h126 => ?_)
      · have _q := h126
        exact absurd h126 (by omega)
      · have _q := h126
        have hcm := GS_cm (p_0 (by omega)).1 p (by omega) (by omega); unfold Cm at hcm
        refine jx_ar (pc_q := 16) (st_q := [.int (i32 (1))]) rfl rfl rfl rfl ?_
        refine jx_go (tg := 20) rfl rfl ?_
        refine jx_ld (pc_q := 21) (l_q := jSto1 [(0, .ref 66), (1, .int (i32 (p))), (2, .int (i32 (i)))] 3 (.int (i32 (1)))) (st_q := []) rfl rfl ?_
        obtain ⟨L127, eL127⟩ : ∃ q, q = jSto1 [(0, .ref 66), (1, .int (i32 (p))), (2, .int (i32 (i)))] 3 (.int (i32 (1))) := ⟨_, rfl⟩
        rw [← eL127]
        have gL127_0 : jGet L127 0 = some (.ref 66) := eL127 ▸ jg_ne (by decide) (rfl : jGet [(0, .ref 66), (1, .int (i32 (p))), (2, .int (i32 (i)))] 0 = some (.ref 66)) rfl
        have gL127_1 : jGet L127 1 = some (.int (i32 (p))) := eL127 ▸ jg_ne (by decide) (rfl : jGet [(0, .ref 66), (1, .int (i32 (p))), (2, .int (i32 (i)))] 1 = some (.int (i32 (p)))) rfl
        have gL127_2 : jGet L127 2 = some (.int (i32 (i))) := eL127 ▸ jg_ne (by decide) (rfl : jGet [(0, .ref 66), (1, .int (i32 (p))), (2, .int (i32 (i)))] 2 = some (.int (i32 (i)))) rfl
        have gL127_3 : jGet L127 3 = some (.int (i32 (1))) := eL127 ▸ jg_eq
        refine jx_ld (pc_q := 22) (l_q := L127) (st_q := [.int (i32 (1))]) rfl (jl_iloadn gL127_3) ?_
        refine jx_if_eq (pc_q := 25) (tg := 36) rfl rfl rfl (by decide) (by decide) (fun h128 => ?_) (fun h128 => ?_)
        · have _q := h128
          exact absurd h128 (by omega)
        · have _q := h128
          refine jx_ld (pc_q := 26) (l_q := L127) (st_q := [.ref 66]) rfl (jl_aloadn gL127_0) ?_
          refine jr_get (pc_q := 29) (i := 103) (v := .ref 139) rfl rfl (by decide) rfl rfl ?_
          refine jx_ar (pc_q := 30) (st_q := [.int (i32 (2)), .ref 139]) rfl rfl rfl rfl ?_
          refine jx_ld (pc_q := 31) (l_q := L127) (st_q := [.int (i32 (p)), .int (i32 (2)), .ref 139]) rfl (jl_iloadn gL127_1) ?_
          refine jx_mul (pc_q := 32) rfl rfl ?_
          have b129 : (-2147483648 : Int) ≤ A 72 ((2 * p)).toNat ∧ A 72 ((2 * p)).toNat ≤ 2147483647 := hW.2 72 _
          refine jr_ldv (pc_q := 33) (i := 72) (m := 12) (z := (2 * p)) (y := A 72 ((2 * p)).toNat) rfl (by decide) rfl (by decide) (by omega) (by omega) rfl (show A 72 ((2 * p)).toNat = A 72 ((2 * p)).toNat from rfl) ?_
          refine jx_go (tg := 37) rfl rfl ?_
          refine jx_ld (pc_q := 39) (l_q := jSto1 L127 4 (.int (i32 (A 72 ((2 * p)).toNat)))) (st_q := []) rfl rfl ?_
          obtain ⟨L130, eL130⟩ : ∃ q, q = jSto1 L127 4 (.int (i32 (A 72 ((2 * p)).toNat))) := ⟨_, rfl⟩
          rw [← eL130]
          have gL130_0 : jGet L130 0 = some (.ref 66) := eL130 ▸ jg_ne (by decide) gL127_0 rfl
          have gL130_1 : jGet L130 1 = some (.int (i32 (p))) := eL130 ▸ jg_ne (by decide) gL127_1 rfl
          have gL130_2 : jGet L130 2 = some (.int (i32 (i))) := eL130 ▸ jg_ne (by decide) gL127_2 rfl
          have gL130_3 : jGet L130 3 = some (.int (i32 (1))) := eL130 ▸ jg_ne (by decide) gL127_3 rfl
          have gL130_4 : jGet L130 4 = some (.int (i32 (A 72 ((2 * p)).toNat))) := eL130 ▸ jg_eq
          refine jx_ld (pc_q := 40) (l_q := L130) (st_q := [.int (i32 (1))]) rfl (jl_iloadn gL130_3) ?_
          refine jx_if_eq (pc_q := 43) (tg := 59) rfl rfl rfl (by decide) (by decide) (fun h131 => ?_) (fun h131 => ?_)
          · have _q := h131
            exact absurd h131 (by omega)
          · have _q := h131
            refine jx_ld (pc_q := 45) (l_q := L130) (st_q := [.int (i32 (A 72 ((2 * p)).toNat))]) rfl (jl_iload gL130_4) ?_
            refine jx_ld (pc_q := 46) (l_q := L130) (st_q := [.ref 66, .int (i32 (A 72 ((2 * p)).toNat))]) rfl (jl_aloadn gL130_0) ?_
            refine jr_get (pc_q := 49) (i := 103) (v := .ref 139) rfl rfl (by decide) rfl rfl ?_
            refine jx_ar (pc_q := 50) (st_q := [.int (i32 (2)), .ref 139, .int (i32 (A 72 ((2 * p)).toNat))]) rfl rfl rfl rfl ?_
            refine jx_ld (pc_q := 51) (l_q := L130) (st_q := [.int (i32 (p)), .int (i32 (2)), .ref 139, .int (i32 (A 72 ((2 * p)).toNat))]) rfl (jl_iloadn gL130_1) ?_
            refine jx_mul (pc_q := 52) rfl rfl ?_
            refine jx_ar (pc_q := 53) (st_q := [.int (i32 (1)), .int (i32 ((2 * p))), .ref 139, .int (i32 (A 72 ((2 * p)).toNat))]) rfl rfl rfl rfl ?_
            refine jx_add (pc_q := 54) rfl rfl ?_
            have b132 : (-2147483648 : Int) ≤ A 72 (((2 * p) + 1)).toNat ∧ A 72 (((2 * p) + 1)).toNat ≤ 2147483647 := hW.2 72 _
            refine jr_ldv (pc_q := 55) (i := 72) (m := 12) (z := ((2 * p) + 1)) (y := A 72 (((2 * p) + 1)).toNat) rfl (by decide) rfl (by decide) (by omega) (by omega) rfl (show A 72 (((2 * p) + 1)).toNat = A 72 (((2 * p) + 1)).toNat from rfl) ?_
            refine jx_add (pc_q := 56) rfl rfl ?_
            refine jx_go (tg := 60) rfl rfl ?_
            refine jx_ld (pc_q := 62) (l_q := jSto1 L130 5 (.int (i32 ((A 72 ((2 * p)).toNat + A 72 (((2 * p) + 1)).toNat))))) (st_q := []) rfl rfl ?_
            obtain ⟨L133, eL133⟩ : ∃ q, q = jSto1 L130 5 (.int (i32 ((A 72 ((2 * p)).toNat + A 72 (((2 * p) + 1)).toNat)))) := ⟨_, rfl⟩
            rw [← eL133]
            have gL133_0 : jGet L133 0 = some (.ref 66) := eL133 ▸ jg_ne (by decide) gL130_0 rfl
            have gL133_1 : jGet L133 1 = some (.int (i32 (p))) := eL133 ▸ jg_ne (by decide) gL130_1 rfl
            have gL133_2 : jGet L133 2 = some (.int (i32 (i))) := eL133 ▸ jg_ne (by decide) gL130_2 rfl
            have gL133_3 : jGet L133 3 = some (.int (i32 (1))) := eL133 ▸ jg_ne (by decide) gL130_3 rfl
            have gL133_4 : jGet L133 4 = some (.int (i32 (A 72 ((2 * p)).toNat))) := eL133 ▸ jg_ne (by decide) gL130_4 rfl
            have gL133_5 : jGet L133 5 = some (.int (i32 ((A 72 ((2 * p)).toNat + A 72 (((2 * p) + 1)).toNat)))) := eL133 ▸ jg_eq
            refine jx_ld (pc_q := 63) (l_q := L133) (st_q := [.ref 66]) rfl (jl_aloadn gL133_0) ?_
            refine jx_ld (pc_q := 64) (l_q := L133) (st_q := [.ref 66, .ref 66]) rfl (jl_aloadn gL133_0) ?_
            refine jr_get (pc_q := 67) (i := 58) (v := .int (i32 (pg))) rfl rfl (by decide) (rFv_eq (by decide) (show G 58 = pg from (e_pg))) rfl ?_
            refine jx_if_ne (pc_q := 70) (tg := 74) rfl rfl rfl (Int.le_trans (by decide : (-2147483648 : Int) ≤ 0) b_pg.1) (Int.le_trans b_pg.2 (by decide : (1 : Int) ≤ 2147483647)) (fun h134 => ?_) (fun h134 => ?_)
            · have _q := h134
              refine jx_ar (pc_q := 75) (st_q := [.int (i32 (0)), .ref 66]) rfl rfl rfl rfl ?_
              refine jx_ld (pc_q := 76) (l_q := L133) (st_q := [.ref 66, .int (i32 (0)), .ref 66]) rfl (jl_aloadn gL133_0) ?_
              refine jr_get (pc_q := 79) (i := 58) (v := .int (i32 (pg))) rfl rfl (by decide) (rFv_eq (by decide) (show G 58 = pg from (e_pg))) rfl ?_
              refine jx_if_eq (pc_q := 82) (tg := 90) rfl rfl rfl (Int.le_trans (by decide : (-2147483648 : Int) ≤ 0) b_pg.1) (Int.le_trans b_pg.2 (by decide : (1 : Int) ≤ 2147483647)) (fun h135 => ?_) (fun h135 => ?_)
              · have _q := h135
                refine jx_ar (pc_q := 91) (st_q := [.int (i32 (0)), .int (i32 (0)), .ref 66]) rfl rfl rfl rfl ?_
                refine jx_ld (pc_q := 92) (l_q := L133) (st_q := [.int (i32 (1)), .int (i32 (0)), .int (i32 (0)), .ref 66]) rfl (jl_iloadn gL133_3) ?_
                refine jx_if_eq (pc_q := 95) (tg := 111) rfl rfl rfl (by decide) (by decide) (fun h136 => ?_) (fun h136 => ?_)
                · have _q := h136
                  exact absurd h136 (by omega)
                · have _q := h136
                  refine jx_ld (pc_q := 96) (l_q := L133) (st_q := [.int (i32 (i)), .int (i32 (0)), .int (i32 (0)), .ref 66]) rfl (jl_iloadn gL133_2) ?_
                  refine jx_ar (pc_q := 97) (st_q := [.int (i32 (0)), .int (i32 (i)), .int (i32 (0)), .int (i32 (0)), .ref 66]) rfl rfl rfl rfl ?_
                  refine jx_ld (pc_q := 99) (l_q := L133) (st_q := [.int (i32 ((A 72 ((2 * p)).toNat + A 72 (((2 * p) + 1)).toNat))), .int (i32 (0)), .int (i32 (i)), .int (i32 (0)), .int (i32 (0)), .ref 66]) rfl (jl_iload gL133_5) ?_
                  refine jx_ar (pc_q := 100) (st_q := [.int (i32 (1)), .int (i32 ((A 72 ((2 * p)).toNat + A 72 (((2 * p) + 1)).toNat))), .int (i32 (0)), .int (i32 (i)), .int (i32 (0)), .int (i32 (0)), .ref 66]) rfl rfl rfl rfl ?_
                  refine jx_sub (pc_q := 101) rfl rfl ?_
                  refine jx_st (pc_q := 104) (as := [.int (i32 (i)), .int (i32 (0)), .int (i32 (((A 72 ((2 * p)).toNat + A 72 (((2 * p) + 1)).toNat) - 1)))]) (st := [.int (i32 (0)), .int (i32 (0)), .ref 66]) rfl rfl ⟨rfl, Nat.le_of_ble_eq_true rfl⟩ rfl rfl rfl (c_in (dd := d) (hd := by omega) (v := i) (a := 0) (b := ((A 72 ((2 * p)).toNat + A 72 (((2 * p) + 1)).toNat) - 1))   (h_v := ⟨(Int.le_trans (by decide : (-2147483648 : Int) ≤ -2147483648) h_i.1), (Int.le_trans h_i.2 (by decide : (2147483647 : Int) ≤ 2147483647))⟩) (h_a := ⟨(by decide), (by decide)⟩) (h_b := ⟨(by omega), (by omega)⟩)  ) (fun o V_q hq => ?_)
                  obtain ⟨r137, rfl, rfl, b138, q139⟩ := hq
                  refine .inr ⟨_, rfl, ?_⟩
                  rcases q139 with ⟨rfl, a140, a141⟩ | ⟨rfl, a142⟩
                  · have _q : True := trivial
                    refine jx_if_ne (pc_q := 107) (tg := 111) rfl rfl rfl (by decide) (by decide) (fun h143 => ?_) (fun h143 => ?_)
                    · have _q := h143
                      refine jx_ar (pc_q := 112) (st_q := [.int (i32 (0)), .int (i32 (0)), .int (i32 (0)), .ref 66]) rfl rfl rfl rfl ?_
                      refine jx_vr (pc_q := 115) (as := [.int (i32 (0)), .int (i32 (0)), .int (i32 (0))]) (st := []) rfl rfl rfl rfl ⟨rfl, rfl, Nat.le_of_ble_eq_true rfl⟩ rfl rfl (c_refuse (dd := d) (hd := by omega) (hW := hW) (a := 0) (b := 0) (c := 0)   (h_a := ⟨(by decide), (by decide)⟩) (h_b := ⟨(by decide), (by decide)⟩) (h_c := ⟨(by decide), (by decide)⟩)  ) (fun o V_q hq => ?_)
                      obtain ⟨G144, A145, r146, th2_147, rfl, rfl, hW148, hF149, b150, e151, q152⟩ := hq
                      have hF153 := Fr_tr hF0 hF149 (Fr_sub (by decide)) (Fr_sub (by decide))
                      have sf154 : (pg) = 1 → GZ (lk) A145 := (show A145 = A from funext (fun k => hF149.2 k rfl)) ▸ p_0
                      have bth2_147 : (0 : Int) ≤ th2_147 ∧ th2_147 ≤ 4 := e151 ▸ hW148.1 0
                      refine .inr ⟨_, rfl, ?_⟩
                      rcases q152 with ⟨rfl, a155, a156⟩ | ⟨rfl, a157, a158, a159⟩ | ⟨rfl, a160, a161, a162, a163⟩ | ⟨rfl, a164, a165, a166, a167⟩
                      · have _q : True := trivial
                        exfalso
                        omega
                      · have _q : True := trivial
                        exfalso
                        omega
                      · have _q : True := trivial
                        exfalso
                        omega
                      · have _q : True := trivial
                        refine jx_if_eq (pc_q := 118) (tg := 120) rfl rfl rfl (by decide) (by decide) (fun h168 => ?_) (fun h168 => ?_)
                        · have _q := h168
                          exact c_ready_at_120 (X := X) (d := d) (c0 := c0) (c1 := c1) (G := G) (A := A) (T := T) (p := p) (i := i) (pg := pg) (lk := lk) (bp := bp) (hd := hd) (hW := hW) (e_pg := e_pg) (e_lk := e_lk) (e_bp := e_bp) (h_p := h_p) (h_i := h_i) (p_0 := p_0) L133 G144 A145 (A 72 ((2 * p)).toNat) gL133_0 gL133_1 gL133_2 gL133_4 hW148 hF153 (by omega) (by omega) (by omega) (by omega) (by omega) (by omega) (by omega)
                        · have _q := h168
                          exact absurd h168 (by omega)
                    · have _q := h143
                      exact absurd h143 (by omega)
                  · have _q : True := trivial
                    refine jx_if_ne (pc_q := 107) (tg := 111) rfl rfl rfl (by decide) (by decide) (fun h169 => ?_) (fun h169 => ?_)
                    · have _q := h169
                      exact absurd h169 (by omega)
                    · have _q := h169
                      refine jx_ar (pc_q := 108) (st_q := [.int (i32 (1)), .int (i32 (0)), .int (i32 (0)), .ref 66]) rfl rfl rfl rfl ?_
                      refine jx_go (tg := 112) rfl rfl ?_
                      refine jx_vr (pc_q := 115) (as := [.int (i32 (0)), .int (i32 (0)), .int (i32 (1))]) (st := []) rfl rfl rfl rfl ⟨rfl, rfl, Nat.le_of_ble_eq_true rfl⟩ rfl rfl (c_refuse (dd := d) (hd := by omega) (hW := hW) (a := 0) (b := 0) (c := 1)   (h_a := ⟨(by decide), (by decide)⟩) (h_b := ⟨(by decide), (by decide)⟩) (h_c := ⟨(by decide), (by decide)⟩)  ) (fun o V_q hq => ?_)
                      obtain ⟨G170, A171, r172, th2_173, rfl, rfl, hW174, hF175, b176, e177, q178⟩ := hq
                      have hF179 := Fr_tr hF0 hF175 (Fr_sub (by decide)) (Fr_sub (by decide))
                      have sf180 : (pg) = 1 → GZ (lk) A171 := (show A171 = A from funext (fun k => hF175.2 k rfl)) ▸ p_0
                      have bth2_173 : (0 : Int) ≤ th2_173 ∧ th2_173 ≤ 4 := e177 ▸ hW174.1 0
                      refine .inr ⟨_, rfl, ?_⟩
                      rcases q178 with ⟨rfl, a181, a182⟩ | ⟨rfl, a183, a184, a185⟩ | ⟨rfl, a186, a187, a188, a189⟩ | ⟨rfl, a190, a191, a192, a193⟩
                      · have _q : True := trivial
                        exfalso
                        omega
                      · have _q : True := trivial
                        exfalso
                        omega
                      · have _q : True := trivial
                        refine jx_if_eq (pc_q := 118) (tg := 120) rfl rfl rfl (by decide) (by decide) (fun h194 => ?_) (fun h194 => ?_)
                        · have _q := h194
                          exact absurd h194 (by omega)
                        · have _q := h194
                          refine jx_ar (pc_q := 119) (st_q := [.int (i32 (0))]) rfl rfl rfl rfl ?_
                          refine jx_rt (v := some (.int (i32 (0)))) rfl rfl rfl rfl rfl rfl ?_
                          exact ⟨_, _, _, rfl, rfl, hW174, hF179, by omega, trivial⟩
                      · have _q : True := trivial
                        exfalso
                        omega
              · have _q := h135
                refine jx_ld (pc_q := 83) (l_q := L133) (st_q := [.int (i32 (1)), .int (i32 (0)), .ref 66]) rfl (jl_iloadn gL133_3) ?_
                refine jx_if_ne (pc_q := 86) (tg := 90) rfl rfl rfl (by decide) (by decide) (fun h195 => ?_) (fun h195 => ?_)
                · have _q := h195
                  refine jx_ar (pc_q := 91) (st_q := [.int (i32 (0)), .int (i32 (0)), .ref 66]) rfl rfl rfl rfl ?_
                  refine jx_ld (pc_q := 92) (l_q := L133) (st_q := [.int (i32 (1)), .int (i32 (0)), .int (i32 (0)), .ref 66]) rfl (jl_iloadn gL133_3) ?_
                  refine jx_if_eq (pc_q := 95) (tg := 111) rfl rfl rfl (by decide) (by decide) (fun h196 => ?_) (fun h196 => ?_)
                  · have _q := h196
                    exact absurd h196 (by omega)
                  · have _q := h196
                    refine jx_ld (pc_q := 96) (l_q := L133) (st_q := [.int (i32 (i)), .int (i32 (0)), .int (i32 (0)), .ref 66]) rfl (jl_iloadn gL133_2) ?_
                    refine jx_ar (pc_q := 97) (st_q := [.int (i32 (0)), .int (i32 (i)), .int (i32 (0)), .int (i32 (0)), .ref 66]) rfl rfl rfl rfl ?_
                    refine jx_ld (pc_q := 99) (l_q := L133) (st_q := [.int (i32 ((A 72 ((2 * p)).toNat + A 72 (((2 * p) + 1)).toNat))), .int (i32 (0)), .int (i32 (i)), .int (i32 (0)), .int (i32 (0)), .ref 66]) rfl (jl_iload gL133_5) ?_
                    refine jx_ar (pc_q := 100) (st_q := [.int (i32 (1)), .int (i32 ((A 72 ((2 * p)).toNat + A 72 (((2 * p) + 1)).toNat))), .int (i32 (0)), .int (i32 (i)), .int (i32 (0)), .int (i32 (0)), .ref 66]) rfl rfl rfl rfl ?_
                    refine jx_sub (pc_q := 101) rfl rfl ?_
                    refine jx_st (pc_q := 104) (as := [.int (i32 (i)), .int (i32 (0)), .int (i32 (((A 72 ((2 * p)).toNat + A 72 (((2 * p) + 1)).toNat) - 1)))]) (st := [.int (i32 (0)), .int (i32 (0)), .ref 66]) rfl rfl ⟨rfl, Nat.le_of_ble_eq_true rfl⟩ rfl rfl rfl (c_in (dd := d) (hd := by omega) (v := i) (a := 0) (b := ((A 72 ((2 * p)).toNat + A 72 (((2 * p) + 1)).toNat) - 1))   (h_v := ⟨(Int.le_trans (by decide : (-2147483648 : Int) ≤ -2147483648) h_i.1), (Int.le_trans h_i.2 (by decide : (2147483647 : Int) ≤ 2147483647))⟩) (h_a := ⟨(by decide), (by decide)⟩) (h_b := ⟨(by omega), (by omega)⟩)  ) (fun o V_q hq => ?_)
                    obtain ⟨r197, rfl, rfl, b198, q199⟩ := hq
                    refine .inr ⟨_, rfl, ?_⟩
                    rcases q199 with ⟨rfl, a200, a201⟩ | ⟨rfl, a202⟩
                    · have _q : True := trivial
                      refine jx_if_ne (pc_q := 107) (tg := 111) rfl rfl rfl (by decide) (by decide) (fun h203 => ?_) (fun h203 => ?_)
                      · have _q := h203
                        refine jx_ar (pc_q := 112) (st_q := [.int (i32 (0)), .int (i32 (0)), .int (i32 (0)), .ref 66]) rfl rfl rfl rfl ?_
                        refine jx_vr (pc_q := 115) (as := [.int (i32 (0)), .int (i32 (0)), .int (i32 (0))]) (st := []) rfl rfl rfl rfl ⟨rfl, rfl, Nat.le_of_ble_eq_true rfl⟩ rfl rfl (c_refuse (dd := d) (hd := by omega) (hW := hW) (a := 0) (b := 0) (c := 0)   (h_a := ⟨(by decide), (by decide)⟩) (h_b := ⟨(by decide), (by decide)⟩) (h_c := ⟨(by decide), (by decide)⟩)  ) (fun o V_q hq => ?_)
                        obtain ⟨G204, A205, r206, th2_207, rfl, rfl, hW208, hF209, b210, e211, q212⟩ := hq
                        have hF213 := Fr_tr hF0 hF209 (Fr_sub (by decide)) (Fr_sub (by decide))
                        have sf214 : (pg) = 1 → GZ (lk) A205 := (show A205 = A from funext (fun k => hF209.2 k rfl)) ▸ p_0
                        have bth2_207 : (0 : Int) ≤ th2_207 ∧ th2_207 ≤ 4 := e211 ▸ hW208.1 0
                        refine .inr ⟨_, rfl, ?_⟩
                        rcases q212 with ⟨rfl, a215, a216⟩ | ⟨rfl, a217, a218, a219⟩ | ⟨rfl, a220, a221, a222, a223⟩ | ⟨rfl, a224, a225, a226, a227⟩
                        · have _q : True := trivial
                          exfalso
                          omega
                        · have _q : True := trivial
                          exfalso
                          omega
                        · have _q : True := trivial
                          exfalso
                          omega
                        · have _q : True := trivial
                          refine jx_if_eq (pc_q := 118) (tg := 120) rfl rfl rfl (by decide) (by decide) (fun h228 => ?_) (fun h228 => ?_)
                          · have _q := h228
                            exact c_ready_at_120 (X := X) (d := d) (c0 := c0) (c1 := c1) (G := G) (A := A) (T := T) (p := p) (i := i) (pg := pg) (lk := lk) (bp := bp) (hd := hd) (hW := hW) (e_pg := e_pg) (e_lk := e_lk) (e_bp := e_bp) (h_p := h_p) (h_i := h_i) (p_0 := p_0) L133 G204 A205 (A 72 ((2 * p)).toNat) gL133_0 gL133_1 gL133_2 gL133_4 hW208 hF213 (by omega) (by omega) (by omega) (by omega) (by omega) (by omega) (by omega)
                          · have _q := h228
                            exact absurd h228 (by omega)
                      · have _q := h203
                        exact absurd h203 (by omega)
                    · have _q : True := trivial
                      refine jx_if_ne (pc_q := 107) (tg := 111) rfl rfl rfl (by decide) (by decide) (fun h229 => ?_) (fun h229 => ?_)
                      · have _q := h229
                        exact absurd h229 (by omega)
                      · have _q := h229
                        refine jx_ar (pc_q := 108) (st_q := [.int (i32 (1)), .int (i32 (0)), .int (i32 (0)), .ref 66]) rfl rfl rfl rfl ?_
                        refine jx_go (tg := 112) rfl rfl ?_
                        refine jx_vr (pc_q := 115) (as := [.int (i32 (0)), .int (i32 (0)), .int (i32 (1))]) (st := []) rfl rfl rfl rfl ⟨rfl, rfl, Nat.le_of_ble_eq_true rfl⟩ rfl rfl (c_refuse (dd := d) (hd := by omega) (hW := hW) (a := 0) (b := 0) (c := 1)   (h_a := ⟨(by decide), (by decide)⟩) (h_b := ⟨(by decide), (by decide)⟩) (h_c := ⟨(by decide), (by decide)⟩)  ) (fun o V_q hq => ?_)
                        obtain ⟨G230, A231, r232, th2_233, rfl, rfl, hW234, hF235, b236, e237, q238⟩ := hq
                        have hF239 := Fr_tr hF0 hF235 (Fr_sub (by decide)) (Fr_sub (by decide))
                        have sf240 : (pg) = 1 → GZ (lk) A231 := (show A231 = A from funext (fun k => hF235.2 k rfl)) ▸ p_0
                        have bth2_233 : (0 : Int) ≤ th2_233 ∧ th2_233 ≤ 4 := e237 ▸ hW234.1 0
                        refine .inr ⟨_, rfl, ?_⟩
                        rcases q238 with ⟨rfl, a241, a242⟩ | ⟨rfl, a243, a244, a245⟩ | ⟨rfl, a246, a247, a248, a249⟩ | ⟨rfl, a250, a251, a252, a253⟩
                        · have _q : True := trivial
                          exfalso
                          omega
                        · have _q : True := trivial
                          exfalso
                          omega
                        · have _q : True := trivial
                          refine jx_if_eq (pc_q := 118) (tg := 120) rfl rfl rfl (by decide) (by decide) (fun h254 => ?_) (fun h254 => ?_)
                          · have _q := h254
                            exact absurd h254 (by omega)
                          · have _q := h254
                            refine jx_ar (pc_q := 119) (st_q := [.int (i32 (0))]) rfl rfl rfl rfl ?_
                            refine jx_rt (v := some (.int (i32 (0)))) rfl rfl rfl rfl rfl rfl ?_
                            exact ⟨_, _, _, rfl, rfl, hW234, hF239, by omega, trivial⟩
                        · have _q : True := trivial
                          exfalso
                          omega
                · have _q := h195
                  exact absurd h195 (by omega)
            · have _q := h134
              refine jx_ar (pc_q := 71) (st_q := [.int (i32 (1)), .ref 66]) rfl rfl rfl rfl ?_
              refine jx_go (tg := 75) rfl rfl ?_
              refine jx_ld (pc_q := 76) (l_q := L133) (st_q := [.ref 66, .int (i32 (1)), .ref 66]) rfl (jl_aloadn gL133_0) ?_
              refine jr_get (pc_q := 79) (i := 58) (v := .int (i32 (pg))) rfl rfl (by decide) (rFv_eq (by decide) (show G 58 = pg from (e_pg))) rfl ?_
              refine jx_if_eq (pc_q := 82) (tg := 90) rfl rfl rfl (Int.le_trans (by decide : (-2147483648 : Int) ≤ 0) b_pg.1) (Int.le_trans b_pg.2 (by decide : (1 : Int) ≤ 2147483647)) (fun h255 => ?_) (fun h255 => ?_)
              · have _q := h255
                refine jx_ar (pc_q := 91) (st_q := [.int (i32 (0)), .int (i32 (1)), .ref 66]) rfl rfl rfl rfl ?_
                refine jx_ld (pc_q := 92) (l_q := L133) (st_q := [.int (i32 (1)), .int (i32 (0)), .int (i32 (1)), .ref 66]) rfl (jl_iloadn gL133_3) ?_
                refine jx_if_eq (pc_q := 95) (tg := 111) rfl rfl rfl (by decide) (by decide) (fun h256 => ?_) (fun h256 => ?_)
                · have _q := h256
                  exact absurd h256 (by omega)
                · have _q := h256
                  refine jx_ld (pc_q := 96) (l_q := L133) (st_q := [.int (i32 (i)), .int (i32 (0)), .int (i32 (1)), .ref 66]) rfl (jl_iloadn gL133_2) ?_
                  refine jx_ar (pc_q := 97) (st_q := [.int (i32 (0)), .int (i32 (i)), .int (i32 (0)), .int (i32 (1)), .ref 66]) rfl rfl rfl rfl ?_
                  refine jx_ld (pc_q := 99) (l_q := L133) (st_q := [.int (i32 ((A 72 ((2 * p)).toNat + A 72 (((2 * p) + 1)).toNat))), .int (i32 (0)), .int (i32 (i)), .int (i32 (0)), .int (i32 (1)), .ref 66]) rfl (jl_iload gL133_5) ?_
                  refine jx_ar (pc_q := 100) (st_q := [.int (i32 (1)), .int (i32 ((A 72 ((2 * p)).toNat + A 72 (((2 * p) + 1)).toNat))), .int (i32 (0)), .int (i32 (i)), .int (i32 (0)), .int (i32 (1)), .ref 66]) rfl rfl rfl rfl ?_
                  refine jx_sub (pc_q := 101) rfl rfl ?_
                  refine jx_st (pc_q := 104) (as := [.int (i32 (i)), .int (i32 (0)), .int (i32 (((A 72 ((2 * p)).toNat + A 72 (((2 * p) + 1)).toNat) - 1)))]) (st := [.int (i32 (0)), .int (i32 (1)), .ref 66]) rfl rfl ⟨rfl, Nat.le_of_ble_eq_true rfl⟩ rfl rfl rfl (c_in (dd := d) (hd := by omega) (v := i) (a := 0) (b := ((A 72 ((2 * p)).toNat + A 72 (((2 * p) + 1)).toNat) - 1))   (h_v := ⟨(Int.le_trans (by decide : (-2147483648 : Int) ≤ -2147483648) h_i.1), (Int.le_trans h_i.2 (by decide : (2147483647 : Int) ≤ 2147483647))⟩) (h_a := ⟨(by decide), (by decide)⟩) (h_b := ⟨(by omega), (by omega)⟩)  ) (fun o V_q hq => ?_)
                  obtain ⟨r257, rfl, rfl, b258, q259⟩ := hq
                  refine .inr ⟨_, rfl, ?_⟩
                  rcases q259 with ⟨rfl, a260, a261⟩ | ⟨rfl, a262⟩
                  · have _q : True := trivial
                    refine jx_if_ne (pc_q := 107) (tg := 111) rfl rfl rfl (by decide) (by decide) (fun h263 => ?_) (fun h263 => ?_)
                    · have _q := h263
                      refine jx_ar (pc_q := 112) (st_q := [.int (i32 (0)), .int (i32 (0)), .int (i32 (1)), .ref 66]) rfl rfl rfl rfl ?_
                      refine jx_vr (pc_q := 115) (as := [.int (i32 (1)), .int (i32 (0)), .int (i32 (0))]) (st := []) rfl rfl rfl rfl ⟨rfl, rfl, Nat.le_of_ble_eq_true rfl⟩ rfl rfl (c_refuse (dd := d) (hd := by omega) (hW := hW) (a := 1) (b := 0) (c := 0)   (h_a := ⟨(by decide), (by decide)⟩) (h_b := ⟨(by decide), (by decide)⟩) (h_c := ⟨(by decide), (by decide)⟩)  ) (fun o V_q hq => ?_)
                      obtain ⟨G264, A265, r266, th2_267, rfl, rfl, hW268, hF269, b270, e271, q272⟩ := hq
                      have hF273 := Fr_tr hF0 hF269 (Fr_sub (by decide)) (Fr_sub (by decide))
                      have sf274 : (pg) = 1 → GZ (lk) A265 := (show A265 = A from funext (fun k => hF269.2 k rfl)) ▸ p_0
                      have bth2_267 : (0 : Int) ≤ th2_267 ∧ th2_267 ≤ 4 := e271 ▸ hW268.1 0
                      refine .inr ⟨_, rfl, ?_⟩
                      rcases q272 with ⟨rfl, a275, a276⟩ | ⟨rfl, a277, a278, a279⟩ | ⟨rfl, a280, a281, a282, a283⟩ | ⟨rfl, a284, a285, a286, a287⟩
                      · have _q : True := trivial
                        refine jx_if_eq (pc_q := 118) (tg := 120) rfl rfl rfl (by decide) (by decide) (fun h288 => ?_) (fun h288 => ?_)
                        · have _q := h288
                          exact absurd h288 (by omega)
                        · have _q := h288
                          refine jx_ar (pc_q := 119) (st_q := [.int (i32 (0))]) rfl rfl rfl rfl ?_
                          refine jx_rt (v := some (.int (i32 (0)))) rfl rfl rfl rfl rfl rfl ?_
                          exact ⟨_, _, _, rfl, rfl, hW268, hF273, by omega, trivial⟩
                      · have _q : True := trivial
                        exfalso
                        omega
                      · have _q : True := trivial
                        exfalso
                        omega
                      · have _q : True := trivial
                        exfalso
                        omega
                    · have _q := h263
                      exact absurd h263 (by omega)
                  · have _q : True := trivial
                    refine jx_if_ne (pc_q := 107) (tg := 111) rfl rfl rfl (by decide) (by decide) (fun h289 => ?_) (fun h289 => ?_)
                    · have _q := h289
                      exact absurd h289 (by omega)
                    · have _q := h289
                      refine jx_ar (pc_q := 108) (st_q := [.int (i32 (1)), .int (i32 (0)), .int (i32 (1)), .ref 66]) rfl rfl rfl rfl ?_
                      refine jx_go (tg := 112) rfl rfl ?_
                      refine jx_vr (pc_q := 115) (as := [.int (i32 (1)), .int (i32 (0)), .int (i32 (1))]) (st := []) rfl rfl rfl rfl ⟨rfl, rfl, Nat.le_of_ble_eq_true rfl⟩ rfl rfl (c_refuse (dd := d) (hd := by omega) (hW := hW) (a := 1) (b := 0) (c := 1)   (h_a := ⟨(by decide), (by decide)⟩) (h_b := ⟨(by decide), (by decide)⟩) (h_c := ⟨(by decide), (by decide)⟩)  ) (fun o V_q hq => ?_)
                      obtain ⟨G290, A291, r292, th2_293, rfl, rfl, hW294, hF295, b296, e297, q298⟩ := hq
                      have hF299 := Fr_tr hF0 hF295 (Fr_sub (by decide)) (Fr_sub (by decide))
                      have sf300 : (pg) = 1 → GZ (lk) A291 := (show A291 = A from funext (fun k => hF295.2 k rfl)) ▸ p_0
                      have bth2_293 : (0 : Int) ≤ th2_293 ∧ th2_293 ≤ 4 := e297 ▸ hW294.1 0
                      refine .inr ⟨_, rfl, ?_⟩
                      rcases q298 with ⟨rfl, a301, a302⟩ | ⟨rfl, a303, a304, a305⟩ | ⟨rfl, a306, a307, a308, a309⟩ | ⟨rfl, a310, a311, a312, a313⟩
                      · have _q : True := trivial
                        refine jx_if_eq (pc_q := 118) (tg := 120) rfl rfl rfl (by decide) (by decide) (fun h314 => ?_) (fun h314 => ?_)
                        · have _q := h314
                          exact absurd h314 (by omega)
                        · have _q := h314
                          refine jx_ar (pc_q := 119) (st_q := [.int (i32 (0))]) rfl rfl rfl rfl ?_
                          refine jx_rt (v := some (.int (i32 (0)))) rfl rfl rfl rfl rfl rfl ?_
                          exact ⟨_, _, _, rfl, rfl, hW294, hF299, by omega, trivial⟩
                      · have _q : True := trivial
                        exfalso
                        omega
                      · have _q : True := trivial
                        exfalso
                        omega
                      · have _q : True := trivial
                        exfalso
                        omega
              · have _q := h255
                refine jx_ld (pc_q := 83) (l_q := L133) (st_q := [.int (i32 (1)), .int (i32 (1)), .ref 66]) rfl (jl_iloadn gL133_3) ?_
                refine jx_if_ne (pc_q := 86) (tg := 90) rfl rfl rfl (by decide) (by decide) (fun h315 => ?_) (fun h315 => ?_)
                · have _q := h315
                  refine jx_ar (pc_q := 91) (st_q := [.int (i32 (0)), .int (i32 (1)), .ref 66]) rfl rfl rfl rfl ?_
                  refine jx_ld (pc_q := 92) (l_q := L133) (st_q := [.int (i32 (1)), .int (i32 (0)), .int (i32 (1)), .ref 66]) rfl (jl_iloadn gL133_3) ?_
                  refine jx_if_eq (pc_q := 95) (tg := 111) rfl rfl rfl (by decide) (by decide) (fun h316 => ?_) (fun h316 => ?_)
                  · have _q := h316
                    exact absurd h316 (by omega)
                  · have _q := h316
                    refine jx_ld (pc_q := 96) (l_q := L133) (st_q := [.int (i32 (i)), .int (i32 (0)), .int (i32 (1)), .ref 66]) rfl (jl_iloadn gL133_2) ?_
                    refine jx_ar (pc_q := 97) (st_q := [.int (i32 (0)), .int (i32 (i)), .int (i32 (0)), .int (i32 (1)), .ref 66]) rfl rfl rfl rfl ?_
                    refine jx_ld (pc_q := 99) (l_q := L133) (st_q := [.int (i32 ((A 72 ((2 * p)).toNat + A 72 (((2 * p) + 1)).toNat))), .int (i32 (0)), .int (i32 (i)), .int (i32 (0)), .int (i32 (1)), .ref 66]) rfl (jl_iload gL133_5) ?_
                    refine jx_ar (pc_q := 100) (st_q := [.int (i32 (1)), .int (i32 ((A 72 ((2 * p)).toNat + A 72 (((2 * p) + 1)).toNat))), .int (i32 (0)), .int (i32 (i)), .int (i32 (0)), .int (i32 (1)), .ref 66]) rfl rfl rfl rfl ?_
                    refine jx_sub (pc_q := 101) rfl rfl ?_
                    refine jx_st (pc_q := 104) (as := [.int (i32 (i)), .int (i32 (0)), .int (i32 (((A 72 ((2 * p)).toNat + A 72 (((2 * p) + 1)).toNat) - 1)))]) (st := [.int (i32 (0)), .int (i32 (1)), .ref 66]) rfl rfl ⟨rfl, Nat.le_of_ble_eq_true rfl⟩ rfl rfl rfl (c_in (dd := d) (hd := by omega) (v := i) (a := 0) (b := ((A 72 ((2 * p)).toNat + A 72 (((2 * p) + 1)).toNat) - 1))   (h_v := ⟨(Int.le_trans (by decide : (-2147483648 : Int) ≤ -2147483648) h_i.1), (Int.le_trans h_i.2 (by decide : (2147483647 : Int) ≤ 2147483647))⟩) (h_a := ⟨(by decide), (by decide)⟩) (h_b := ⟨(by omega), (by omega)⟩)  ) (fun o V_q hq => ?_)
                    obtain ⟨r317, rfl, rfl, b318, q319⟩ := hq
                    refine .inr ⟨_, rfl, ?_⟩
                    rcases q319 with ⟨rfl, a320, a321⟩ | ⟨rfl, a322⟩
                    · have _q : True := trivial
                      refine jx_if_ne (pc_q := 107) (tg := 111) rfl rfl rfl (by decide) (by decide) (fun h323 => ?_) (fun h323 => ?_)
                      · have _q := h323
                        refine jx_ar (pc_q := 112) (st_q := [.int (i32 (0)), .int (i32 (0)), .int (i32 (1)), .ref 66]) rfl rfl rfl rfl ?_
                        refine jx_vr (pc_q := 115) (as := [.int (i32 (1)), .int (i32 (0)), .int (i32 (0))]) (st := []) rfl rfl rfl rfl ⟨rfl, rfl, Nat.le_of_ble_eq_true rfl⟩ rfl rfl (c_refuse (dd := d) (hd := by omega) (hW := hW) (a := 1) (b := 0) (c := 0)   (h_a := ⟨(by decide), (by decide)⟩) (h_b := ⟨(by decide), (by decide)⟩) (h_c := ⟨(by decide), (by decide)⟩)  ) (fun o V_q hq => ?_)
                        obtain ⟨G324, A325, r326, th2_327, rfl, rfl, hW328, hF329, b330, e331, q332⟩ := hq
                        have hF333 := Fr_tr hF0 hF329 (Fr_sub (by decide)) (Fr_sub (by decide))
                        have sf334 : (pg) = 1 → GZ (lk) A325 := (show A325 = A from funext (fun k => hF329.2 k rfl)) ▸ p_0
                        have bth2_327 : (0 : Int) ≤ th2_327 ∧ th2_327 ≤ 4 := e331 ▸ hW328.1 0
                        refine .inr ⟨_, rfl, ?_⟩
                        rcases q332 with ⟨rfl, a335, a336⟩ | ⟨rfl, a337, a338, a339⟩ | ⟨rfl, a340, a341, a342, a343⟩ | ⟨rfl, a344, a345, a346, a347⟩
                        · have _q : True := trivial
                          refine jx_if_eq (pc_q := 118) (tg := 120) rfl rfl rfl (by decide) (by decide) (fun h348 => ?_) (fun h348 => ?_)
                          · have _q := h348
                            exact absurd h348 (by omega)
                          · have _q := h348
                            refine jx_ar (pc_q := 119) (st_q := [.int (i32 (0))]) rfl rfl rfl rfl ?_
                            refine jx_rt (v := some (.int (i32 (0)))) rfl rfl rfl rfl rfl rfl ?_
                            exact ⟨_, _, _, rfl, rfl, hW328, hF333, by omega, trivial⟩
                        · have _q : True := trivial
                          exfalso
                          omega
                        · have _q : True := trivial
                          exfalso
                          omega
                        · have _q : True := trivial
                          exfalso
                          omega
                      · have _q := h323
                        exact absurd h323 (by omega)
                    · have _q : True := trivial
                      refine jx_if_ne (pc_q := 107) (tg := 111) rfl rfl rfl (by decide) (by decide) (fun h349 => ?_) (fun h349 => ?_)
                      · have _q := h349
                        exact absurd h349 (by omega)
                      · have _q := h349
                        refine jx_ar (pc_q := 108) (st_q := [.int (i32 (1)), .int (i32 (0)), .int (i32 (1)), .ref 66]) rfl rfl rfl rfl ?_
                        refine jx_go (tg := 112) rfl rfl ?_
                        refine jx_vr (pc_q := 115) (as := [.int (i32 (1)), .int (i32 (0)), .int (i32 (1))]) (st := []) rfl rfl rfl rfl ⟨rfl, rfl, Nat.le_of_ble_eq_true rfl⟩ rfl rfl (c_refuse (dd := d) (hd := by omega) (hW := hW) (a := 1) (b := 0) (c := 1)   (h_a := ⟨(by decide), (by decide)⟩) (h_b := ⟨(by decide), (by decide)⟩) (h_c := ⟨(by decide), (by decide)⟩)  ) (fun o V_q hq => ?_)
                        obtain ⟨G350, A351, r352, th2_353, rfl, rfl, hW354, hF355, b356, e357, q358⟩ := hq
                        have hF359 := Fr_tr hF0 hF355 (Fr_sub (by decide)) (Fr_sub (by decide))
                        have sf360 : (pg) = 1 → GZ (lk) A351 := (show A351 = A from funext (fun k => hF355.2 k rfl)) ▸ p_0
                        have bth2_353 : (0 : Int) ≤ th2_353 ∧ th2_353 ≤ 4 := e357 ▸ hW354.1 0
                        refine .inr ⟨_, rfl, ?_⟩
                        rcases q358 with ⟨rfl, a361, a362⟩ | ⟨rfl, a363, a364, a365⟩ | ⟨rfl, a366, a367, a368, a369⟩ | ⟨rfl, a370, a371, a372, a373⟩
                        · have _q : True := trivial
                          refine jx_if_eq (pc_q := 118) (tg := 120) rfl rfl rfl (by decide) (by decide) (fun h374 => ?_) (fun h374 => ?_)
                          · have _q := h374
                            exact absurd h374 (by omega)
                          · have _q := h374
                            refine jx_ar (pc_q := 119) (st_q := [.int (i32 (0))]) rfl rfl rfl rfl ?_
                            refine jx_rt (v := some (.int (i32 (0)))) rfl rfl rfl rfl rfl rfl ?_
                            exact ⟨_, _, _, rfl, rfl, hW354, hF359, by omega, trivial⟩
                        · have _q : True := trivial
                          exfalso
                          omega
                        · have _q : True := trivial
                          exfalso
                          omega
                        · have _q : True := trivial
                          exfalso
                          omega
                · have _q := h315
                  exact absurd h315 (by omega)
    · have _q : True := trivial
      refine jx_if_eq (pc_q := 15) (tg := 19) rfl rfl rfl (by decide) (by decide) (fun h375 => ?_) (fun h375 => ?_)
      · have _q := h375
        refine jx_ar (pc_q := 20) (st_q := [.int (i32 (0))]) rfl rfl rfl rfl ?_
        refine jx_ld (pc_q := 21) (l_q := jSto1 [(0, .ref 66), (1, .int (i32 (p))), (2, .int (i32 (i)))] 3 (.int (i32 (0)))) (st_q := []) rfl rfl ?_
        obtain ⟨L376, eL376⟩ : ∃ q, q = jSto1 [(0, .ref 66), (1, .int (i32 (p))), (2, .int (i32 (i)))] 3 (.int (i32 (0))) := ⟨_, rfl⟩
        rw [← eL376]
        have gL376_0 : jGet L376 0 = some (.ref 66) := eL376 ▸ jg_ne (by decide) (rfl : jGet [(0, .ref 66), (1, .int (i32 (p))), (2, .int (i32 (i)))] 0 = some (.ref 66)) rfl
        have gL376_1 : jGet L376 1 = some (.int (i32 (p))) := eL376 ▸ jg_ne (by decide) (rfl : jGet [(0, .ref 66), (1, .int (i32 (p))), (2, .int (i32 (i)))] 1 = some (.int (i32 (p)))) rfl
        have gL376_2 : jGet L376 2 = some (.int (i32 (i))) := eL376 ▸ jg_ne (by decide) (rfl : jGet [(0, .ref 66), (1, .int (i32 (p))), (2, .int (i32 (i)))] 2 = some (.int (i32 (i)))) rfl
        have gL376_3 : jGet L376 3 = some (.int (i32 (0))) := eL376 ▸ jg_eq
        refine jx_ld (pc_q := 22) (l_q := L376) (st_q := [.int (i32 (0))]) rfl (jl_iloadn gL376_3) ?_
        refine jx_if_eq (pc_q := 25) (tg := 36) rfl rfl rfl (by decide) (by decide) (fun h377 => ?_) (fun h377 => ?_)
        · have _q := h377
          refine jx_ar (pc_q := 37) (st_q := [.int (i32 (0))]) rfl rfl rfl rfl ?_
          refine jx_ld (pc_q := 39) (l_q := jSto1 L376 4 (.int (i32 (0)))) (st_q := []) rfl rfl ?_
          obtain ⟨L378, eL378⟩ : ∃ q, q = jSto1 L376 4 (.int (i32 (0))) := ⟨_, rfl⟩
          rw [← eL378]
          have gL378_0 : jGet L378 0 = some (.ref 66) := eL378 ▸ jg_ne (by decide) gL376_0 rfl
          have gL378_1 : jGet L378 1 = some (.int (i32 (p))) := eL378 ▸ jg_ne (by decide) gL376_1 rfl
          have gL378_2 : jGet L378 2 = some (.int (i32 (i))) := eL378 ▸ jg_ne (by decide) gL376_2 rfl
          have gL378_3 : jGet L378 3 = some (.int (i32 (0))) := eL378 ▸ jg_ne (by decide) gL376_3 rfl
          have gL378_4 : jGet L378 4 = some (.int (i32 (0))) := eL378 ▸ jg_eq
          refine jx_ld (pc_q := 40) (l_q := L378) (st_q := [.int (i32 (0))]) rfl (jl_iloadn gL378_3) ?_
          refine jx_if_eq (pc_q := 43) (tg := 59) rfl rfl rfl (by decide) (by decide) (fun h379 => ?_) (fun h379 => ?_)
          · have _q := h379
            refine jx_ar (pc_q := 60) (st_q := [.int (i32 (0))]) rfl rfl rfl rfl ?_
            refine jx_ld (pc_q := 62) (l_q := jSto1 L378 5 (.int (i32 (0)))) (st_q := []) rfl rfl ?_
            obtain ⟨L380, eL380⟩ : ∃ q, q = jSto1 L378 5 (.int (i32 (0))) := ⟨_, rfl⟩
            rw [← eL380]
            have gL380_0 : jGet L380 0 = some (.ref 66) := eL380 ▸ jg_ne (by decide) gL378_0 rfl
            have gL380_1 : jGet L380 1 = some (.int (i32 (p))) := eL380 ▸ jg_ne (by decide) gL378_1 rfl
            have gL380_2 : jGet L380 2 = some (.int (i32 (i))) := eL380 ▸ jg_ne (by decide) gL378_2 rfl
            have gL380_3 : jGet L380 3 = some (.int (i32 (0))) := eL380 ▸ jg_ne (by decide) gL378_3 rfl
            have gL380_4 : jGet L380 4 = some (.int (i32 (0))) := eL380 ▸ jg_ne (by decide) gL378_4 rfl
            have gL380_5 : jGet L380 5 = some (.int (i32 (0))) := eL380 ▸ jg_eq
            refine jx_ld (pc_q := 63) (l_q := L380) (st_q := [.ref 66]) rfl (jl_aloadn gL380_0) ?_
            refine jx_ld (pc_q := 64) (l_q := L380) (st_q := [.ref 66, .ref 66]) rfl (jl_aloadn gL380_0) ?_
            refine jr_get (pc_q := 67) (i := 58) (v := .int (i32 (pg))) rfl rfl (by decide) (rFv_eq (by decide) (show G 58 = pg from (e_pg))) rfl ?_
            refine jx_if_ne (pc_q := 70) (tg := 74) rfl rfl rfl (Int.le_trans (by decide : (-2147483648 : Int) ≤ 0) b_pg.1) (Int.le_trans b_pg.2 (by decide : (1 : Int) ≤ 2147483647)) (fun h381 => ?_) (fun h381 => ?_)
            · have _q := h381
              refine jx_ar (pc_q := 75) (st_q := [.int (i32 (0)), .ref 66]) rfl rfl rfl rfl ?_
              refine jx_ld (pc_q := 76) (l_q := L380) (st_q := [.ref 66, .int (i32 (0)), .ref 66]) rfl (jl_aloadn gL380_0) ?_
              refine jr_get (pc_q := 79) (i := 58) (v := .int (i32 (pg))) rfl rfl (by decide) (rFv_eq (by decide) (show G 58 = pg from (e_pg))) rfl ?_
              refine jx_if_eq (pc_q := 82) (tg := 90) rfl rfl rfl (Int.le_trans (by decide : (-2147483648 : Int) ≤ 0) b_pg.1) (Int.le_trans b_pg.2 (by decide : (1 : Int) ≤ 2147483647)) (fun h382 => ?_) (fun h382 => ?_)
              · have _q := h382
                refine jx_ar (pc_q := 91) (st_q := [.int (i32 (0)), .int (i32 (0)), .ref 66]) rfl rfl rfl rfl ?_
                refine jx_ld (pc_q := 92) (l_q := L380) (st_q := [.int (i32 (0)), .int (i32 (0)), .int (i32 (0)), .ref 66]) rfl (jl_iloadn gL380_3) ?_
                refine jx_if_eq (pc_q := 95) (tg := 111) rfl rfl rfl (by decide) (by decide) (fun h383 => ?_) (fun h383 => ?_)
                · have _q := h383
                  refine jx_ar (pc_q := 112) (st_q := [.int (i32 (0)), .int (i32 (0)), .int (i32 (0)), .ref 66]) rfl rfl rfl rfl ?_
                  refine jx_vr (pc_q := 115) (as := [.int (i32 (0)), .int (i32 (0)), .int (i32 (0))]) (st := []) rfl rfl rfl rfl ⟨rfl, rfl, Nat.le_of_ble_eq_true rfl⟩ rfl rfl (c_refuse (dd := d) (hd := by omega) (hW := hW) (a := 0) (b := 0) (c := 0)   (h_a := ⟨(by decide), (by decide)⟩) (h_b := ⟨(by decide), (by decide)⟩) (h_c := ⟨(by decide), (by decide)⟩)  ) (fun o V_q hq => ?_)
                  obtain ⟨G384, A385, r386, th2_387, rfl, rfl, hW388, hF389, b390, e391, q392⟩ := hq
                  have hF393 := Fr_tr hF0 hF389 (Fr_sub (by decide)) (Fr_sub (by decide))
                  have sf394 : (pg) = 1 → GZ (lk) A385 := (show A385 = A from funext (fun k => hF389.2 k rfl)) ▸ p_0
                  have bth2_387 : (0 : Int) ≤ th2_387 ∧ th2_387 ≤ 4 := e391 ▸ hW388.1 0
                  refine .inr ⟨_, rfl, ?_⟩
                  rcases q392 with ⟨rfl, a395, a396⟩ | ⟨rfl, a397, a398, a399⟩ | ⟨rfl, a400, a401, a402, a403⟩ | ⟨rfl, a404, a405, a406, a407⟩
                  · have _q : True := trivial
                    exfalso
                    omega
                  · have _q : True := trivial
                    exfalso
                    omega
                  · have _q : True := trivial
                    exfalso
                    omega
                  · have _q : True := trivial
                    refine jx_if_eq (pc_q := 118) (tg := 120) rfl rfl rfl (by decide) (by decide) (fun h408 => ?_) (fun h408 => ?_)
                    · have _q := h408
                      exact c_ready_at_120 (X := X) (d := d) (c0 := c0) (c1 := c1) (G := G) (A := A) (T := T) (p := p) (i := i) (pg := pg) (lk := lk) (bp := bp) (hd := hd) (hW := hW) (e_pg := e_pg) (e_lk := e_lk) (e_bp := e_bp) (h_p := h_p) (h_i := h_i) (p_0 := p_0) L380 G384 A385 (0) gL380_0 gL380_1 gL380_2 gL380_4 hW388 hF393 (by omega) (by omega) (by omega) (by omega) (by omega) (by omega) (by omega)
                    · have _q := h408
                      exact absurd h408 (by omega)
                · have _q := h383
                  exact absurd h383 (by omega)
              · have _q := h382
                refine jx_ld (pc_q := 83) (l_q := L380) (st_q := [.int (i32 (0)), .int (i32 (0)), .ref 66]) rfl (jl_iloadn gL380_3) ?_
                refine jx_if_ne (pc_q := 86) (tg := 90) rfl rfl rfl (by decide) (by decide) (fun h409 => ?_) (fun h409 => ?_)
                · have _q := h409
                  exact absurd h409 (by omega)
                · have _q := h409
                  refine jx_ar (pc_q := 87) (st_q := [.int (i32 (1)), .int (i32 (0)), .ref 66]) rfl rfl rfl rfl ?_
                  refine jx_go (tg := 91) rfl rfl ?_
                  refine jx_ld (pc_q := 92) (l_q := L380) (st_q := [.int (i32 (0)), .int (i32 (1)), .int (i32 (0)), .ref 66]) rfl (jl_iloadn gL380_3) ?_
                  refine jx_if_eq (pc_q := 95) (tg := 111) rfl rfl rfl (by decide) (by decide) (fun h410 => ?_) (fun h410 => ?_)
                  · have _q := h410
                    refine jx_ar (pc_q := 112) (st_q := [.int (i32 (0)), .int (i32 (1)), .int (i32 (0)), .ref 66]) rfl rfl rfl rfl ?_
                    refine jx_vr (pc_q := 115) (as := [.int (i32 (0)), .int (i32 (1)), .int (i32 (0))]) (st := []) rfl rfl rfl rfl ⟨rfl, rfl, Nat.le_of_ble_eq_true rfl⟩ rfl rfl (c_refuse (dd := d) (hd := by omega) (hW := hW) (a := 0) (b := 1) (c := 0)   (h_a := ⟨(by decide), (by decide)⟩) (h_b := ⟨(by decide), (by decide)⟩) (h_c := ⟨(by decide), (by decide)⟩)  ) (fun o V_q hq => ?_)
                    obtain ⟨G411, A412, r413, th2_414, rfl, rfl, hW415, hF416, b417, e418, q419⟩ := hq
                    have hF420 := Fr_tr hF0 hF416 (Fr_sub (by decide)) (Fr_sub (by decide))
                    have sf421 : (pg) = 1 → GZ (lk) A412 := (show A412 = A from funext (fun k => hF416.2 k rfl)) ▸ p_0
                    have bth2_414 : (0 : Int) ≤ th2_414 ∧ th2_414 ≤ 4 := e418 ▸ hW415.1 0
                    refine .inr ⟨_, rfl, ?_⟩
                    rcases q419 with ⟨rfl, a422, a423⟩ | ⟨rfl, a424, a425, a426⟩ | ⟨rfl, a427, a428, a429, a430⟩ | ⟨rfl, a431, a432, a433, a434⟩
                    · have _q : True := trivial
                      exfalso
                      omega
                    · have _q : True := trivial
                      refine jx_if_eq (pc_q := 118) (tg := 120) rfl rfl rfl (by decide) (by decide) (fun h435 => ?_) (fun h435 => ?_)
                      · have _q := h435
                        exact absurd h435 (by omega)
                      · have _q := h435
                        refine jx_ar (pc_q := 119) (st_q := [.int (i32 (0))]) rfl rfl rfl rfl ?_
                        refine jx_rt (v := some (.int (i32 (0)))) rfl rfl rfl rfl rfl rfl ?_
                        exact ⟨_, _, _, rfl, rfl, hW415, hF420, by omega, trivial⟩
                    · have _q : True := trivial
                      exfalso
                      omega
                    · have _q : True := trivial
                      exfalso
                      omega
                  · have _q := h410
                    exact absurd h410 (by omega)
            · have _q := h381
              refine jx_ar (pc_q := 71) (st_q := [.int (i32 (1)), .ref 66]) rfl rfl rfl rfl ?_
              refine jx_go (tg := 75) rfl rfl ?_
              refine jx_ld (pc_q := 76) (l_q := L380) (st_q := [.ref 66, .int (i32 (1)), .ref 66]) rfl (jl_aloadn gL380_0) ?_
              refine jr_get (pc_q := 79) (i := 58) (v := .int (i32 (pg))) rfl rfl (by decide) (rFv_eq (by decide) (show G 58 = pg from (e_pg))) rfl ?_
              refine jx_if_eq (pc_q := 82) (tg := 90) rfl rfl rfl (Int.le_trans (by decide : (-2147483648 : Int) ≤ 0) b_pg.1) (Int.le_trans b_pg.2 (by decide : (1 : Int) ≤ 2147483647)) (fun h436 => ?_) (fun h436 => ?_)
              · have _q := h436
                refine jx_ar (pc_q := 91) (st_q := [.int (i32 (0)), .int (i32 (1)), .ref 66]) rfl rfl rfl rfl ?_
                refine jx_ld (pc_q := 92) (l_q := L380) (st_q := [.int (i32 (0)), .int (i32 (0)), .int (i32 (1)), .ref 66]) rfl (jl_iloadn gL380_3) ?_
                refine jx_if_eq (pc_q := 95) (tg := 111) rfl rfl rfl (by decide) (by decide) (fun h437 => ?_) (fun h437 => ?_)
                · have _q := h437
                  refine jx_ar (pc_q := 112) (st_q := [.int (i32 (0)), .int (i32 (0)), .int (i32 (1)), .ref 66]) rfl rfl rfl rfl ?_
                  refine jx_vr (pc_q := 115) (as := [.int (i32 (1)), .int (i32 (0)), .int (i32 (0))]) (st := []) rfl rfl rfl rfl ⟨rfl, rfl, Nat.le_of_ble_eq_true rfl⟩ rfl rfl (c_refuse (dd := d) (hd := by omega) (hW := hW) (a := 1) (b := 0) (c := 0)   (h_a := ⟨(by decide), (by decide)⟩) (h_b := ⟨(by decide), (by decide)⟩) (h_c := ⟨(by decide), (by decide)⟩)  ) (fun o V_q hq => ?_)
                  obtain ⟨G438, A439, r440, th2_441, rfl, rfl, hW442, hF443, b444, e445, q446⟩ := hq
                  have hF447 := Fr_tr hF0 hF443 (Fr_sub (by decide)) (Fr_sub (by decide))
                  have sf448 : (pg) = 1 → GZ (lk) A439 := (show A439 = A from funext (fun k => hF443.2 k rfl)) ▸ p_0
                  have bth2_441 : (0 : Int) ≤ th2_441 ∧ th2_441 ≤ 4 := e445 ▸ hW442.1 0
                  refine .inr ⟨_, rfl, ?_⟩
                  rcases q446 with ⟨rfl, a449, a450⟩ | ⟨rfl, a451, a452, a453⟩ | ⟨rfl, a454, a455, a456, a457⟩ | ⟨rfl, a458, a459, a460, a461⟩
                  · have _q : True := trivial
                    refine jx_if_eq (pc_q := 118) (tg := 120) rfl rfl rfl (by decide) (by decide) (fun h462 => ?_) (fun h462 => ?_)
                    · have _q := h462
                      exact absurd h462 (by omega)
                    · have _q := h462
                      refine jx_ar (pc_q := 119) (st_q := [.int (i32 (0))]) rfl rfl rfl rfl ?_
                      refine jx_rt (v := some (.int (i32 (0)))) rfl rfl rfl rfl rfl rfl ?_
                      exact ⟨_, _, _, rfl, rfl, hW442, hF447, by omega, trivial⟩
                  · have _q : True := trivial
                    exfalso
                    omega
                  · have _q : True := trivial
                    exfalso
                    omega
                  · have _q : True := trivial
                    exfalso
                    omega
                · have _q := h437
                  exact absurd h437 (by omega)
              · have _q := h436
                refine jx_ld (pc_q := 83) (l_q := L380) (st_q := [.int (i32 (0)), .int (i32 (1)), .ref 66]) rfl (jl_iloadn gL380_3) ?_
                refine jx_if_ne (pc_q := 86) (tg := 90) rfl rfl rfl (by decide) (by decide) (fun h463 => ?_) (fun h463 => ?_)
                · have _q := h463
                  exact absurd h463 (by omega)
                · have _q := h463
                  refine jx_ar (pc_q := 87) (st_q := [.int (i32 (1)), .int (i32 (1)), .ref 66]) rfl rfl rfl rfl ?_
                  refine jx_go (tg := 91) rfl rfl ?_
                  refine jx_ld (pc_q := 92) (l_q := L380) (st_q := [.int (i32 (0)), .int (i32 (1)), .int (i32 (1)), .ref 66]) rfl (jl_iloadn gL380_3) ?_
                  refine jx_if_eq (pc_q := 95) (tg := 111) rfl rfl rfl (by decide) (by decide) (fun h464 => ?_) (fun h464 => ?_)
                  · have _q := h464
                    refine jx_ar (pc_q := 112) (st_q := [.int (i32 (0)), .int (i32 (1)), .int (i32 (1)), .ref 66]) rfl rfl rfl rfl ?_
                    refine jx_vr (pc_q := 115) (as := [.int (i32 (1)), .int (i32 (1)), .int (i32 (0))]) (st := []) rfl rfl rfl rfl ⟨rfl, rfl, Nat.le_of_ble_eq_true rfl⟩ rfl rfl (c_refuse (dd := d) (hd := by omega) (hW := hW) (a := 1) (b := 1) (c := 0)   (h_a := ⟨(by decide), (by decide)⟩) (h_b := ⟨(by decide), (by decide)⟩) (h_c := ⟨(by decide), (by decide)⟩)  ) (fun o V_q hq => ?_)
                    obtain ⟨G465, A466, r467, th2_468, rfl, rfl, hW469, hF470, b471, e472, q473⟩ := hq
                    have hF474 := Fr_tr hF0 hF470 (Fr_sub (by decide)) (Fr_sub (by decide))
                    have sf475 : (pg) = 1 → GZ (lk) A466 := (show A466 = A from funext (fun k => hF470.2 k rfl)) ▸ p_0
                    have bth2_468 : (0 : Int) ≤ th2_468 ∧ th2_468 ≤ 4 := e472 ▸ hW469.1 0
                    refine .inr ⟨_, rfl, ?_⟩
                    rcases q473 with ⟨rfl, a476, a477⟩ | ⟨rfl, a478, a479, a480⟩ | ⟨rfl, a481, a482, a483, a484⟩ | ⟨rfl, a485, a486, a487, a488⟩
                    · have _q : True := trivial
                      refine jx_if_eq (pc_q := 118) (tg := 120) rfl rfl rfl (by decide) (by decide) (fun h489 => ?_) (fun h489 => ?_)
                      · have _q := h489
                        exact absurd h489 (by omega)
                      · have _q := h489
                        refine jx_ar (pc_q := 119) (st_q := [.int (i32 (0))]) rfl rfl rfl rfl ?_
                        refine jx_rt (v := some (.int (i32 (0)))) rfl rfl rfl rfl rfl rfl ?_
                        exact ⟨_, _, _, rfl, rfl, hW469, hF474, by omega, trivial⟩
                    · have _q : True := trivial
                      exfalso
                      omega
                    · have _q : True := trivial
                      exfalso
                      omega
                    · have _q : True := trivial
                      exfalso
                      omega
                  · have _q := h464
                    exact absurd h464 (by omega)
          · have _q := h379
            exact absurd h379 (by omega)
        · have _q := h377
          exact absurd h377 (by omega)
      · have _q := h375
        exact absurd h375 (by omega)
set_option maxRecDepth 20000 in
set_option maxHeartbeats 4000000 in
theorem c_word_at_109 {X : jX} {d : Nat} {c0 c1 : jC} {G : Nat → Int} {A : Nat → Nat → Int} {T : jH} {p a : Int} {pg bp : Int} (hd : 3 ≤ d + 1) (hW : Wk G A) (e_pg : G 58 = pg) (e_bp : A 36 (p).toNat = bp) (h_p : (-2147483648 : Int) ≤ p ∧ p ≤ 2147483647) (h_a : (-2147483648 : Int) ≤ a ∧ a ≤ 2147483647) (p_0 : (pg) = 1 → BD A) : ∀ (L : jL) (Gx : Nat → Int) (Ax : Nat → Nat → Int), jGet L 0 = some (.ref 66) → jGet L 1 = some (.int (i32 (p))) → jGet L 2 = some (.int (i32 (a))) → Wk Gx Ax → Fr [0] [] G A Gx Ax → (0 ≤ p) → (p ≤ 5) → (0 ≤ a) → (a ≤ 4015) → wj X d jm410 (109, L, [], rV c0 c1 Gx Ax T) (fun o V_q => ∃ (G_q : Nat → Int) (A_q : Nat → Nat → Int) (r : Int), V_q = rV c0 c1 G_q A_q T ∧ o = .inl (some (.int (i32 r))) ∧ Wk G_q A_q ∧ Fr [0] [] G A G_q A_q ∧ ((-2147483648 : Int) ≤ r ∧ r ≤ 2147483647) ∧ True) := by
  have hF0 : Fr [0] [] G A G A := Fr_rf
  have b_pg : (0 : Int) ≤ pg ∧ pg ≤ 1 := e_pg ▸ hW.1 58
  have b_bp : (-2147483648 : Int) ≤ bp ∧ bp ≤ 2147483647 := e_bp ▸ hW.2 36 _
  intro L Gx Ax gL_0 gL_1 gL_2 hWx hFx iv_0 iv_1 iv_2 iv_3
  refine jx_ld (pc_q := 110) (l_q := L) (st_q := [.ref 66]) rfl (jl_aloadn gL_0) ?_
  refine jr_get (pc_q := 113) (i := 90) (v := .ref 126) rfl rfl (by decide) rfl rfl ?_
  refine jx_ar (pc_q := 116) (st_q := [.int (i32 (4016)), .ref 126]) rfl rfl rfl rfl ?_
  refine jx_ld (pc_q := 117) (l_q := L) (st_q := [.int (i32 (p)), .int (i32 (4016)), .ref 126]) rfl (jl_iloadn gL_1) ?_
  refine jx_mul (pc_q := 118) rfl rfl ?_
  refine jx_ld (pc_q := 119) (l_q := L) (st_q := [.int (i32 (a)), .int (i32 ((4016 * p))), .ref 126]) rfl (jl_iloadn gL_2) ?_
  refine jx_add (pc_q := 120) rfl rfl ?_
  have b1 : (-2147483648 : Int) ≤ A 59 (((4016 * p) + a)).toNat ∧ A 59 (((4016 * p) + a)).toNat ≤ 2147483647 := hW.2 59 _
  refine jr_ldv (pc_q := 121) (i := 59) (m := 24096) (z := ((4016 * p) + a)) (y := A 59 (((4016 * p) + a)).toNat) rfl (by decide) rfl (by decide) (by omega) (by omega) rfl (show Ax 59 (((4016 * p) + a)).toNat = A 59 (((4016 * p) + a)).toNat from (congrFun (hFx.2 59 rfl) _)) ?_
  refine jx_rt (v := some (.int (i32 (A 59 (((4016 * p) + a)).toNat)))) rfl rfl rfl rfl rfl rfl ?_
  exact ⟨_, _, _, rfl, rfl, hWx, hFx, by omega, trivial⟩
set_option maxRecDepth 20000 in
set_option maxHeartbeats 4000000 in
theorem c_word {X : jX} {dd : Nat} {c0 c1 : jC} {G : Nat → Int} {A : Nat → Nat → Int} {T : jH} {p a : Int} {pg bp : Int} (hd : 3 ≤ dd) (hW : Wk G A) (e_pg : G 58 = pg) (e_bp : A 36 (p).toNat = bp) (h_p : (-2147483648 : Int) ≤ p ∧ p ≤ 2147483647) (h_a : (-2147483648 : Int) ≤ a ∧ a ≤ 2147483647) (p_0 : (pg) = 1 → BD A) : wk X dd 410 [.ref 66, .int (i32 p), .int (i32 a)] (rV c0 c1 G A T) (fun o V_q => ∃ (G_q : Nat → Int) (A_q : Nat → Nat → Int) (r : Int), V_q = rV c0 c1 G_q A_q T ∧ o = .inl (some (.int (i32 r))) ∧ Wk G_q A_q ∧ Fr [0] [] G A G_q A_q ∧ ((-2147483648 : Int) ≤ r ∧ r ≤ 2147483647) ∧ True) := by
  obtain ⟨d, rfl⟩ : ∃ d, dd = d + 1 := ⟨dd - 1, by omega⟩
  refine wk_of (e := jm410) rfl (Nat.le_of_ble_eq_true rfl) ?_
  show wj X d jm410 (0, [(0, .ref 66), (1, .int (i32 (p))), (2, .int (i32 (a)))], [], rV c0 c1 G A T) _
  have hF0 : Fr [0] [] G A G A := Fr_rf
  have b_pg : (0 : Int) ≤ pg ∧ pg ≤ 1 := e_pg ▸ hW.1 58
  have b_bp : (-2147483648 : Int) ≤ bp ∧ bp ≤ 2147483647 := e_bp ▸ hW.2 36 _
  refine jx_ld (pc_q := 1) (l_q := [(0, .ref 66), (1, .int (i32 (p))), (2, .int (i32 (a)))]) (st_q := [.ref 66]) rfl (jl_aloadn rfl) ?_
  refine jr_get (pc_q := 4) (i := 58) (v := .int (i32 (pg))) rfl rfl (by decide) (rFv_eq (by decide) (show G 58 = pg from (e_pg))) rfl ?_
  refine jx_if_eq (pc_q := 7) (tg := 19) rfl rfl rfl (Int.le_trans (by decide : (-2147483648 : Int) ≤ 0) b_pg.1) (Int.le_trans b_pg.2 (by decide : (1 : Int) ≤ 2147483647)) (fun h2 => ?_) (fun h2 => ?_)
  · have _q := h2
    refine jx_ar (pc_q := 20) (st_q := [.int (i32 (0))]) rfl rfl rfl rfl ?_
    refine jx_ld (pc_q := 21) (l_q := jSto1 [(0, .ref 66), (1, .int (i32 (p))), (2, .int (i32 (a)))] 3 (.int (i32 (0)))) (st_q := []) rfl rfl ?_
    obtain ⟨L3, eL3⟩ : ∃ q, q = jSto1 [(0, .ref 66), (1, .int (i32 (p))), (2, .int (i32 (a)))] 3 (.int (i32 (0))) := ⟨_, rfl⟩
    rw [← eL3]
    have gL3_0 : jGet L3 0 = some (.ref 66) := eL3 ▸ jg_ne (by decide) (rfl : jGet [(0, .ref 66), (1, .int (i32 (p))), (2, .int (i32 (a)))] 0 = some (.ref 66)) rfl
    have gL3_1 : jGet L3 1 = some (.int (i32 (p))) := eL3 ▸ jg_ne (by decide) (rfl : jGet [(0, .ref 66), (1, .int (i32 (p))), (2, .int (i32 (a)))] 1 = some (.int (i32 (p)))) rfl
    have gL3_2 : jGet L3 2 = some (.int (i32 (a))) := eL3 ▸ jg_ne (by decide) (rfl : jGet [(0, .ref 66), (1, .int (i32 (p))), (2, .int (i32 (a)))] 2 = some (.int (i32 (a)))) rfl
    have gL3_3 : jGet L3 3 = some (.int (i32 (0))) := eL3 ▸ jg_eq
    refine jx_ld (pc_q := 22) (l_q := L3) (st_q := [.int (i32 (0))]) rfl (jl_iloadn gL3_3) ?_
    refine jx_if_eq (pc_q := 25) (tg := 55) rfl rfl rfl (by decide) (by decide) (fun h4 => ?_) (fun h4 => ?_)
    · have _q := h4
      refine jx_ar (pc_q := 56) (st_q := [.int (i32 (0))]) rfl rfl rfl rfl ?_
      refine jx_ld (pc_q := 58) (l_q := jSto1 L3 4 (.int (i32 (0)))) (st_q := []) rfl rfl ?_
      obtain ⟨L5, eL5⟩ : ∃ q, q = jSto1 L3 4 (.int (i32 (0))) := ⟨_, rfl⟩
      rw [← eL5]
      have gL5_0 : jGet L5 0 = some (.ref 66) := eL5 ▸ jg_ne (by decide) gL3_0 rfl
      have gL5_1 : jGet L5 1 = some (.int (i32 (p))) := eL5 ▸ jg_ne (by decide) gL3_1 rfl
      have gL5_2 : jGet L5 2 = some (.int (i32 (a))) := eL5 ▸ jg_ne (by decide) gL3_2 rfl
      have gL5_3 : jGet L5 3 = some (.int (i32 (0))) := eL5 ▸ jg_ne (by decide) gL3_3 rfl
      have gL5_4 : jGet L5 4 = some (.int (i32 (0))) := eL5 ▸ jg_eq
      refine jx_ld (pc_q := 59) (l_q := L5) (st_q := [.ref 66]) rfl (jl_aloadn gL5_0) ?_
      refine jx_ld (pc_q := 60) (l_q := L5) (st_q := [.ref 66, .ref 66]) rfl (jl_aloadn gL5_0) ?_
      refine jr_get (pc_q := 63) (i := 58) (v := .int (i32 (pg))) rfl rfl (by decide) (rFv_eq (by decide) (show G 58 = pg from (e_pg))) rfl ?_
      refine jx_if_ne (pc_q := 66) (tg := 70) rfl rfl rfl (Int.le_trans (by decide : (-2147483648 : Int) ≤ 0) b_pg.1) (Int.le_trans b_pg.2 (by decide : (1 : Int) ≤ 2147483647)) (fun h6 => ?_) (fun h6 => ?_)
      · have _q := h6
        refine jx_ar (pc_q := 71) (st_q := [.int (i32 (0)), .ref 66]) rfl rfl rfl rfl ?_
        refine jx_ld (pc_q := 72) (l_q := L5) (st_q := [.ref 66, .int (i32 (0)), .ref 66]) rfl (jl_aloadn gL5_0) ?_
        refine jr_get (pc_q := 75) (i := 58) (v := .int (i32 (pg))) rfl rfl (by decide) (rFv_eq (by decide) (show G 58 = pg from (e_pg))) rfl ?_
        refine jx_if_eq (pc_q := 78) (tg := 86) rfl rfl rfl (Int.le_trans (by decide : (-2147483648 : Int) ≤ 0) b_pg.1) (Int.le_trans b_pg.2 (by decide : (1 : Int) ≤ 2147483647)) (fun h7 => ?_) (fun h7 => ?_)
        · have _q := h7
          refine jx_ar (pc_q := 87) (st_q := [.int (i32 (0)), .int (i32 (0)), .ref 66]) rfl rfl rfl rfl ?_
          refine jx_ld (pc_q := 88) (l_q := L5) (st_q := [.int (i32 (0)), .int (i32 (0)), .int (i32 (0)), .ref 66]) rfl (jl_iloadn gL5_3) ?_
          refine jx_if_eq (pc_q := 91) (tg := 100) rfl rfl rfl (by decide) (by decide) (fun h8 => ?_) (fun h8 => ?_)
          · have _q := h8
            refine jx_ar (pc_q := 101) (st_q := [.int (i32 (0)), .int (i32 (0)), .int (i32 (0)), .ref 66]) rfl rfl rfl rfl ?_
            refine jx_vr (pc_q := 104) (as := [.int (i32 (0)), .int (i32 (0)), .int (i32 (0))]) (st := []) rfl rfl rfl rfl ⟨rfl, rfl, Nat.le_of_ble_eq_true rfl⟩ rfl rfl (c_refuse (dd := d) (hd := by omega) (hW := hW) (a := 0) (b := 0) (c := 0)   (h_a := ⟨(by decide), (by decide)⟩) (h_b := ⟨(by decide), (by decide)⟩) (h_c := ⟨(by decide), (by decide)⟩)  ) (fun o V_q hq => ?_)
            obtain ⟨G9, A10, r11, th2_12, rfl, rfl, hW13, hF14, b15, e16, q17⟩ := hq
            have hF18 := Fr_tr hF0 hF14 (Fr_sub (by decide)) (Fr_sub (by decide))
            have sf19 : (pg) = 1 → BD A10 := (show A10 = A from funext (fun k => hF14.2 k rfl)) ▸ p_0
            have bth2_12 : (0 : Int) ≤ th2_12 ∧ th2_12 ≤ 4 := e16 ▸ hW13.1 0
            refine .inr ⟨_, rfl, ?_⟩
            rcases q17 with ⟨rfl, a20, a21⟩ | ⟨rfl, a22, a23, a24⟩ | ⟨rfl, a25, a26, a27, a28⟩ | ⟨rfl, a29, a30, a31, a32⟩
            · have _q : True := trivial
              exfalso
              omega
            · have _q : True := trivial
              exfalso
              omega
            · have _q : True := trivial
              exfalso
              omega
            · have _q : True := trivial
              refine jx_if_eq (pc_q := 107) (tg := 109) rfl rfl rfl (by decide) (by decide) (fun h33 => ?_) (fun h33 => ?_)
              · have _q := h33
                exact c_word_at_109 (X := X) (d := d) (c0 := c0) (c1 := c1) (G := G) (A := A) (T := T) (p := p) (a := a) (pg := pg) (bp := bp) (hd := hd) (hW := hW) (e_pg := e_pg) (e_bp := e_bp) (h_p := h_p) (h_a := h_a) (p_0 := p_0) L5 G9 A10 gL5_0 gL5_1 gL5_2 hW13 hF18 (by omega) (by omega) (by omega) (by omega)
              · have _q := h33
                exact absurd h33 (by omega)
          · have _q := h8
            exact absurd h8 (by omega)
        · have _q := h7
          refine jx_ld (pc_q := 79) (l_q := L5) (st_q := [.int (i32 (0)), .int (i32 (0)), .ref 66]) rfl (jl_iloadn gL5_3) ?_
          refine jx_if_ne (pc_q := 82) (tg := 86) rfl rfl rfl (by decide) (by decide) (fun h34 => ?_) (fun h34 => ?_)
          · have _q := h34
            exact absurd h34 (by omega)
          · have _q := h34
            refine jx_ar (pc_q := 83) (st_q := [.int (i32 (1)), .int (i32 (0)), .ref 66]) rfl rfl rfl rfl ?_
            refine jx_go (tg := 87) rfl rfl ?_
            refine jx_ld (pc_q := 88) (l_q := L5) (st_q := [.int (i32 (0)), .int (i32 (1)), .int (i32 (0)), .ref 66]) rfl (jl_iloadn gL5_3) ?_
            refine jx_if_eq (pc_q := 91) (tg := 100) rfl rfl rfl (by decide) (by decide) (fun h35 => ?_) (fun h35 => ?_)
            · have _q := h35
              refine jx_ar (pc_q := 101) (st_q := [.int (i32 (0)), .int (i32 (1)), .int (i32 (0)), .ref 66]) rfl rfl rfl rfl ?_
              refine jx_vr (pc_q := 104) (as := [.int (i32 (0)), .int (i32 (1)), .int (i32 (0))]) (st := []) rfl rfl rfl rfl ⟨rfl, rfl, Nat.le_of_ble_eq_true rfl⟩ rfl rfl (c_refuse (dd := d) (hd := by omega) (hW := hW) (a := 0) (b := 1) (c := 0)   (h_a := ⟨(by decide), (by decide)⟩) (h_b := ⟨(by decide), (by decide)⟩) (h_c := ⟨(by decide), (by decide)⟩)  ) (fun o V_q hq => ?_)
              obtain ⟨G36, A37, r38, th2_39, rfl, rfl, hW40, hF41, b42, e43, q44⟩ := hq
              have hF45 := Fr_tr hF0 hF41 (Fr_sub (by decide)) (Fr_sub (by decide))
              have sf46 : (pg) = 1 → BD A37 := (show A37 = A from funext (fun k => hF41.2 k rfl)) ▸ p_0
              have bth2_39 : (0 : Int) ≤ th2_39 ∧ th2_39 ≤ 4 := e43 ▸ hW40.1 0
              refine .inr ⟨_, rfl, ?_⟩
              rcases q44 with ⟨rfl, a47, a48⟩ | ⟨rfl, a49, a50, a51⟩ | ⟨rfl, a52, a53, a54, a55⟩ | ⟨rfl, a56, a57, a58, a59⟩
              · have _q : True := trivial
                exfalso
                omega
              · have _q : True := trivial
                refine jx_if_eq (pc_q := 107) (tg := 109) rfl rfl rfl (by decide) (by decide) (fun h60 => ?_) (fun h60 => ?_)
                · have _q := h60
                  exact absurd h60 (by omega)
                · have _q := h60
                  refine jx_ar (pc_q := 108) (st_q := [.int (i32 (0))]) rfl rfl rfl rfl ?_
                  refine jx_rt (v := some (.int (i32 (0)))) rfl rfl rfl rfl rfl rfl ?_
                  exact ⟨_, _, _, rfl, rfl, hW40, hF45, by omega, trivial⟩
              · have _q : True := trivial
                exfalso
                omega
              · have _q : True := trivial
                exfalso
                omega
            · have _q := h35
              exact absurd h35 (by omega)
      · have _q := h6
        refine jx_ar (pc_q := 67) (st_q := [.int (i32 (1)), .ref 66]) rfl rfl rfl rfl ?_
        refine jx_go (tg := 71) rfl rfl ?_
        refine jx_ld (pc_q := 72) (l_q := L5) (st_q := [.ref 66, .int (i32 (1)), .ref 66]) rfl (jl_aloadn gL5_0) ?_
        refine jr_get (pc_q := 75) (i := 58) (v := .int (i32 (pg))) rfl rfl (by decide) (rFv_eq (by decide) (show G 58 = pg from (e_pg))) rfl ?_
        refine jx_if_eq (pc_q := 78) (tg := 86) rfl rfl rfl (Int.le_trans (by decide : (-2147483648 : Int) ≤ 0) b_pg.1) (Int.le_trans b_pg.2 (by decide : (1 : Int) ≤ 2147483647)) (fun h61 => ?_) (fun h61 => ?_)
        · have _q := h61
          refine jx_ar (pc_q := 87) (st_q := [.int (i32 (0)), .int (i32 (1)), .ref 66]) rfl rfl rfl rfl ?_
          refine jx_ld (pc_q := 88) (l_q := L5) (st_q := [.int (i32 (0)), .int (i32 (0)), .int (i32 (1)), .ref 66]) rfl (jl_iloadn gL5_3) ?_
          refine jx_if_eq (pc_q := 91) (tg := 100) rfl rfl rfl (by decide) (by decide) (fun h62 => ?_) (fun h62 => ?_)
          · have _q := h62
            refine jx_ar (pc_q := 101) (st_q := [.int (i32 (0)), .int (i32 (0)), .int (i32 (1)), .ref 66]) rfl rfl rfl rfl ?_
            refine jx_vr (pc_q := 104) (as := [.int (i32 (1)), .int (i32 (0)), .int (i32 (0))]) (st := []) rfl rfl rfl rfl ⟨rfl, rfl, Nat.le_of_ble_eq_true rfl⟩ rfl rfl (c_refuse (dd := d) (hd := by omega) (hW := hW) (a := 1) (b := 0) (c := 0)   (h_a := ⟨(by decide), (by decide)⟩) (h_b := ⟨(by decide), (by decide)⟩) (h_c := ⟨(by decide), (by decide)⟩)  ) (fun o V_q hq => ?_)
            obtain ⟨G63, A64, r65, th2_66, rfl, rfl, hW67, hF68, b69, e70, q71⟩ := hq
            have hF72 := Fr_tr hF0 hF68 (Fr_sub (by decide)) (Fr_sub (by decide))
            have sf73 : (pg) = 1 → BD A64 := (show A64 = A from funext (fun k => hF68.2 k rfl)) ▸ p_0
            have bth2_66 : (0 : Int) ≤ th2_66 ∧ th2_66 ≤ 4 := e70 ▸ hW67.1 0
            refine .inr ⟨_, rfl, ?_⟩
            rcases q71 with ⟨rfl, a74, a75⟩ | ⟨rfl, a76, a77, a78⟩ | ⟨rfl, a79, a80, a81, a82⟩ | ⟨rfl, a83, a84, a85, a86⟩
            · have _q : True := trivial
              refine jx_if_eq (pc_q := 107) (tg := 109) rfl rfl rfl (by decide) (by decide) (fun h87 => ?_) (fun h87 => ?_)
              · have _q := h87
                exact absurd h87 (by omega)
              · have _q := h87
                refine jx_ar (pc_q := 108) (st_q := [.int (i32 (0))]) rfl rfl rfl rfl ?_
                refine jx_rt (v := some (.int (i32 (0)))) rfl rfl rfl rfl rfl rfl ?_
                exact ⟨_, _, _, rfl, rfl, hW67, hF72, by omega, trivial⟩
            · have _q : True := trivial
              exfalso
              omega
            · have _q : True := trivial
              exfalso
              omega
            · have _q : True := trivial
              exfalso
              omega
          · have _q := h62
            exact absurd h62 (by omega)
        · have _q := h61
          refine jx_ld (pc_q := 79) (l_q := L5) (st_q := [.int (i32 (0)), .int (i32 (1)), .ref 66]) rfl (jl_iloadn gL5_3) ?_
          refine jx_if_ne (pc_q := 82) (tg := 86) rfl rfl rfl (by decide) (by decide) (fun h88 => ?_) (fun h88 => ?_)
          · have _q := h88
            exact absurd h88 (by omega)
          · have _q := h88
            refine jx_ar (pc_q := 83) (st_q := [.int (i32 (1)), .int (i32 (1)), .ref 66]) rfl rfl rfl rfl ?_
            refine jx_go (tg := 87) rfl rfl ?_
            refine jx_ld (pc_q := 88) (l_q := L5) (st_q := [.int (i32 (0)), .int (i32 (1)), .int (i32 (1)), .ref 66]) rfl (jl_iloadn gL5_3) ?_
            refine jx_if_eq (pc_q := 91) (tg := 100) rfl rfl rfl (by decide) (by decide) (fun h89 => ?_) (fun h89 => ?_)
            · have _q := h89
              refine jx_ar (pc_q := 101) (st_q := [.int (i32 (0)), .int (i32 (1)), .int (i32 (1)), .ref 66]) rfl rfl rfl rfl ?_
              refine jx_vr (pc_q := 104) (as := [.int (i32 (1)), .int (i32 (1)), .int (i32 (0))]) (st := []) rfl rfl rfl rfl ⟨rfl, rfl, Nat.le_of_ble_eq_true rfl⟩ rfl rfl (c_refuse (dd := d) (hd := by omega) (hW := hW) (a := 1) (b := 1) (c := 0)   (h_a := ⟨(by decide), (by decide)⟩) (h_b := ⟨(by decide), (by decide)⟩) (h_c := ⟨(by decide), (by decide)⟩)  ) (fun o V_q hq => ?_)
              obtain ⟨G90, A91, r92, th2_93, rfl, rfl, hW94, hF95, b96, e97, q98⟩ := hq
              have hF99 := Fr_tr hF0 hF95 (Fr_sub (by decide)) (Fr_sub (by decide))
              have sf100 : (pg) = 1 → BD A91 := (show A91 = A from funext (fun k => hF95.2 k rfl)) ▸ p_0
              have bth2_93 : (0 : Int) ≤ th2_93 ∧ th2_93 ≤ 4 := e97 ▸ hW94.1 0
              refine .inr ⟨_, rfl, ?_⟩
              rcases q98 with ⟨rfl, a101, a102⟩ | ⟨rfl, a103, a104, a105⟩ | ⟨rfl, a106, a107, a108, a109⟩ | ⟨rfl, a110, a111, a112, a113⟩
              · have _q : True := trivial
                refine jx_if_eq (pc_q := 107) (tg := 109) rfl rfl rfl (by decide) (by decide) (fun h114 => ?_) (fun h114 => ?_)
                · have _q := h114
                  exact absurd h114 (by omega)
                · have _q := h114
                  refine jx_ar (pc_q := 108) (st_q := [.int (i32 (0))]) rfl rfl rfl rfl ?_
                  refine jx_rt (v := some (.int (i32 (0)))) rfl rfl rfl rfl rfl rfl ?_
                  exact ⟨_, _, _, rfl, rfl, hW94, hF99, by omega, trivial⟩
              · have _q : True := trivial
                exfalso
                omega
              · have _q : True := trivial
                exfalso
                omega
              · have _q : True := trivial
                exfalso
                omega
            · have _q := h89
              exact absurd h89 (by omega)
    · have _q := h4
      exact absurd h4 (by omega)
  · have _q := h2
    refine jx_ld (pc_q := 8) (l_q := [(0, .ref 66), (1, .int (i32 (p))), (2, .int (i32 (a)))]) (st_q := [.ref 66]) rfl (jl_aloadn rfl) ?_
    refine jx_ld (pc_q := 9) (l_q := [(0, .ref 66), (1, .int (i32 (p))), (2, .int (i32 (a)))]) (st_q := [.int (i32 (p)), .ref 66]) rfl (jl_iloadn rfl) ?_
    refine jx_vr (pc_q := 12) (as := [.int (i32 (p))]) (st := []) rfl rfl rfl rfl ⟨rfl, rfl, Nat.le_of_ble_eq_true rfl⟩ rfl rfl (c_isCore2 (dd := d) (hd := by omega) (hW := hW) (p := p) (bp := bp) (e_bp := show A 36 (p).toNat = bp from (e_bp))  (h_p := ⟨(Int.le_trans (by decide : (-2147483648 : Int) ≤ -2147483648) h_p.1), (Int.le_trans h_p.2 (by decide : (2147483647 : Int) ≤ 2147483647))⟩)  ) (fun o V_q hq => ?_)
    obtain ⟨r115, rfl, rfl, b116, q117⟩ := hq
    refine .inr ⟨_, rfl, ?_⟩
    rcases q117 with ⟨rfl, a118, a119, a120⟩ | ⟨rfl, a121⟩
    · have _q : True := trivial
      refine jx_if_eq (pc_q := 15) (tg := 19) rfl rfl rfl (by decide) (by decide) (fun h122 => ?_) (fun h122 => ?_)
      · have _q := h122
        exact absurd h122 (by omega)
      · have _q := h122
        have hbd := p_0 (by omega) p (by omega) (by omega) (by rw [show A 36 (p).toNat = bp from e_bp]; omega)
        refine jx_ar (pc_q := 16) (st_q := [.int (i32 (1))]) rfl rfl rfl rfl ?_
        refine jx_go (tg := 20) rfl rfl ?_
        refine jx_ld (pc_q := 21) (l_q := jSto1 [(0, .ref 66), (1, .int (i32 (p))), (2, .int (i32 (a)))] 3 (.int (i32 (1)))) (st_q := []) rfl rfl ?_
        obtain ⟨L123, eL123⟩ : ∃ q, q = jSto1 [(0, .ref 66), (1, .int (i32 (p))), (2, .int (i32 (a)))] 3 (.int (i32 (1))) := ⟨_, rfl⟩
        rw [← eL123]
        have gL123_0 : jGet L123 0 = some (.ref 66) := eL123 ▸ jg_ne (by decide) (rfl : jGet [(0, .ref 66), (1, .int (i32 (p))), (2, .int (i32 (a)))] 0 = some (.ref 66)) rfl
        have gL123_1 : jGet L123 1 = some (.int (i32 (p))) := eL123 ▸ jg_ne (by decide) (rfl : jGet [(0, .ref 66), (1, .int (i32 (p))), (2, .int (i32 (a)))] 1 = some (.int (i32 (p)))) rfl
        have gL123_2 : jGet L123 2 = some (.int (i32 (a))) := eL123 ▸ jg_ne (by decide) (rfl : jGet [(0, .ref 66), (1, .int (i32 (p))), (2, .int (i32 (a)))] 2 = some (.int (i32 (a)))) rfl
        have gL123_3 : jGet L123 3 = some (.int (i32 (1))) := eL123 ▸ jg_eq
        refine jx_ld (pc_q := 22) (l_q := L123) (st_q := [.int (i32 (1))]) rfl (jl_iloadn gL123_3) ?_
        refine jx_if_eq (pc_q := 25) (tg := 55) rfl rfl rfl (by decide) (by decide) (fun h124 => ?_) (fun h124 => ?_)
        · have _q := h124
          exact absurd h124 (by omega)
        · have _q := h124
          refine jx_ld (pc_q := 26) (l_q := L123) (st_q := [.int (i32 (a))]) rfl (jl_iloadn gL123_2) ?_
          refine jx_ar (pc_q := 27) (st_q := [.int (i32 (0)), .int (i32 (a))]) rfl rfl rfl rfl ?_
          refine jx_ar (pc_q := 29) (st_q := [.int (i32 (16)), .int (i32 (0)), .int (i32 (a))]) rfl rfl rfl rfl ?_
          refine jx_ld (pc_q := 30) (l_q := L123) (st_q := [.ref 66, .int (i32 (16)), .int (i32 (0)), .int (i32 (a))]) rfl (jl_aloadn gL123_0) ?_
          refine jr_get (pc_q := 33) (i := 56) (v := .ref 104) rfl rfl (by decide) rfl rfl ?_
          refine jx_ld (pc_q := 34) (l_q := L123) (st_q := [.int (i32 (p)), .ref 104, .int (i32 (16)), .int (i32 (0)), .int (i32 (a))]) rfl (jl_iloadn gL123_1) ?_
          have b125 : (-2147483648 : Int) ≤ A 37 (p).toNat ∧ A 37 (p).toNat ≤ 2147483647 := hW.2 37 _
          refine jr_ldv (pc_q := 35) (i := 37) (m := 6) (z := p) (y := A 37 (p).toNat) rfl (by decide) rfl (by decide) (by omega) (by omega) rfl (show A 37 (p).toNat = A 37 (p).toNat from rfl) ?_
          refine jx_add (pc_q := 36) rfl rfl ?_
          refine jx_ld (pc_q := 37) (l_q := L123) (st_q := [.ref 66, .int (i32 ((16 + A 37 (p).toNat))), .int (i32 (0)), .int (i32 (a))]) rfl (jl_aloadn gL123_0) ?_
          refine jr_get (pc_q := 40) (i := 57) (v := .ref 105) rfl rfl (by decide) rfl rfl ?_
          refine jx_ld (pc_q := 41) (l_q := L123) (st_q := [.int (i32 (p)), .ref 105, .int (i32 ((16 + A 37 (p).toNat))), .int (i32 (0)), .int (i32 (a))]) rfl (jl_iloadn gL123_1) ?_
          have b126 : (-2147483648 : Int) ≤ A 38 (p).toNat ∧ A 38 (p).toNat ≤ 2147483647 := hW.2 38 _
          refine jr_ldv (pc_q := 42) (i := 38) (m := 6) (z := p) (y := A 38 (p).toNat) rfl (by decide) rfl (by decide) (by omega) (by omega) rfl (show A 38 (p).toNat = A 38 (p).toNat from rfl) ?_
          refine jx_add (pc_q := 43) rfl rfl ?_
          refine jx_ar (pc_q := 44) (st_q := [.int (i32 (2)), .int (i32 (((16 + A 37 (p).toNat) + A 38 (p).toNat))), .int (i32 (0)), .int (i32 (a))]) rfl rfl rfl rfl ?_
          refine jx_add (pc_q := 45) rfl rfl ?_
          refine jx_st (pc_q := 48) (as := [.int (i32 (a)), .int (i32 (0)), .int (i32 ((((16 + A 37 (p).toNat) + A 38 (p).toNat) + 2)))]) (st := []) rfl rfl ⟨rfl, Nat.le_of_ble_eq_true rfl⟩ rfl rfl rfl (c_in (dd := d) (hd := by omega) (v := a) (a := 0) (b := (((16 + A 37 (p).toNat) + A 38 (p).toNat) + 2))   (h_v := ⟨(Int.le_trans (by decide : (-2147483648 : Int) ≤ -2147483648) h_a.1), (Int.le_trans h_a.2 (by decide : (2147483647 : Int) ≤ 2147483647))⟩) (h_a := ⟨(by decide), (by decide)⟩) (h_b := ⟨(by omega), (by omega)⟩)  ) (fun o V_q hq => ?_)
          obtain ⟨r127, rfl, rfl, b128, q129⟩ := hq
          refine .inr ⟨_, rfl, ?_⟩
          rcases q129 with ⟨rfl, a130, a131⟩ | ⟨rfl, a132⟩
          · have _q : True := trivial
            refine jx_if_eq (pc_q := 51) (tg := 55) rfl rfl rfl (by decide) (by decide) (fun h133 => ?_) (fun h133 => ?_)
            · have _q := h133
              exact absurd h133 (by omega)
            · have _q := h133
              refine jx_ar (pc_q := 52) (st_q := [.int (i32 (1))]) rfl rfl rfl rfl ?_
              refine jx_go (tg := 56) rfl rfl ?_
              refine jx_ld (pc_q := 58) (l_q := jSto1 L123 4 (.int (i32 (1)))) (st_q := []) rfl rfl ?_
              obtain ⟨L134, eL134⟩ : ∃ q, q = jSto1 L123 4 (.int (i32 (1))) := ⟨_, rfl⟩
              rw [← eL134]
              have gL134_0 : jGet L134 0 = some (.ref 66) := eL134 ▸ jg_ne (by decide) gL123_0 rfl
              have gL134_1 : jGet L134 1 = some (.int (i32 (p))) := eL134 ▸ jg_ne (by decide) gL123_1 rfl
              have gL134_2 : jGet L134 2 = some (.int (i32 (a))) := eL134 ▸ jg_ne (by decide) gL123_2 rfl
              have gL134_3 : jGet L134 3 = some (.int (i32 (1))) := eL134 ▸ jg_ne (by decide) gL123_3 rfl
              have gL134_4 : jGet L134 4 = some (.int (i32 (1))) := eL134 ▸ jg_eq
              refine jx_ld (pc_q := 59) (l_q := L134) (st_q := [.ref 66]) rfl (jl_aloadn gL134_0) ?_
              refine jx_ld (pc_q := 60) (l_q := L134) (st_q := [.ref 66, .ref 66]) rfl (jl_aloadn gL134_0) ?_
              refine jr_get (pc_q := 63) (i := 58) (v := .int (i32 (pg))) rfl rfl (by decide) (rFv_eq (by decide) (show G 58 = pg from (e_pg))) rfl ?_
              refine jx_if_ne (pc_q := 66) (tg := 70) rfl rfl rfl (Int.le_trans (by decide : (-2147483648 : Int) ≤ 0) b_pg.1) (Int.le_trans b_pg.2 (by decide : (1 : Int) ≤ 2147483647)) (fun h135 => ?_) (fun h135 => ?_)
              · have _q := h135
                refine jx_ar (pc_q := 71) (st_q := [.int (i32 (0)), .ref 66]) rfl rfl rfl rfl ?_
                refine jx_ld (pc_q := 72) (l_q := L134) (st_q := [.ref 66, .int (i32 (0)), .ref 66]) rfl (jl_aloadn gL134_0) ?_
                refine jr_get (pc_q := 75) (i := 58) (v := .int (i32 (pg))) rfl rfl (by decide) (rFv_eq (by decide) (show G 58 = pg from (e_pg))) rfl ?_
                refine jx_if_eq (pc_q := 78) (tg := 86) rfl rfl rfl (Int.le_trans (by decide : (-2147483648 : Int) ≤ 0) b_pg.1) (Int.le_trans b_pg.2 (by decide : (1 : Int) ≤ 2147483647)) (fun h136 => ?_) (fun h136 => ?_)
                · have _q := h136
                  refine jx_ar (pc_q := 87) (st_q := [.int (i32 (0)), .int (i32 (0)), .ref 66]) rfl rfl rfl rfl ?_
                  refine jx_ld (pc_q := 88) (l_q := L134) (st_q := [.int (i32 (1)), .int (i32 (0)), .int (i32 (0)), .ref 66]) rfl (jl_iloadn gL134_3) ?_
                  refine jx_if_eq (pc_q := 91) (tg := 100) rfl rfl rfl (by decide) (by decide) (fun h137 => ?_) (fun h137 => ?_)
                  · have _q := h137
                    exact absurd h137 (by omega)
                  · have _q := h137
                    refine jx_ld (pc_q := 93) (l_q := L134) (st_q := [.int (i32 (1)), .int (i32 (0)), .int (i32 (0)), .ref 66]) rfl (jl_iload gL134_4) ?_
                    refine jx_if_ne (pc_q := 96) (tg := 100) rfl rfl rfl (by decide) (by decide) (fun h138 => ?_) (fun h138 => ?_)
                    · have _q := h138
                      refine jx_ar (pc_q := 101) (st_q := [.int (i32 (0)), .int (i32 (0)), .int (i32 (0)), .ref 66]) rfl rfl rfl rfl ?_
                      refine jx_vr (pc_q := 104) (as := [.int (i32 (0)), .int (i32 (0)), .int (i32 (0))]) (st := []) rfl rfl rfl rfl ⟨rfl, rfl, Nat.le_of_ble_eq_true rfl⟩ rfl rfl (c_refuse (dd := d) (hd := by omega) (hW := hW) (a := 0) (b := 0) (c := 0)   (h_a := ⟨(by decide), (by decide)⟩) (h_b := ⟨(by decide), (by decide)⟩) (h_c := ⟨(by decide), (by decide)⟩)  ) (fun o V_q hq => ?_)
                      obtain ⟨G139, A140, r141, th2_142, rfl, rfl, hW143, hF144, b145, e146, q147⟩ := hq
                      have hF148 := Fr_tr hF0 hF144 (Fr_sub (by decide)) (Fr_sub (by decide))
                      have sf149 : (pg) = 1 → BD A140 := (show A140 = A from funext (fun k => hF144.2 k rfl)) ▸ p_0
                      have bth2_142 : (0 : Int) ≤ th2_142 ∧ th2_142 ≤ 4 := e146 ▸ hW143.1 0
                      refine .inr ⟨_, rfl, ?_⟩
                      rcases q147 with ⟨rfl, a150, a151⟩ | ⟨rfl, a152, a153, a154⟩ | ⟨rfl, a155, a156, a157, a158⟩ | ⟨rfl, a159, a160, a161, a162⟩
                      · have _q : True := trivial
                        exfalso
                        omega
                      · have _q : True := trivial
                        exfalso
                        omega
                      · have _q : True := trivial
                        exfalso
                        omega
                      · have _q : True := trivial
                        refine jx_if_eq (pc_q := 107) (tg := 109) rfl rfl rfl (by decide) (by decide) (fun h163 => ?_) (fun h163 => ?_)
                        · have _q := h163
                          exact c_word_at_109 (X := X) (d := d) (c0 := c0) (c1 := c1) (G := G) (A := A) (T := T) (p := p) (a := a) (pg := pg) (bp := bp) (hd := hd) (hW := hW) (e_pg := e_pg) (e_bp := e_bp) (h_p := h_p) (h_a := h_a) (p_0 := p_0) L134 G139 A140 gL134_0 gL134_1 gL134_2 hW143 hF148 (by omega) (by omega) (by omega) (by omega)
                        · have _q := h163
                          exact absurd h163 (by omega)
                    · have _q := h138
                      exact absurd h138 (by omega)
                · have _q := h136
                  refine jx_ld (pc_q := 79) (l_q := L134) (st_q := [.int (i32 (1)), .int (i32 (0)), .ref 66]) rfl (jl_iloadn gL134_3) ?_
                  refine jx_if_ne (pc_q := 82) (tg := 86) rfl rfl rfl (by decide) (by decide) (fun h164 => ?_) (fun h164 => ?_)
                  · have _q := h164
                    refine jx_ar (pc_q := 87) (st_q := [.int (i32 (0)), .int (i32 (0)), .ref 66]) rfl rfl rfl rfl ?_
                    refine jx_ld (pc_q := 88) (l_q := L134) (st_q := [.int (i32 (1)), .int (i32 (0)), .int (i32 (0)), .ref 66]) rfl (jl_iloadn gL134_3) ?_
                    refine jx_if_eq (pc_q := 91) (tg := 100) rfl rfl rfl (by decide) (by decide) (fun h165 => ?_) (fun h165 => ?_)
                    · have _q := h165
                      exact absurd h165 (by omega)
                    · have _q := h165
                      refine jx_ld (pc_q := 93) (l_q := L134) (st_q := [.int (i32 (1)), .int (i32 (0)), .int (i32 (0)), .ref 66]) rfl (jl_iload gL134_4) ?_
                      refine jx_if_ne (pc_q := 96) (tg := 100) rfl rfl rfl (by decide) (by decide) (fun h166 => ?_) (fun h166 => ?_)
                      · have _q := h166
                        refine jx_ar (pc_q := 101) (st_q := [.int (i32 (0)), .int (i32 (0)), .int (i32 (0)), .ref 66]) rfl rfl rfl rfl ?_
                        refine jx_vr (pc_q := 104) (as := [.int (i32 (0)), .int (i32 (0)), .int (i32 (0))]) (st := []) rfl rfl rfl rfl ⟨rfl, rfl, Nat.le_of_ble_eq_true rfl⟩ rfl rfl (c_refuse (dd := d) (hd := by omega) (hW := hW) (a := 0) (b := 0) (c := 0)   (h_a := ⟨(by decide), (by decide)⟩) (h_b := ⟨(by decide), (by decide)⟩) (h_c := ⟨(by decide), (by decide)⟩)  ) (fun o V_q hq => ?_)
                        obtain ⟨G167, A168, r169, th2_170, rfl, rfl, hW171, hF172, b173, e174, q175⟩ := hq
                        have hF176 := Fr_tr hF0 hF172 (Fr_sub (by decide)) (Fr_sub (by decide))
                        have sf177 : (pg) = 1 → BD A168 := (show A168 = A from funext (fun k => hF172.2 k rfl)) ▸ p_0
                        have bth2_170 : (0 : Int) ≤ th2_170 ∧ th2_170 ≤ 4 := e174 ▸ hW171.1 0
                        refine .inr ⟨_, rfl, ?_⟩
                        rcases q175 with ⟨rfl, a178, a179⟩ | ⟨rfl, a180, a181, a182⟩ | ⟨rfl, a183, a184, a185, a186⟩ | ⟨rfl, a187, a188, a189, a190⟩
                        · have _q : True := trivial
                          exfalso
                          omega
                        · have _q : True := trivial
                          exfalso
                          omega
                        · have _q : True := trivial
                          exfalso
                          omega
                        · have _q : True := trivial
                          refine jx_if_eq (pc_q := 107) (tg := 109) rfl rfl rfl (by decide) (by decide) (fun h191 => ?_) (fun h191 => ?_)
                          · have _q := h191
                            exact c_word_at_109 (X := X) (d := d) (c0 := c0) (c1 := c1) (G := G) (A := A) (T := T) (p := p) (a := a) (pg := pg) (bp := bp) (hd := hd) (hW := hW) (e_pg := e_pg) (e_bp := e_bp) (h_p := h_p) (h_a := h_a) (p_0 := p_0) L134 G167 A168 gL134_0 gL134_1 gL134_2 hW171 hF176 (by omega) (by omega) (by omega) (by omega)
                          · have _q := h191
                            exact absurd h191 (by omega)
                      · have _q := h166
                        exact absurd h166 (by omega)
                  · have _q := h164
                    exact absurd h164 (by omega)
              · have _q := h135
                refine jx_ar (pc_q := 67) (st_q := [.int (i32 (1)), .ref 66]) rfl rfl rfl rfl ?_
                refine jx_go (tg := 71) rfl rfl ?_
                refine jx_ld (pc_q := 72) (l_q := L134) (st_q := [.ref 66, .int (i32 (1)), .ref 66]) rfl (jl_aloadn gL134_0) ?_
                refine jr_get (pc_q := 75) (i := 58) (v := .int (i32 (pg))) rfl rfl (by decide) (rFv_eq (by decide) (show G 58 = pg from (e_pg))) rfl ?_
                refine jx_if_eq (pc_q := 78) (tg := 86) rfl rfl rfl (Int.le_trans (by decide : (-2147483648 : Int) ≤ 0) b_pg.1) (Int.le_trans b_pg.2 (by decide : (1 : Int) ≤ 2147483647)) (fun h192 => ?_) (fun h192 => ?_)
                · have _q := h192
                  refine jx_ar (pc_q := 87) (st_q := [.int (i32 (0)), .int (i32 (1)), .ref 66]) rfl rfl rfl rfl ?_
                  refine jx_ld (pc_q := 88) (l_q := L134) (st_q := [.int (i32 (1)), .int (i32 (0)), .int (i32 (1)), .ref 66]) rfl (jl_iloadn gL134_3) ?_
                  refine jx_if_eq (pc_q := 91) (tg := 100) rfl rfl rfl (by decide) (by decide) (fun h193 => ?_) (fun h193 => ?_)
                  · have _q := h193
                    exact absurd h193 (by omega)
                  · have _q := h193
                    refine jx_ld (pc_q := 93) (l_q := L134) (st_q := [.int (i32 (1)), .int (i32 (0)), .int (i32 (1)), .ref 66]) rfl (jl_iload gL134_4) ?_
                    refine jx_if_ne (pc_q := 96) (tg := 100) rfl rfl rfl (by decide) (by decide) (fun h194 => ?_) (fun h194 => ?_)
                    · have _q := h194
                      refine jx_ar (pc_q := 101) (st_q := [.int (i32 (0)), .int (i32 (0)), .int (i32 (1)), .ref 66]) rfl rfl rfl rfl ?_
                      refine jx_vr (pc_q := 104) (as := [.int (i32 (1)), .int (i32 (0)), .int (i32 (0))]) (st := []) rfl rfl rfl rfl ⟨rfl, rfl, Nat.le_of_ble_eq_true rfl⟩ rfl rfl (c_refuse (dd := d) (hd := by omega) (hW := hW) (a := 1) (b := 0) (c := 0)   (h_a := ⟨(by decide), (by decide)⟩) (h_b := ⟨(by decide), (by decide)⟩) (h_c := ⟨(by decide), (by decide)⟩)  ) (fun o V_q hq => ?_)
                      obtain ⟨G195, A196, r197, th2_198, rfl, rfl, hW199, hF200, b201, e202, q203⟩ := hq
                      have hF204 := Fr_tr hF0 hF200 (Fr_sub (by decide)) (Fr_sub (by decide))
                      have sf205 : (pg) = 1 → BD A196 := (show A196 = A from funext (fun k => hF200.2 k rfl)) ▸ p_0
                      have bth2_198 : (0 : Int) ≤ th2_198 ∧ th2_198 ≤ 4 := e202 ▸ hW199.1 0
                      refine .inr ⟨_, rfl, ?_⟩
                      rcases q203 with ⟨rfl, a206, a207⟩ | ⟨rfl, a208, a209, a210⟩ | ⟨rfl, a211, a212, a213, a214⟩ | ⟨rfl, a215, a216, a217, a218⟩
                      · have _q : True := trivial
                        refine jx_if_eq (pc_q := 107) (tg := 109) rfl rfl rfl (by decide) (by decide) (fun h219 => ?_) (fun h219 => ?_)
                        · have _q := h219
                          exact absurd h219 (by omega)
                        · have _q := h219
                          refine jx_ar (pc_q := 108) (st_q := [.int (i32 (0))]) rfl rfl rfl rfl ?_
                          refine jx_rt (v := some (.int (i32 (0)))) rfl rfl rfl rfl rfl rfl ?_
                          exact ⟨_, _, _, rfl, rfl, hW199, hF204, by omega, trivial⟩
                      · have _q : True := trivial
                        exfalso
                        omega
                      · have _q : True := trivial
                        exfalso
                        omega
                      · have _q : True := trivial
                        exfalso
                        omega
                    · have _q := h194
                      exact absurd h194 (by omega)
                · have _q := h192
                  refine jx_ld (pc_q := 79) (l_q := L134) (st_q := [.int (i32 (1)), .int (i32 (1)), .ref 66]) rfl (jl_iloadn gL134_3) ?_
                  refine jx_if_ne (pc_q := 82) (tg := 86) rfl rfl rfl (by decide) (by decide) (fun h220 => ?_) (fun h220 => ?_)
                  · have _q := h220
                    refine jx_ar (pc_q := 87) (st_q := [.int (i32 (0)), .int (i32 (1)), .ref 66]) rfl rfl rfl rfl ?_
                    refine jx_ld (pc_q := 88) (l_q := L134) (st_q := [.int (i32 (1)), .int (i32 (0)), .int (i32 (1)), .ref 66]) rfl (jl_iloadn gL134_3) ?_
                    refine jx_if_eq (pc_q := 91) (tg := 100) rfl rfl rfl (by decide) (by decide) (fun h221 => ?_) (fun h221 => ?_)
                    · have _q := h221
                      exact absurd h221 (by omega)
                    · have _q := h221
                      refine jx_ld (pc_q := 93) (l_q := L134) (st_q := [.int (i32 (1)), .int (i32 (0)), .int (i32 (1)), .ref 66]) rfl (jl_iload gL134_4) ?_
                      refine jx_if_ne (pc_q := 96) (tg := 100) rfl rfl rfl (by decide) (by decide) (fun h222 => ?_) (fun h222 => ?_)
                      · have _q := h222
                        refine jx_ar (pc_q := 101) (st_q := [.int (i32 (0)), .int (i32 (0)), .int (i32 (1)), .ref 66]) rfl rfl rfl rfl ?_
                        refine jx_vr (pc_q := 104) (as := [.int (i32 (1)), .int (i32 (0)), .int (i32 (0))]) (st := []) rfl rfl rfl rfl ⟨rfl, rfl, Nat.le_of_ble_eq_true rfl⟩ rfl rfl (c_refuse (dd := d) (hd := by omega) (hW := hW) (a := 1) (b := 0) (c := 0)   (h_a := ⟨(by decide), (by decide)⟩) (h_b := ⟨(by decide), (by decide)⟩) (h_c := ⟨(by decide), (by decide)⟩)  ) (fun o V_q hq => ?_)
                        obtain ⟨G223, A224, r225, th2_226, rfl, rfl, hW227, hF228, b229, e230, q231⟩ := hq
                        have hF232 := Fr_tr hF0 hF228 (Fr_sub (by decide)) (Fr_sub (by decide))
                        have sf233 : (pg) = 1 → BD A224 := (show A224 = A from funext (fun k => hF228.2 k rfl)) ▸ p_0
                        have bth2_226 : (0 : Int) ≤ th2_226 ∧ th2_226 ≤ 4 := e230 ▸ hW227.1 0
                        refine .inr ⟨_, rfl, ?_⟩
                        rcases q231 with ⟨rfl, a234, a235⟩ | ⟨rfl, a236, a237, a238⟩ | ⟨rfl, a239, a240, a241, a242⟩ | ⟨rfl, a243, a244, a245, a246⟩
                        · have _q : True := trivial
                          refine jx_if_eq (pc_q := 107) (tg := 109) rfl rfl rfl (by decide) (by decide) (fun h247 => ?_) (fun h247 => ?_)
                          · have _q := h247
                            exact absurd h247 (by omega)
                          · have _q := h247
                            refine jx_ar (pc_q := 108) (st_q := [.int (i32 (0))]) rfl rfl rfl rfl ?_
                            refine jx_rt (v := some (.int (i32 (0)))) rfl rfl rfl rfl rfl rfl ?_
                            exact ⟨_, _, _, rfl, rfl, hW227, hF232, by omega, trivial⟩
                        · have _q : True := trivial
                          exfalso
                          omega
                        · have _q : True := trivial
                          exfalso
                          omega
                        · have _q : True := trivial
                          exfalso
                          omega
                      · have _q := h222
                        exact absurd h222 (by omega)
                  · have _q := h220
                    exact absurd h220 (by omega)
          · have _q : True := trivial
            refine jx_if_eq (pc_q := 51) (tg := 55) rfl rfl rfl (by decide) (by decide) (fun h248 => ?_) (fun h248 => ?_)
            · have _q := h248
              refine jx_ar (pc_q := 56) (st_q := [.int (i32 (0))]) rfl rfl rfl rfl ?_
              refine jx_ld (pc_q := 58) (l_q := jSto1 L123 4 (.int (i32 (0)))) (st_q := []) rfl rfl ?_
              obtain ⟨L249, eL249⟩ : ∃ q, q = jSto1 L123 4 (.int (i32 (0))) := ⟨_, rfl⟩
              rw [← eL249]
              have gL249_0 : jGet L249 0 = some (.ref 66) := eL249 ▸ jg_ne (by decide) gL123_0 rfl
              have gL249_1 : jGet L249 1 = some (.int (i32 (p))) := eL249 ▸ jg_ne (by decide) gL123_1 rfl
              have gL249_2 : jGet L249 2 = some (.int (i32 (a))) := eL249 ▸ jg_ne (by decide) gL123_2 rfl
              have gL249_3 : jGet L249 3 = some (.int (i32 (1))) := eL249 ▸ jg_ne (by decide) gL123_3 rfl
              have gL249_4 : jGet L249 4 = some (.int (i32 (0))) := eL249 ▸ jg_eq
              refine jx_ld (pc_q := 59) (l_q := L249) (st_q := [.ref 66]) rfl (jl_aloadn gL249_0) ?_
              refine jx_ld (pc_q := 60) (l_q := L249) (st_q := [.ref 66, .ref 66]) rfl (jl_aloadn gL249_0) ?_
              refine jr_get (pc_q := 63) (i := 58) (v := .int (i32 (pg))) rfl rfl (by decide) (rFv_eq (by decide) (show G 58 = pg from (e_pg))) rfl ?_
              refine jx_if_ne (pc_q := 66) (tg := 70) rfl rfl rfl (Int.le_trans (by decide : (-2147483648 : Int) ≤ 0) b_pg.1) (Int.le_trans b_pg.2 (by decide : (1 : Int) ≤ 2147483647)) (fun h250 => ?_) (fun h250 => ?_)
              · have _q := h250
                refine jx_ar (pc_q := 71) (st_q := [.int (i32 (0)), .ref 66]) rfl rfl rfl rfl ?_
                refine jx_ld (pc_q := 72) (l_q := L249) (st_q := [.ref 66, .int (i32 (0)), .ref 66]) rfl (jl_aloadn gL249_0) ?_
                refine jr_get (pc_q := 75) (i := 58) (v := .int (i32 (pg))) rfl rfl (by decide) (rFv_eq (by decide) (show G 58 = pg from (e_pg))) rfl ?_
                refine jx_if_eq (pc_q := 78) (tg := 86) rfl rfl rfl (Int.le_trans (by decide : (-2147483648 : Int) ≤ 0) b_pg.1) (Int.le_trans b_pg.2 (by decide : (1 : Int) ≤ 2147483647)) (fun h251 => ?_) (fun h251 => ?_)
                · have _q := h251
                  refine jx_ar (pc_q := 87) (st_q := [.int (i32 (0)), .int (i32 (0)), .ref 66]) rfl rfl rfl rfl ?_
                  refine jx_ld (pc_q := 88) (l_q := L249) (st_q := [.int (i32 (1)), .int (i32 (0)), .int (i32 (0)), .ref 66]) rfl (jl_iloadn gL249_3) ?_
                  refine jx_if_eq (pc_q := 91) (tg := 100) rfl rfl rfl (by decide) (by decide) (fun h252 => ?_) (fun h252 => ?_)
                  · have _q := h252
                    exact absurd h252 (by omega)
                  · have _q := h252
                    refine jx_ld (pc_q := 93) (l_q := L249) (st_q := [.int (i32 (0)), .int (i32 (0)), .int (i32 (0)), .ref 66]) rfl (jl_iload gL249_4) ?_
                    refine jx_if_ne (pc_q := 96) (tg := 100) rfl rfl rfl (by decide) (by decide) (fun h253 => ?_) (fun h253 => ?_)
                    · have _q := h253
                      exact absurd h253 (by omega)
                    · have _q := h253
                      refine jx_ar (pc_q := 97) (st_q := [.int (i32 (1)), .int (i32 (0)), .int (i32 (0)), .ref 66]) rfl rfl rfl rfl ?_
                      refine jx_go (tg := 101) rfl rfl ?_
                      refine jx_vr (pc_q := 104) (as := [.int (i32 (0)), .int (i32 (0)), .int (i32 (1))]) (st := []) rfl rfl rfl rfl ⟨rfl, rfl, Nat.le_of_ble_eq_true rfl⟩ rfl rfl (c_refuse (dd := d) (hd := by omega) (hW := hW) (a := 0) (b := 0) (c := 1)   (h_a := ⟨(by decide), (by decide)⟩) (h_b := ⟨(by decide), (by decide)⟩) (h_c := ⟨(by decide), (by decide)⟩)  ) (fun o V_q hq => ?_)
                      obtain ⟨G254, A255, r256, th2_257, rfl, rfl, hW258, hF259, b260, e261, q262⟩ := hq
                      have hF263 := Fr_tr hF0 hF259 (Fr_sub (by decide)) (Fr_sub (by decide))
                      have sf264 : (pg) = 1 → BD A255 := (show A255 = A from funext (fun k => hF259.2 k rfl)) ▸ p_0
                      have bth2_257 : (0 : Int) ≤ th2_257 ∧ th2_257 ≤ 4 := e261 ▸ hW258.1 0
                      refine .inr ⟨_, rfl, ?_⟩
                      rcases q262 with ⟨rfl, a265, a266⟩ | ⟨rfl, a267, a268, a269⟩ | ⟨rfl, a270, a271, a272, a273⟩ | ⟨rfl, a274, a275, a276, a277⟩
                      · have _q : True := trivial
                        exfalso
                        omega
                      · have _q : True := trivial
                        exfalso
                        omega
                      · have _q : True := trivial
                        refine jx_if_eq (pc_q := 107) (tg := 109) rfl rfl rfl (by decide) (by decide) (fun h278 => ?_) (fun h278 => ?_)
                        · have _q := h278
                          exact absurd h278 (by omega)
                        · have _q := h278
                          refine jx_ar (pc_q := 108) (st_q := [.int (i32 (0))]) rfl rfl rfl rfl ?_
                          refine jx_rt (v := some (.int (i32 (0)))) rfl rfl rfl rfl rfl rfl ?_
                          exact ⟨_, _, _, rfl, rfl, hW258, hF263, by omega, trivial⟩
                      · have _q : True := trivial
                        exfalso
                        omega
                · have _q := h251
                  refine jx_ld (pc_q := 79) (l_q := L249) (st_q := [.int (i32 (1)), .int (i32 (0)), .ref 66]) rfl (jl_iloadn gL249_3) ?_
                  refine jx_if_ne (pc_q := 82) (tg := 86) rfl rfl rfl (by decide) (by decide) (fun h279 => ?_) (fun h279 => ?_)
                  · have _q := h279
                    refine jx_ar (pc_q := 87) (st_q := [.int (i32 (0)), .int (i32 (0)), .ref 66]) rfl rfl rfl rfl ?_
                    refine jx_ld (pc_q := 88) (l_q := L249) (st_q := [.int (i32 (1)), .int (i32 (0)), .int (i32 (0)), .ref 66]) rfl (jl_iloadn gL249_3) ?_
                    refine jx_if_eq (pc_q := 91) (tg := 100) rfl rfl rfl (by decide) (by decide) (fun h280 => ?_) (fun h280 => ?_)
                    · have _q := h280
                      exact absurd h280 (by omega)
                    · have _q := h280
                      refine jx_ld (pc_q := 93) (l_q := L249) (st_q := [.int (i32 (0)), .int (i32 (0)), .int (i32 (0)), .ref 66]) rfl (jl_iload gL249_4) ?_
                      refine jx_if_ne (pc_q := 96) (tg := 100) rfl rfl rfl (by decide) (by decide) (fun h281 => ?_) (fun h281 => ?_)
                      · have _q := h281
                        exact absurd h281 (by omega)
                      · have _q := h281
                        refine jx_ar (pc_q := 97) (st_q := [.int (i32 (1)), .int (i32 (0)), .int (i32 (0)), .ref 66]) rfl rfl rfl rfl ?_
                        refine jx_go (tg := 101) rfl rfl ?_
                        refine jx_vr (pc_q := 104) (as := [.int (i32 (0)), .int (i32 (0)), .int (i32 (1))]) (st := []) rfl rfl rfl rfl ⟨rfl, rfl, Nat.le_of_ble_eq_true rfl⟩ rfl rfl (c_refuse (dd := d) (hd := by omega) (hW := hW) (a := 0) (b := 0) (c := 1)   (h_a := ⟨(by decide), (by decide)⟩) (h_b := ⟨(by decide), (by decide)⟩) (h_c := ⟨(by decide), (by decide)⟩)  ) (fun o V_q hq => ?_)
                        obtain ⟨G282, A283, r284, th2_285, rfl, rfl, hW286, hF287, b288, e289, q290⟩ := hq
                        have hF291 := Fr_tr hF0 hF287 (Fr_sub (by decide)) (Fr_sub (by decide))
                        have sf292 : (pg) = 1 → BD A283 := (show A283 = A from funext (fun k => hF287.2 k rfl)) ▸ p_0
                        have bth2_285 : (0 : Int) ≤ th2_285 ∧ th2_285 ≤ 4 := e289 ▸ hW286.1 0
                        refine .inr ⟨_, rfl, ?_⟩
                        rcases q290 with ⟨rfl, a293, a294⟩ | ⟨rfl, a295, a296, a297⟩ | ⟨rfl, a298, a299, a300, a301⟩ | ⟨rfl, a302, a303, a304, a305⟩
                        · have _q : True := trivial
                          exfalso
                          omega
                        · have _q : True := trivial
                          exfalso
                          omega
                        · have _q : True := trivial
                          refine jx_if_eq (pc_q := 107) (tg := 109) rfl rfl rfl (by decide) (by decide) (fun h306 => ?_) (fun h306 => ?_)
                          · have _q := h306
                            exact absurd h306 (by omega)
                          · have _q := h306
                            refine jx_ar (pc_q := 108) (st_q := [.int (i32 (0))]) rfl rfl rfl rfl ?_
                            refine jx_rt (v := some (.int (i32 (0)))) rfl rfl rfl rfl rfl rfl ?_
                            exact ⟨_, _, _, rfl, rfl, hW286, hF291, by omega, trivial⟩
                        · have _q : True := trivial
                          exfalso
                          omega
                  · have _q := h279
                    exact absurd h279 (by omega)
              · have _q := h250
                refine jx_ar (pc_q := 67) (st_q := [.int (i32 (1)), .ref 66]) rfl rfl rfl rfl ?_
                refine jx_go (tg := 71) rfl rfl ?_
                refine jx_ld (pc_q := 72) (l_q := L249) (st_q := [.ref 66, .int (i32 (1)), .ref 66]) rfl (jl_aloadn gL249_0) ?_
                refine jr_get (pc_q := 75) (i := 58) (v := .int (i32 (pg))) rfl rfl (by decide) (rFv_eq (by decide) (show G 58 = pg from (e_pg))) rfl ?_
                refine jx_if_eq (pc_q := 78) (tg := 86) rfl rfl rfl (Int.le_trans (by decide : (-2147483648 : Int) ≤ 0) b_pg.1) (Int.le_trans b_pg.2 (by decide : (1 : Int) ≤ 2147483647)) (fun h307 => ?_) (fun h307 => ?_)
                · have _q := h307
                  refine jx_ar (pc_q := 87) (st_q := [.int (i32 (0)), .int (i32 (1)), .ref 66]) rfl rfl rfl rfl ?_
                  refine jx_ld (pc_q := 88) (l_q := L249) (st_q := [.int (i32 (1)), .int (i32 (0)), .int (i32 (1)), .ref 66]) rfl (jl_iloadn gL249_3) ?_
                  refine jx_if_eq (pc_q := 91) (tg := 100) rfl rfl rfl (by decide) (by decide) (fun h308 => ?_) (fun h308 => ?_)
                  · have _q := h308
                    exact absurd h308 (by omega)
                  · have _q := h308
                    refine jx_ld (pc_q := 93) (l_q := L249) (st_q := [.int (i32 (0)), .int (i32 (0)), .int (i32 (1)), .ref 66]) rfl (jl_iload gL249_4) ?_
                    refine jx_if_ne (pc_q := 96) (tg := 100) rfl rfl rfl (by decide) (by decide) (fun h309 => ?_) (fun h309 => ?_)
                    · have _q := h309
                      exact absurd h309 (by omega)
                    · have _q := h309
                      refine jx_ar (pc_q := 97) (st_q := [.int (i32 (1)), .int (i32 (0)), .int (i32 (1)), .ref 66]) rfl rfl rfl rfl ?_
                      refine jx_go (tg := 101) rfl rfl ?_
                      refine jx_vr (pc_q := 104) (as := [.int (i32 (1)), .int (i32 (0)), .int (i32 (1))]) (st := []) rfl rfl rfl rfl ⟨rfl, rfl, Nat.le_of_ble_eq_true rfl⟩ rfl rfl (c_refuse (dd := d) (hd := by omega) (hW := hW) (a := 1) (b := 0) (c := 1)   (h_a := ⟨(by decide), (by decide)⟩) (h_b := ⟨(by decide), (by decide)⟩) (h_c := ⟨(by decide), (by decide)⟩)  ) (fun o V_q hq => ?_)
                      obtain ⟨G310, A311, r312, th2_313, rfl, rfl, hW314, hF315, b316, e317, q318⟩ := hq
                      have hF319 := Fr_tr hF0 hF315 (Fr_sub (by decide)) (Fr_sub (by decide))
                      have sf320 : (pg) = 1 → BD A311 := (show A311 = A from funext (fun k => hF315.2 k rfl)) ▸ p_0
                      have bth2_313 : (0 : Int) ≤ th2_313 ∧ th2_313 ≤ 4 := e317 ▸ hW314.1 0
                      refine .inr ⟨_, rfl, ?_⟩
                      rcases q318 with ⟨rfl, a321, a322⟩ | ⟨rfl, a323, a324, a325⟩ | ⟨rfl, a326, a327, a328, a329⟩ | ⟨rfl, a330, a331, a332, a333⟩
                      · have _q : True := trivial
                        refine jx_if_eq (pc_q := 107) (tg := 109) rfl rfl rfl (by decide) (by decide) (fun h334 => ?_) (fun h334 => ?_)
                        · have _q := h334
                          exact absurd h334 (by omega)
                        · have _q := h334
                          refine jx_ar (pc_q := 108) (st_q := [.int (i32 (0))]) rfl rfl rfl rfl ?_
                          refine jx_rt (v := some (.int (i32 (0)))) rfl rfl rfl rfl rfl rfl ?_
                          exact ⟨_, _, _, rfl, rfl, hW314, hF319, by omega, trivial⟩
                      · have _q : True := trivial
                        exfalso
                        omega
                      · have _q : True := trivial
                        exfalso
                        omega
                      · have _q : True := trivial
                        exfalso
                        omega
                · have _q := h307
                  refine jx_ld (pc_q := 79) (l_q := L249) (st_q := [.int (i32 (1)), .int (i32 (1)), .ref 66]) rfl (jl_iloadn gL249_3) ?_
                  refine jx_if_ne (pc_q := 82) (tg := 86) rfl rfl rfl (by decide) (by decide) (fun h335 => ?_) (fun h335 => ?_)
                  · have _q := h335
                    refine jx_ar (pc_q := 87) (st_q := [.int (i32 (0)), .int (i32 (1)), .ref 66]) rfl rfl rfl rfl ?_
                    refine jx_ld (pc_q := 88) (l_q := L249) (st_q := [.int (i32 (1)), .int (i32 (0)), .int (i32 (1)), .ref 66]) rfl (jl_iloadn gL249_3) ?_
                    refine jx_if_eq (pc_q := 91) (tg := 100) rfl rfl rfl (by decide) (by decide) (fun h336 => ?_) (fun h336 => ?_)
                    · have _q := h336
                      exact absurd h336 (by omega)
                    · have _q := h336
                      refine jx_ld (pc_q := 93) (l_q := L249) (st_q := [.int (i32 (0)), .int (i32 (0)), .int (i32 (1)), .ref 66]) rfl (jl_iload gL249_4) ?_
                      refine jx_if_ne (pc_q := 96) (tg := 100) rfl rfl rfl (by decide) (by decide) (fun h337 => ?_) (fun h337 => ?_)
                      · have _q := h337
                        exact absurd h337 (by omega)
                      · have _q := h337
                        refine jx_ar (pc_q := 97) (st_q := [.int (i32 (1)), .int (i32 (0)), .int (i32 (1)), .ref 66]) rfl rfl rfl rfl ?_
                        refine jx_go (tg := 101) rfl rfl ?_
                        refine jx_vr (pc_q := 104) (as := [.int (i32 (1)), .int (i32 (0)), .int (i32 (1))]) (st := []) rfl rfl rfl rfl ⟨rfl, rfl, Nat.le_of_ble_eq_true rfl⟩ rfl rfl (c_refuse (dd := d) (hd := by omega) (hW := hW) (a := 1) (b := 0) (c := 1)   (h_a := ⟨(by decide), (by decide)⟩) (h_b := ⟨(by decide), (by decide)⟩) (h_c := ⟨(by decide), (by decide)⟩)  ) (fun o V_q hq => ?_)
                        obtain ⟨G338, A339, r340, th2_341, rfl, rfl, hW342, hF343, b344, e345, q346⟩ := hq
                        have hF347 := Fr_tr hF0 hF343 (Fr_sub (by decide)) (Fr_sub (by decide))
                        have sf348 : (pg) = 1 → BD A339 := (show A339 = A from funext (fun k => hF343.2 k rfl)) ▸ p_0
                        have bth2_341 : (0 : Int) ≤ th2_341 ∧ th2_341 ≤ 4 := e345 ▸ hW342.1 0
                        refine .inr ⟨_, rfl, ?_⟩
                        rcases q346 with ⟨rfl, a349, a350⟩ | ⟨rfl, a351, a352, a353⟩ | ⟨rfl, a354, a355, a356, a357⟩ | ⟨rfl, a358, a359, a360, a361⟩
                        · have _q : True := trivial
                          refine jx_if_eq (pc_q := 107) (tg := 109) rfl rfl rfl (by decide) (by decide) (fun h362 => ?_) (fun h362 => ?_)
                          · have _q := h362
                            exact absurd h362 (by omega)
                          · have _q := h362
                            refine jx_ar (pc_q := 108) (st_q := [.int (i32 (0))]) rfl rfl rfl rfl ?_
                            refine jx_rt (v := some (.int (i32 (0)))) rfl rfl rfl rfl rfl rfl ?_
                            exact ⟨_, _, _, rfl, rfl, hW342, hF347, by omega, trivial⟩
                        · have _q : True := trivial
                          exfalso
                          omega
                        · have _q : True := trivial
                          exfalso
                          omega
                        · have _q : True := trivial
                          exfalso
                          omega
                  · have _q := h335
                    exact absurd h335 (by omega)
            · have _q := h248
              exact absurd h248 (by omega)
    · have _q : True := trivial
      refine jx_if_eq (pc_q := 15) (tg := 19) rfl rfl rfl (by decide) (by decide) (fun h363 => ?_) (fun h363 => ?_)
      · have _q := h363
        refine jx_ar (pc_q := 20) (st_q := [.int (i32 (0))]) rfl rfl rfl rfl ?_
        refine jx_ld (pc_q := 21) (l_q := jSto1 [(0, .ref 66), (1, .int (i32 (p))), (2, .int (i32 (a)))] 3 (.int (i32 (0)))) (st_q := []) rfl rfl ?_
        obtain ⟨L364, eL364⟩ : ∃ q, q = jSto1 [(0, .ref 66), (1, .int (i32 (p))), (2, .int (i32 (a)))] 3 (.int (i32 (0))) := ⟨_, rfl⟩
        rw [← eL364]
        have gL364_0 : jGet L364 0 = some (.ref 66) := eL364 ▸ jg_ne (by decide) (rfl : jGet [(0, .ref 66), (1, .int (i32 (p))), (2, .int (i32 (a)))] 0 = some (.ref 66)) rfl
        have gL364_1 : jGet L364 1 = some (.int (i32 (p))) := eL364 ▸ jg_ne (by decide) (rfl : jGet [(0, .ref 66), (1, .int (i32 (p))), (2, .int (i32 (a)))] 1 = some (.int (i32 (p)))) rfl
        have gL364_2 : jGet L364 2 = some (.int (i32 (a))) := eL364 ▸ jg_ne (by decide) (rfl : jGet [(0, .ref 66), (1, .int (i32 (p))), (2, .int (i32 (a)))] 2 = some (.int (i32 (a)))) rfl
        have gL364_3 : jGet L364 3 = some (.int (i32 (0))) := eL364 ▸ jg_eq
        refine jx_ld (pc_q := 22) (l_q := L364) (st_q := [.int (i32 (0))]) rfl (jl_iloadn gL364_3) ?_
        refine jx_if_eq (pc_q := 25) (tg := 55) rfl rfl rfl (by decide) (by decide) (fun h365 => ?_) (fun h365 => ?_)
        · have _q := h365
          refine jx_ar (pc_q := 56) (st_q := [.int (i32 (0))]) rfl rfl rfl rfl ?_
          refine jx_ld (pc_q := 58) (l_q := jSto1 L364 4 (.int (i32 (0)))) (st_q := []) rfl rfl ?_
          obtain ⟨L366, eL366⟩ : ∃ q, q = jSto1 L364 4 (.int (i32 (0))) := ⟨_, rfl⟩
          rw [← eL366]
          have gL366_0 : jGet L366 0 = some (.ref 66) := eL366 ▸ jg_ne (by decide) gL364_0 rfl
          have gL366_1 : jGet L366 1 = some (.int (i32 (p))) := eL366 ▸ jg_ne (by decide) gL364_1 rfl
          have gL366_2 : jGet L366 2 = some (.int (i32 (a))) := eL366 ▸ jg_ne (by decide) gL364_2 rfl
          have gL366_3 : jGet L366 3 = some (.int (i32 (0))) := eL366 ▸ jg_ne (by decide) gL364_3 rfl
          have gL366_4 : jGet L366 4 = some (.int (i32 (0))) := eL366 ▸ jg_eq
          refine jx_ld (pc_q := 59) (l_q := L366) (st_q := [.ref 66]) rfl (jl_aloadn gL366_0) ?_
          refine jx_ld (pc_q := 60) (l_q := L366) (st_q := [.ref 66, .ref 66]) rfl (jl_aloadn gL366_0) ?_
          refine jr_get (pc_q := 63) (i := 58) (v := .int (i32 (pg))) rfl rfl (by decide) (rFv_eq (by decide) (show G 58 = pg from (e_pg))) rfl ?_
          refine jx_if_ne (pc_q := 66) (tg := 70) rfl rfl rfl (Int.le_trans (by decide : (-2147483648 : Int) ≤ 0) b_pg.1) (Int.le_trans b_pg.2 (by decide : (1 : Int) ≤ 2147483647)) (fun h367 => ?_) (fun h367 => ?_)
          · have _q := h367
            refine jx_ar (pc_q := 71) (st_q := [.int (i32 (0)), .ref 66]) rfl rfl rfl rfl ?_
            refine jx_ld (pc_q := 72) (l_q := L366) (st_q := [.ref 66, .int (i32 (0)), .ref 66]) rfl (jl_aloadn gL366_0) ?_
            refine jr_get (pc_q := 75) (i := 58) (v := .int (i32 (pg))) rfl rfl (by decide) (rFv_eq (by decide) (show G 58 = pg from (e_pg))) rfl ?_
            refine jx_if_eq (pc_q := 78) (tg := 86) rfl rfl rfl (Int.le_trans (by decide : (-2147483648 : Int) ≤ 0) b_pg.1) (Int.le_trans b_pg.2 (by decide : (1 : Int) ≤ 2147483647)) (fun h368 => ?_) (fun h368 => ?_)
            · have _q := h368
              refine jx_ar (pc_q := 87) (st_q := [.int (i32 (0)), .int (i32 (0)), .ref 66]) rfl rfl rfl rfl ?_
              refine jx_ld (pc_q := 88) (l_q := L366) (st_q := [.int (i32 (0)), .int (i32 (0)), .int (i32 (0)), .ref 66]) rfl (jl_iloadn gL366_3) ?_
              refine jx_if_eq (pc_q := 91) (tg := 100) rfl rfl rfl (by decide) (by decide) (fun h369 => ?_) (fun h369 => ?_)
              · have _q := h369
                refine jx_ar (pc_q := 101) (st_q := [.int (i32 (0)), .int (i32 (0)), .int (i32 (0)), .ref 66]) rfl rfl rfl rfl ?_
                refine jx_vr (pc_q := 104) (as := [.int (i32 (0)), .int (i32 (0)), .int (i32 (0))]) (st := []) rfl rfl rfl rfl ⟨rfl, rfl, Nat.le_of_ble_eq_true rfl⟩ rfl rfl (c_refuse (dd := d) (hd := by omega) (hW := hW) (a := 0) (b := 0) (c := 0)   (h_a := ⟨(by decide), (by decide)⟩) (h_b := ⟨(by decide), (by decide)⟩) (h_c := ⟨(by decide), (by decide)⟩)  ) (fun o V_q hq => ?_)
                obtain ⟨G370, A371, r372, th2_373, rfl, rfl, hW374, hF375, b376, e377, q378⟩ := hq
                have hF379 := Fr_tr hF0 hF375 (Fr_sub (by decide)) (Fr_sub (by decide))
                have sf380 : (pg) = 1 → BD A371 := (show A371 = A from funext (fun k => hF375.2 k rfl)) ▸ p_0
                have bth2_373 : (0 : Int) ≤ th2_373 ∧ th2_373 ≤ 4 := e377 ▸ hW374.1 0
                refine .inr ⟨_, rfl, ?_⟩
                rcases q378 with ⟨rfl, a381, a382⟩ | ⟨rfl, a383, a384, a385⟩ | ⟨rfl, a386, a387, a388, a389⟩ | ⟨rfl, a390, a391, a392, a393⟩
                · have _q : True := trivial
                  exfalso
                  omega
                · have _q : True := trivial
                  exfalso
                  omega
                · have _q : True := trivial
                  exfalso
                  omega
                · have _q : True := trivial
                  refine jx_if_eq (pc_q := 107) (tg := 109) rfl rfl rfl (by decide) (by decide) (fun h394 => ?_) (fun h394 => ?_)
                  · have _q := h394
                    exact c_word_at_109 (X := X) (d := d) (c0 := c0) (c1 := c1) (G := G) (A := A) (T := T) (p := p) (a := a) (pg := pg) (bp := bp) (hd := hd) (hW := hW) (e_pg := e_pg) (e_bp := e_bp) (h_p := h_p) (h_a := h_a) (p_0 := p_0) L366 G370 A371 gL366_0 gL366_1 gL366_2 hW374 hF379 (by omega) (by omega) (by omega) (by omega)
                  · have _q := h394
                    exact absurd h394 (by omega)
              · have _q := h369
                exact absurd h369 (by omega)
            · have _q := h368
              refine jx_ld (pc_q := 79) (l_q := L366) (st_q := [.int (i32 (0)), .int (i32 (0)), .ref 66]) rfl (jl_iloadn gL366_3) ?_
              refine jx_if_ne (pc_q := 82) (tg := 86) rfl rfl rfl (by decide) (by decide) (fun h395 => ?_) (fun h395 => ?_)
              · have _q := h395
                exact absurd h395 (by omega)
              · have _q := h395
                refine jx_ar (pc_q := 83) (st_q := [.int (i32 (1)), .int (i32 (0)), .ref 66]) rfl rfl rfl rfl ?_
                refine jx_go (tg := 87) rfl rfl ?_
                refine jx_ld (pc_q := 88) (l_q := L366) (st_q := [.int (i32 (0)), .int (i32 (1)), .int (i32 (0)), .ref 66]) rfl (jl_iloadn gL366_3) ?_
                refine jx_if_eq (pc_q := 91) (tg := 100) rfl rfl rfl (by decide) (by decide) (fun h396 => ?_) (fun h396 => ?_)
                · have _q := h396
                  refine jx_ar (pc_q := 101) (st_q := [.int (i32 (0)), .int (i32 (1)), .int (i32 (0)), .ref 66]) rfl rfl rfl rfl ?_
                  refine jx_vr (pc_q := 104) (as := [.int (i32 (0)), .int (i32 (1)), .int (i32 (0))]) (st := []) rfl rfl rfl rfl ⟨rfl, rfl, Nat.le_of_ble_eq_true rfl⟩ rfl rfl (c_refuse (dd := d) (hd := by omega) (hW := hW) (a := 0) (b := 1) (c := 0)   (h_a := ⟨(by decide), (by decide)⟩) (h_b := ⟨(by decide), (by decide)⟩) (h_c := ⟨(by decide), (by decide)⟩)  ) (fun o V_q hq => ?_)
                  obtain ⟨G397, A398, r399, th2_400, rfl, rfl, hW401, hF402, b403, e404, q405⟩ := hq
                  have hF406 := Fr_tr hF0 hF402 (Fr_sub (by decide)) (Fr_sub (by decide))
                  have sf407 : (pg) = 1 → BD A398 := (show A398 = A from funext (fun k => hF402.2 k rfl)) ▸ p_0
                  have bth2_400 : (0 : Int) ≤ th2_400 ∧ th2_400 ≤ 4 := e404 ▸ hW401.1 0
                  refine .inr ⟨_, rfl, ?_⟩
                  rcases q405 with ⟨rfl, a408, a409⟩ | ⟨rfl, a410, a411, a412⟩ | ⟨rfl, a413, a414, a415, a416⟩ | ⟨rfl, a417, a418, a419, a420⟩
                  · have _q : True := trivial
                    exfalso
                    omega
                  · have _q : True := trivial
                    refine jx_if_eq (pc_q := 107) (tg := 109) rfl rfl rfl (by decide) (by decide) (fun h421 => ?_) (fun h421 => ?_)
                    · have _q := h421
                      exact absurd h421 (by omega)
                    · have _q := h421
                      refine jx_ar (pc_q := 108) (st_q := [.int (i32 (0))]) rfl rfl rfl rfl ?_
                      refine jx_rt (v := some (.int (i32 (0)))) rfl rfl rfl rfl rfl rfl ?_
                      exact ⟨_, _, _, rfl, rfl, hW401, hF406, by omega, trivial⟩
                  · have _q : True := trivial
                    exfalso
                    omega
                  · have _q : True := trivial
                    exfalso
                    omega
                · have _q := h396
                  exact absurd h396 (by omega)
          · have _q := h367
            refine jx_ar (pc_q := 67) (st_q := [.int (i32 (1)), .ref 66]) rfl rfl rfl rfl ?_
            refine jx_go (tg := 71) rfl rfl ?_
            refine jx_ld (pc_q := 72) (l_q := L366) (st_q := [.ref 66, .int (i32 (1)), .ref 66]) rfl (jl_aloadn gL366_0) ?_
            refine jr_get (pc_q := 75) (i := 58) (v := .int (i32 (pg))) rfl rfl (by decide) (rFv_eq (by decide) (show G 58 = pg from (e_pg))) rfl ?_
            refine jx_if_eq (pc_q := 78) (tg := 86) rfl rfl rfl (Int.le_trans (by decide : (-2147483648 : Int) ≤ 0) b_pg.1) (Int.le_trans b_pg.2 (by decide : (1 : Int) ≤ 2147483647)) (fun h422 => ?_) (fun h422 => ?_)
            · have _q := h422
              refine jx_ar (pc_q := 87) (st_q := [.int (i32 (0)), .int (i32 (1)), .ref 66]) rfl rfl rfl rfl ?_
              refine jx_ld (pc_q := 88) (l_q := L366) (st_q := [.int (i32 (0)), .int (i32 (0)), .int (i32 (1)), .ref 66]) rfl (jl_iloadn gL366_3) ?_
              refine jx_if_eq (pc_q := 91) (tg := 100) rfl rfl rfl (by decide) (by decide) (fun h423 => ?_) (fun h423 => ?_)
              · have _q := h423
                refine jx_ar (pc_q := 101) (st_q := [.int (i32 (0)), .int (i32 (0)), .int (i32 (1)), .ref 66]) rfl rfl rfl rfl ?_
                refine jx_vr (pc_q := 104) (as := [.int (i32 (1)), .int (i32 (0)), .int (i32 (0))]) (st := []) rfl rfl rfl rfl ⟨rfl, rfl, Nat.le_of_ble_eq_true rfl⟩ rfl rfl (c_refuse (dd := d) (hd := by omega) (hW := hW) (a := 1) (b := 0) (c := 0)   (h_a := ⟨(by decide), (by decide)⟩) (h_b := ⟨(by decide), (by decide)⟩) (h_c := ⟨(by decide), (by decide)⟩)  ) (fun o V_q hq => ?_)
                obtain ⟨G424, A425, r426, th2_427, rfl, rfl, hW428, hF429, b430, e431, q432⟩ := hq
                have hF433 := Fr_tr hF0 hF429 (Fr_sub (by decide)) (Fr_sub (by decide))
                have sf434 : (pg) = 1 → BD A425 := (show A425 = A from funext (fun k => hF429.2 k rfl)) ▸ p_0
                have bth2_427 : (0 : Int) ≤ th2_427 ∧ th2_427 ≤ 4 := e431 ▸ hW428.1 0
                refine .inr ⟨_, rfl, ?_⟩
                rcases q432 with ⟨rfl, a435, a436⟩ | ⟨rfl, a437, a438, a439⟩ | ⟨rfl, a440, a441, a442, a443⟩ | ⟨rfl, a444, a445, a446, a447⟩
                · have _q : True := trivial
                  refine jx_if_eq (pc_q := 107) (tg := 109) rfl rfl rfl (by decide) (by decide) (fun h448 => ?_) (fun h448 => ?_)
                  · have _q := h448
                    exact absurd h448 (by omega)
                  · have _q := h448
                    refine jx_ar (pc_q := 108) (st_q := [.int (i32 (0))]) rfl rfl rfl rfl ?_
                    refine jx_rt (v := some (.int (i32 (0)))) rfl rfl rfl rfl rfl rfl ?_
                    exact ⟨_, _, _, rfl, rfl, hW428, hF433, by omega, trivial⟩
                · have _q : True := trivial
                  exfalso
                  omega
                · have _q : True := trivial
                  exfalso
                  omega
                · have _q : True := trivial
                  exfalso
                  omega
              · have _q := h423
                exact absurd h423 (by omega)
            · have _q := h422
              refine jx_ld (pc_q := 79) (l_q := L366) (st_q := [.int (i32 (0)), .int (i32 (1)), .ref 66]) rfl (jl_iloadn gL366_3) ?_
              refine jx_if_ne (pc_q := 82) (tg := 86) rfl rfl rfl (by decide) (by decide) (fun h449 => ?_) (fun h449 => ?_)
              · have _q := h449
                exact absurd h449 (by omega)
              · have _q := h449
                refine jx_ar (pc_q := 83) (st_q := [.int (i32 (1)), .int (i32 (1)), .ref 66]) rfl rfl rfl rfl ?_
                refine jx_go (tg := 87) rfl rfl ?_
                refine jx_ld (pc_q := 88) (l_q := L366) (st_q := [.int (i32 (0)), .int (i32 (1)), .int (i32 (1)), .ref 66]) rfl (jl_iloadn gL366_3) ?_
                refine jx_if_eq (pc_q := 91) (tg := 100) rfl rfl rfl (by decide) (by decide) (fun h450 => ?_) (fun h450 => ?_)
                · have _q := h450
                  refine jx_ar (pc_q := 101) (st_q := [.int (i32 (0)), .int (i32 (1)), .int (i32 (1)), .ref 66]) rfl rfl rfl rfl ?_
                  refine jx_vr (pc_q := 104) (as := [.int (i32 (1)), .int (i32 (1)), .int (i32 (0))]) (st := []) rfl rfl rfl rfl ⟨rfl, rfl, Nat.le_of_ble_eq_true rfl⟩ rfl rfl (c_refuse (dd := d) (hd := by omega) (hW := hW) (a := 1) (b := 1) (c := 0)   (h_a := ⟨(by decide), (by decide)⟩) (h_b := ⟨(by decide), (by decide)⟩) (h_c := ⟨(by decide), (by decide)⟩)  ) (fun o V_q hq => ?_)
                  obtain ⟨G451, A452, r453, th2_454, rfl, rfl, hW455, hF456, b457, e458, q459⟩ := hq
                  have hF460 := Fr_tr hF0 hF456 (Fr_sub (by decide)) (Fr_sub (by decide))
                  have sf461 : (pg) = 1 → BD A452 := (show A452 = A from funext (fun k => hF456.2 k rfl)) ▸ p_0
                  have bth2_454 : (0 : Int) ≤ th2_454 ∧ th2_454 ≤ 4 := e458 ▸ hW455.1 0
                  refine .inr ⟨_, rfl, ?_⟩
                  rcases q459 with ⟨rfl, a462, a463⟩ | ⟨rfl, a464, a465, a466⟩ | ⟨rfl, a467, a468, a469, a470⟩ | ⟨rfl, a471, a472, a473, a474⟩
                  · have _q : True := trivial
                    refine jx_if_eq (pc_q := 107) (tg := 109) rfl rfl rfl (by decide) (by decide) (fun h475 => ?_) (fun h475 => ?_)
                    · have _q := h475
                      exact absurd h475 (by omega)
                    · have _q := h475
                      refine jx_ar (pc_q := 108) (st_q := [.int (i32 (0))]) rfl rfl rfl rfl ?_
                      refine jx_rt (v := some (.int (i32 (0)))) rfl rfl rfl rfl rfl rfl ?_
                      exact ⟨_, _, _, rfl, rfl, hW455, hF460, by omega, trivial⟩
                  · have _q : True := trivial
                    exfalso
                    omega
                  · have _q : True := trivial
                    exfalso
                    omega
                  · have _q : True := trivial
                    exfalso
                    omega
                · have _q := h450
                  exact absurd h450 (by omega)
        · have _q := h365
          exact absurd h365 (by omega)
      · have _q := h363
        exact absurd h363 (by omega)
set_option maxRecDepth 20000 in
set_option maxHeartbeats 4000000 in
theorem c_output {X : jX} {dd : Nat} {c0 c1 : jC} {G : Nat → Int} {A : Nat → Nat → Int} {T : jH} {i : Int} {pg om : Int} (hd : 2 ≤ dd) (hW : Wk G A) (e_pg : G 58 = pg) (e_om : G 113 = om) (h_i : (-2147483648 : Int) ≤ i ∧ i ≤ 2147483647) (p_0 : 0 ≤ om) : wk X dd 411 [.ref 66, .int (i32 i)] (rV c0 c1 G A T) (fun o V_q => ∃ (G_q : Nat → Int) (A_q : Nat → Nat → Int) (r : Int), V_q = rV c0 c1 G_q A_q T ∧ o = .inl (some (.int (i32 r))) ∧ Wk G_q A_q ∧ Fr [0] [] G A G_q A_q ∧ ((-2147483648 : Int) ≤ r ∧ r ≤ 2147483647) ∧ True) := by
  obtain ⟨d, rfl⟩ : ∃ d, dd = d + 1 := ⟨dd - 1, by omega⟩
  refine wk_of (e := jm411) rfl (Nat.le_of_ble_eq_true rfl) ?_
  show wj X d jm411 (0, [(0, .ref 66), (1, .int (i32 (i)))], [], rV c0 c1 G A T) _
  have hF0 : Fr [0] [] G A G A := Fr_rf
  have b_pg : (0 : Int) ≤ pg ∧ pg ≤ 1 := e_pg ▸ hW.1 58
  have b_om : (-2147483648 : Int) ≤ om ∧ om ≤ 2147483647 := e_om ▸ hW.1 113
  refine jx_ld (pc_q := 1) (l_q := [(0, .ref 66), (1, .int (i32 (i)))]) (st_q := [.ref 66]) rfl (jl_aloadn rfl) ?_
  refine jx_ld (pc_q := 2) (l_q := [(0, .ref 66), (1, .int (i32 (i)))]) (st_q := [.ref 66, .ref 66]) rfl (jl_aloadn rfl) ?_
  refine jr_get (pc_q := 5) (i := 58) (v := .int (i32 (pg))) rfl rfl (by decide) (rFv_eq (by decide) (show G 58 = pg from (e_pg))) rfl ?_
  refine jx_if_ne (pc_q := 8) (tg := 12) rfl rfl rfl (Int.le_trans (by decide : (-2147483648 : Int) ≤ 0) b_pg.1) (Int.le_trans b_pg.2 (by decide : (1 : Int) ≤ 2147483647)) (fun h1 => ?_) (fun h1 => ?_)
  · have _q := h1
    refine jx_ar (pc_q := 13) (st_q := [.int (i32 (0)), .ref 66]) rfl rfl rfl rfl ?_
    refine jx_ld (pc_q := 14) (l_q := [(0, .ref 66), (1, .int (i32 (i)))]) (st_q := [.ref 66, .int (i32 (0)), .ref 66]) rfl (jl_aloadn rfl) ?_
    refine jr_get (pc_q := 17) (i := 58) (v := .int (i32 (pg))) rfl rfl (by decide) (rFv_eq (by decide) (show G 58 = pg from (e_pg))) rfl ?_
    refine jx_if_eq (pc_q := 20) (tg := 54) rfl rfl rfl (Int.le_trans (by decide : (-2147483648 : Int) ≤ 0) b_pg.1) (Int.le_trans b_pg.2 (by decide : (1 : Int) ≤ 2147483647)) (fun h2 => ?_) (fun h2 => ?_)
    · have _q := h2
      refine jx_ar (pc_q := 55) (st_q := [.int (i32 (0)), .int (i32 (0)), .ref 66]) rfl rfl rfl rfl ?_
      refine jx_ar (pc_q := 56) (st_q := [.int (i32 (0)), .int (i32 (0)), .int (i32 (0)), .ref 66]) rfl rfl rfl rfl ?_
      refine jx_vr (pc_q := 59) (as := [.int (i32 (0)), .int (i32 (0)), .int (i32 (0))]) (st := []) rfl rfl rfl rfl ⟨rfl, rfl, Nat.le_of_ble_eq_true rfl⟩ rfl rfl (c_refuse (dd := d) (hd := by omega) (hW := hW) (a := 0) (b := 0) (c := 0)   (h_a := ⟨(by decide), (by decide)⟩) (h_b := ⟨(by decide), (by decide)⟩) (h_c := ⟨(by decide), (by decide)⟩)  ) (fun o V_q hq => ?_)
      obtain ⟨G3, A4, r5, th2_6, rfl, rfl, hW7, hF8, b9, e10, q11⟩ := hq
      have hF12 := Fr_tr hF0 hF8 (Fr_sub (by decide)) (Fr_sub (by decide))
      have bth2_6 : (0 : Int) ≤ th2_6 ∧ th2_6 ≤ 4 := e10 ▸ hW7.1 0
      refine .inr ⟨_, rfl, ?_⟩
      rcases q11 with ⟨rfl, a13, a14⟩ | ⟨rfl, a15, a16, a17⟩ | ⟨rfl, a18, a19, a20, a21⟩ | ⟨rfl, a22, a23, a24, a25⟩
      · have _q : True := trivial
        exfalso
        omega
      · have _q : True := trivial
        exfalso
        omega
      · have _q : True := trivial
        exfalso
        omega
      · have _q : True := trivial
        refine jx_if_eq (pc_q := 62) (tg := 64) rfl rfl rfl (by decide) (by decide) (fun h26 => ?_) (fun h26 => ?_)
        · have _q := h26
          refine jx_ld (pc_q := 65) (l_q := [(0, .ref 66), (1, .int (i32 (i)))]) (st_q := [.ref 66]) rfl (jl_aloadn rfl) ?_
          refine jr_get (pc_q := 68) (i := 112) (v := .ref 146) rfl rfl (by decide) rfl rfl ?_
          refine jx_ld (pc_q := 69) (l_q := [(0, .ref 66), (1, .int (i32 (i)))]) (st_q := [.int (i32 (i)), .ref 146]) rfl (jl_iloadn rfl) ?_
          have b27 : (-2147483648 : Int) ≤ A 79 (i).toNat ∧ A 79 (i).toNat ≤ 2147483647 := hW.2 79 _
          refine jr_ldv (pc_q := 70) (i := 79) (m := 1000) (z := i) (y := A 79 (i).toNat) rfl (by decide) rfl (by decide) (by omega) (by omega) rfl (show A4 79 (i).toNat = A 79 (i).toNat from (congrFun (hF8.2 79 rfl) _)) ?_
          refine jx_rt (v := some (.int (i32 (A 79 (i).toNat)))) rfl rfl rfl rfl rfl rfl ?_
          exact ⟨_, _, _, rfl, rfl, hW7, hF12, by omega, trivial⟩
        · have _q := h26
          exact absurd h26 (by omega)
    · have _q := h2
      refine jx_ld (pc_q := 21) (l_q := [(0, .ref 66), (1, .int (i32 (i)))]) (st_q := [.int (i32 (i)), .int (i32 (0)), .ref 66]) rfl (jl_iloadn rfl) ?_
      refine jx_ar (pc_q := 22) (st_q := [.int (i32 (0)), .int (i32 (i)), .int (i32 (0)), .ref 66]) rfl rfl rfl rfl ?_
      refine jx_ld (pc_q := 23) (l_q := [(0, .ref 66), (1, .int (i32 (i)))]) (st_q := [.ref 66, .int (i32 (0)), .int (i32 (i)), .int (i32 (0)), .ref 66]) rfl (jl_aloadn rfl) ?_
      refine jr_get (pc_q := 26) (i := 113) (v := .int (i32 (om))) rfl rfl (by decide) (rFv_eq (by decide) (show G 113 = om from (e_om))) rfl ?_
      refine jx_ar (pc_q := 29) (st_q := [.int (i32 (1000)), .int (i32 (om)), .int (i32 (0)), .int (i32 (i)), .int (i32 (0)), .ref 66]) rfl rfl rfl rfl ?_
      refine jx_icmp_ge (pc_q := 32) (tg := 39) rfl rfl rfl (Int.le_trans (by decide : (-2147483648 : Int) ≤ -2147483648) b_om.1) (Int.le_trans b_om.2 (by decide : (2147483647 : Int) ≤ 2147483647)) (by decide) (by decide) (fun h28 => ?_) (fun h28 => ?_)
      · have _q := h28
        refine jx_ar (pc_q := 42) (st_q := [.int (i32 (1000)), .int (i32 (0)), .int (i32 (i)), .int (i32 (0)), .ref 66]) rfl rfl rfl rfl ?_
        refine jx_ar (pc_q := 43) (st_q := [.int (i32 (1)), .int (i32 (1000)), .int (i32 (0)), .int (i32 (i)), .int (i32 (0)), .ref 66]) rfl rfl rfl rfl ?_
        refine jx_sub (pc_q := 44) rfl rfl ?_
        refine jx_st (pc_q := 47) (as := [.int (i32 (i)), .int (i32 (0)), .int (i32 ((1000 - 1)))]) (st := [.int (i32 (0)), .ref 66]) rfl rfl ⟨rfl, Nat.le_of_ble_eq_true rfl⟩ rfl rfl rfl (c_in (dd := d) (hd := by omega) (v := i) (a := 0) (b := (1000 - 1))   (h_v := ⟨(Int.le_trans (by decide : (-2147483648 : Int) ≤ -2147483648) h_i.1), (Int.le_trans h_i.2 (by decide : (2147483647 : Int) ≤ 2147483647))⟩) (h_a := ⟨(by decide), (by decide)⟩) (h_b := ⟨(by omega), (by omega)⟩)  ) (fun o V_q hq => ?_)
        obtain ⟨r29, rfl, rfl, b30, q31⟩ := hq
        refine .inr ⟨_, rfl, ?_⟩
        rcases q31 with ⟨rfl, a32, a33⟩ | ⟨rfl, a34⟩
        · have _q : True := trivial
          refine jx_if_ne (pc_q := 50) (tg := 54) rfl rfl rfl (by decide) (by decide) (fun h35 => ?_) (fun h35 => ?_)
          · have _q := h35
            refine jx_ar (pc_q := 55) (st_q := [.int (i32 (0)), .int (i32 (0)), .ref 66]) rfl rfl rfl rfl ?_
            refine jx_ar (pc_q := 56) (st_q := [.int (i32 (0)), .int (i32 (0)), .int (i32 (0)), .ref 66]) rfl rfl rfl rfl ?_
            refine jx_vr (pc_q := 59) (as := [.int (i32 (0)), .int (i32 (0)), .int (i32 (0))]) (st := []) rfl rfl rfl rfl ⟨rfl, rfl, Nat.le_of_ble_eq_true rfl⟩ rfl rfl (c_refuse (dd := d) (hd := by omega) (hW := hW) (a := 0) (b := 0) (c := 0)   (h_a := ⟨(by decide), (by decide)⟩) (h_b := ⟨(by decide), (by decide)⟩) (h_c := ⟨(by decide), (by decide)⟩)  ) (fun o V_q hq => ?_)
            obtain ⟨G36, A37, r38, th2_39, rfl, rfl, hW40, hF41, b42, e43, q44⟩ := hq
            have hF45 := Fr_tr hF0 hF41 (Fr_sub (by decide)) (Fr_sub (by decide))
            have bth2_39 : (0 : Int) ≤ th2_39 ∧ th2_39 ≤ 4 := e43 ▸ hW40.1 0
            refine .inr ⟨_, rfl, ?_⟩
            rcases q44 with ⟨rfl, a46, a47⟩ | ⟨rfl, a48, a49, a50⟩ | ⟨rfl, a51, a52, a53, a54⟩ | ⟨rfl, a55, a56, a57, a58⟩
            · have _q : True := trivial
              exfalso
              omega
            · have _q : True := trivial
              exfalso
              omega
            · have _q : True := trivial
              exfalso
              omega
            · have _q : True := trivial
              refine jx_if_eq (pc_q := 62) (tg := 64) rfl rfl rfl (by decide) (by decide) (fun h59 => ?_) (fun h59 => ?_)
              · have _q := h59
                refine jx_ld (pc_q := 65) (l_q := [(0, .ref 66), (1, .int (i32 (i)))]) (st_q := [.ref 66]) rfl (jl_aloadn rfl) ?_
                refine jr_get (pc_q := 68) (i := 112) (v := .ref 146) rfl rfl (by decide) rfl rfl ?_
                refine jx_ld (pc_q := 69) (l_q := [(0, .ref 66), (1, .int (i32 (i)))]) (st_q := [.int (i32 (i)), .ref 146]) rfl (jl_iloadn rfl) ?_
                have b60 : (-2147483648 : Int) ≤ A 79 (i).toNat ∧ A 79 (i).toNat ≤ 2147483647 := hW.2 79 _
                refine jr_ldv (pc_q := 70) (i := 79) (m := 1000) (z := i) (y := A 79 (i).toNat) rfl (by decide) rfl (by decide) (by omega) (by omega) rfl (show A37 79 (i).toNat = A 79 (i).toNat from (congrFun (hF41.2 79 rfl) _)) ?_
                refine jx_rt (v := some (.int (i32 (A 79 (i).toNat)))) rfl rfl rfl rfl rfl rfl ?_
                exact ⟨_, _, _, rfl, rfl, hW40, hF45, by omega, trivial⟩
              · have _q := h59
                exact absurd h59 (by omega)
          · have _q := h35
            exact absurd h35 (by omega)
        · have _q : True := trivial
          refine jx_if_ne (pc_q := 50) (tg := 54) rfl rfl rfl (by decide) (by decide) (fun h61 => ?_) (fun h61 => ?_)
          · have _q := h61
            exact absurd h61 (by omega)
          · have _q := h61
            refine jx_ar (pc_q := 51) (st_q := [.int (i32 (1)), .int (i32 (0)), .ref 66]) rfl rfl rfl rfl ?_
            refine jx_go (tg := 55) rfl rfl ?_
            refine jx_ar (pc_q := 56) (st_q := [.int (i32 (0)), .int (i32 (1)), .int (i32 (0)), .ref 66]) rfl rfl rfl rfl ?_
            refine jx_vr (pc_q := 59) (as := [.int (i32 (0)), .int (i32 (1)), .int (i32 (0))]) (st := []) rfl rfl rfl rfl ⟨rfl, rfl, Nat.le_of_ble_eq_true rfl⟩ rfl rfl (c_refuse (dd := d) (hd := by omega) (hW := hW) (a := 0) (b := 1) (c := 0)   (h_a := ⟨(by decide), (by decide)⟩) (h_b := ⟨(by decide), (by decide)⟩) (h_c := ⟨(by decide), (by decide)⟩)  ) (fun o V_q hq => ?_)
            obtain ⟨G62, A63, r64, th2_65, rfl, rfl, hW66, hF67, b68, e69, q70⟩ := hq
            have hF71 := Fr_tr hF0 hF67 (Fr_sub (by decide)) (Fr_sub (by decide))
            have bth2_65 : (0 : Int) ≤ th2_65 ∧ th2_65 ≤ 4 := e69 ▸ hW66.1 0
            refine .inr ⟨_, rfl, ?_⟩
            rcases q70 with ⟨rfl, a72, a73⟩ | ⟨rfl, a74, a75, a76⟩ | ⟨rfl, a77, a78, a79, a80⟩ | ⟨rfl, a81, a82, a83, a84⟩
            · have _q : True := trivial
              exfalso
              omega
            · have _q : True := trivial
              refine jx_if_eq (pc_q := 62) (tg := 64) rfl rfl rfl (by decide) (by decide) (fun h85 => ?_) (fun h85 => ?_)
              · have _q := h85
                exact absurd h85 (by omega)
              · have _q := h85
                refine jx_ar (pc_q := 63) (st_q := [.int (i32 (0))]) rfl rfl rfl rfl ?_
                refine jx_rt (v := some (.int (i32 (0)))) rfl rfl rfl rfl rfl rfl ?_
                exact ⟨_, _, _, rfl, rfl, hW66, hF71, by omega, trivial⟩
            · have _q : True := trivial
              exfalso
              omega
            · have _q : True := trivial
              exfalso
              omega
      · have _q := h28
        refine jx_ld (pc_q := 33) (l_q := [(0, .ref 66), (1, .int (i32 (i)))]) (st_q := [.ref 66, .int (i32 (0)), .int (i32 (i)), .int (i32 (0)), .ref 66]) rfl (jl_aloadn rfl) ?_
        refine jr_get (pc_q := 36) (i := 113) (v := .int (i32 (om))) rfl rfl (by decide) (rFv_eq (by decide) (show G 113 = om from (e_om))) rfl ?_
        refine jx_go (tg := 42) rfl rfl ?_
        refine jx_ar (pc_q := 43) (st_q := [.int (i32 (1)), .int (i32 (om)), .int (i32 (0)), .int (i32 (i)), .int (i32 (0)), .ref 66]) rfl rfl rfl rfl ?_
        refine jx_sub (pc_q := 44) rfl rfl ?_
        refine jx_st (pc_q := 47) (as := [.int (i32 (i)), .int (i32 (0)), .int (i32 ((om - 1)))]) (st := [.int (i32 (0)), .ref 66]) rfl rfl ⟨rfl, Nat.le_of_ble_eq_true rfl⟩ rfl rfl rfl (c_in (dd := d) (hd := by omega) (v := i) (a := 0) (b := (om - 1))   (h_v := ⟨(Int.le_trans (by decide : (-2147483648 : Int) ≤ -2147483648) h_i.1), (Int.le_trans h_i.2 (by decide : (2147483647 : Int) ≤ 2147483647))⟩) (h_a := ⟨(by decide), (by decide)⟩) (h_b := ⟨(by omega), (by omega)⟩)  ) (fun o V_q hq => ?_)
        obtain ⟨r86, rfl, rfl, b87, q88⟩ := hq
        refine .inr ⟨_, rfl, ?_⟩
        rcases q88 with ⟨rfl, a89, a90⟩ | ⟨rfl, a91⟩
        · have _q : True := trivial
          refine jx_if_ne (pc_q := 50) (tg := 54) rfl rfl rfl (by decide) (by decide) (fun h92 => ?_) (fun h92 => ?_)
          · have _q := h92
            refine jx_ar (pc_q := 55) (st_q := [.int (i32 (0)), .int (i32 (0)), .ref 66]) rfl rfl rfl rfl ?_
            refine jx_ar (pc_q := 56) (st_q := [.int (i32 (0)), .int (i32 (0)), .int (i32 (0)), .ref 66]) rfl rfl rfl rfl ?_
            refine jx_vr (pc_q := 59) (as := [.int (i32 (0)), .int (i32 (0)), .int (i32 (0))]) (st := []) rfl rfl rfl rfl ⟨rfl, rfl, Nat.le_of_ble_eq_true rfl⟩ rfl rfl (c_refuse (dd := d) (hd := by omega) (hW := hW) (a := 0) (b := 0) (c := 0)   (h_a := ⟨(by decide), (by decide)⟩) (h_b := ⟨(by decide), (by decide)⟩) (h_c := ⟨(by decide), (by decide)⟩)  ) (fun o V_q hq => ?_)
            obtain ⟨G93, A94, r95, th2_96, rfl, rfl, hW97, hF98, b99, e100, q101⟩ := hq
            have hF102 := Fr_tr hF0 hF98 (Fr_sub (by decide)) (Fr_sub (by decide))
            have bth2_96 : (0 : Int) ≤ th2_96 ∧ th2_96 ≤ 4 := e100 ▸ hW97.1 0
            refine .inr ⟨_, rfl, ?_⟩
            rcases q101 with ⟨rfl, a103, a104⟩ | ⟨rfl, a105, a106, a107⟩ | ⟨rfl, a108, a109, a110, a111⟩ | ⟨rfl, a112, a113, a114, a115⟩
            · have _q : True := trivial
              exfalso
              omega
            · have _q : True := trivial
              exfalso
              omega
            · have _q : True := trivial
              exfalso
              omega
            · have _q : True := trivial
              refine jx_if_eq (pc_q := 62) (tg := 64) rfl rfl rfl (by decide) (by decide) (fun h116 => ?_) (fun h116 => ?_)
              · have _q := h116
                refine jx_ld (pc_q := 65) (l_q := [(0, .ref 66), (1, .int (i32 (i)))]) (st_q := [.ref 66]) rfl (jl_aloadn rfl) ?_
                refine jr_get (pc_q := 68) (i := 112) (v := .ref 146) rfl rfl (by decide) rfl rfl ?_
                refine jx_ld (pc_q := 69) (l_q := [(0, .ref 66), (1, .int (i32 (i)))]) (st_q := [.int (i32 (i)), .ref 146]) rfl (jl_iloadn rfl) ?_
                have b117 : (-2147483648 : Int) ≤ A 79 (i).toNat ∧ A 79 (i).toNat ≤ 2147483647 := hW.2 79 _
                refine jr_ldv (pc_q := 70) (i := 79) (m := 1000) (z := i) (y := A 79 (i).toNat) rfl (by decide) rfl (by decide) (by omega) (by omega) rfl (show A94 79 (i).toNat = A 79 (i).toNat from (congrFun (hF98.2 79 rfl) _)) ?_
                refine jx_rt (v := some (.int (i32 (A 79 (i).toNat)))) rfl rfl rfl rfl rfl rfl ?_
                exact ⟨_, _, _, rfl, rfl, hW97, hF102, by omega, trivial⟩
              · have _q := h116
                exact absurd h116 (by omega)
          · have _q := h92
            exact absurd h92 (by omega)
        · have _q : True := trivial
          refine jx_if_ne (pc_q := 50) (tg := 54) rfl rfl rfl (by decide) (by decide) (fun h118 => ?_) (fun h118 => ?_)
          · have _q := h118
            exact absurd h118 (by omega)
          · have _q := h118
            refine jx_ar (pc_q := 51) (st_q := [.int (i32 (1)), .int (i32 (0)), .ref 66]) rfl rfl rfl rfl ?_
            refine jx_go (tg := 55) rfl rfl ?_
            refine jx_ar (pc_q := 56) (st_q := [.int (i32 (0)), .int (i32 (1)), .int (i32 (0)), .ref 66]) rfl rfl rfl rfl ?_
            refine jx_vr (pc_q := 59) (as := [.int (i32 (0)), .int (i32 (1)), .int (i32 (0))]) (st := []) rfl rfl rfl rfl ⟨rfl, rfl, Nat.le_of_ble_eq_true rfl⟩ rfl rfl (c_refuse (dd := d) (hd := by omega) (hW := hW) (a := 0) (b := 1) (c := 0)   (h_a := ⟨(by decide), (by decide)⟩) (h_b := ⟨(by decide), (by decide)⟩) (h_c := ⟨(by decide), (by decide)⟩)  ) (fun o V_q hq => ?_)
            obtain ⟨G119, A120, r121, th2_122, rfl, rfl, hW123, hF124, b125, e126, q127⟩ := hq
            have hF128 := Fr_tr hF0 hF124 (Fr_sub (by decide)) (Fr_sub (by decide))
            have bth2_122 : (0 : Int) ≤ th2_122 ∧ th2_122 ≤ 4 := e126 ▸ hW123.1 0
            refine .inr ⟨_, rfl, ?_⟩
            rcases q127 with ⟨rfl, a129, a130⟩ | ⟨rfl, a131, a132, a133⟩ | ⟨rfl, a134, a135, a136, a137⟩ | ⟨rfl, a138, a139, a140, a141⟩
            · have _q : True := trivial
              exfalso
              omega
            · have _q : True := trivial
              refine jx_if_eq (pc_q := 62) (tg := 64) rfl rfl rfl (by decide) (by decide) (fun h142 => ?_) (fun h142 => ?_)
              · have _q := h142
                exact absurd h142 (by omega)
              · have _q := h142
                refine jx_ar (pc_q := 63) (st_q := [.int (i32 (0))]) rfl rfl rfl rfl ?_
                refine jx_rt (v := some (.int (i32 (0)))) rfl rfl rfl rfl rfl rfl ?_
                exact ⟨_, _, _, rfl, rfl, hW123, hF128, by omega, trivial⟩
            · have _q : True := trivial
              exfalso
              omega
            · have _q : True := trivial
              exfalso
              omega
  · have _q := h1
    refine jx_ar (pc_q := 9) (st_q := [.int (i32 (1)), .ref 66]) rfl rfl rfl rfl ?_
    refine jx_go (tg := 13) rfl rfl ?_
    refine jx_ld (pc_q := 14) (l_q := [(0, .ref 66), (1, .int (i32 (i)))]) (st_q := [.ref 66, .int (i32 (1)), .ref 66]) rfl (jl_aloadn rfl) ?_
    refine jr_get (pc_q := 17) (i := 58) (v := .int (i32 (pg))) rfl rfl (by decide) (rFv_eq (by decide) (show G 58 = pg from (e_pg))) rfl ?_
    refine jx_if_eq (pc_q := 20) (tg := 54) rfl rfl rfl (Int.le_trans (by decide : (-2147483648 : Int) ≤ 0) b_pg.1) (Int.le_trans b_pg.2 (by decide : (1 : Int) ≤ 2147483647)) (fun h143 => ?_) (fun h143 => ?_)
    · have _q := h143
      refine jx_ar (pc_q := 55) (st_q := [.int (i32 (0)), .int (i32 (1)), .ref 66]) rfl rfl rfl rfl ?_
      refine jx_ar (pc_q := 56) (st_q := [.int (i32 (0)), .int (i32 (0)), .int (i32 (1)), .ref 66]) rfl rfl rfl rfl ?_
      refine jx_vr (pc_q := 59) (as := [.int (i32 (1)), .int (i32 (0)), .int (i32 (0))]) (st := []) rfl rfl rfl rfl ⟨rfl, rfl, Nat.le_of_ble_eq_true rfl⟩ rfl rfl (c_refuse (dd := d) (hd := by omega) (hW := hW) (a := 1) (b := 0) (c := 0)   (h_a := ⟨(by decide), (by decide)⟩) (h_b := ⟨(by decide), (by decide)⟩) (h_c := ⟨(by decide), (by decide)⟩)  ) (fun o V_q hq => ?_)
      obtain ⟨G144, A145, r146, th2_147, rfl, rfl, hW148, hF149, b150, e151, q152⟩ := hq
      have hF153 := Fr_tr hF0 hF149 (Fr_sub (by decide)) (Fr_sub (by decide))
      have bth2_147 : (0 : Int) ≤ th2_147 ∧ th2_147 ≤ 4 := e151 ▸ hW148.1 0
      refine .inr ⟨_, rfl, ?_⟩
      rcases q152 with ⟨rfl, a154, a155⟩ | ⟨rfl, a156, a157, a158⟩ | ⟨rfl, a159, a160, a161, a162⟩ | ⟨rfl, a163, a164, a165, a166⟩
      · have _q : True := trivial
        refine jx_if_eq (pc_q := 62) (tg := 64) rfl rfl rfl (by decide) (by decide) (fun h167 => ?_) (fun h167 => ?_)
        · have _q := h167
          exact absurd h167 (by omega)
        · have _q := h167
          refine jx_ar (pc_q := 63) (st_q := [.int (i32 (0))]) rfl rfl rfl rfl ?_
          refine jx_rt (v := some (.int (i32 (0)))) rfl rfl rfl rfl rfl rfl ?_
          exact ⟨_, _, _, rfl, rfl, hW148, hF153, by omega, trivial⟩
      · have _q : True := trivial
        exfalso
        omega
      · have _q : True := trivial
        exfalso
        omega
      · have _q : True := trivial
        exfalso
        omega
    · have _q := h143
      refine jx_ld (pc_q := 21) (l_q := [(0, .ref 66), (1, .int (i32 (i)))]) (st_q := [.int (i32 (i)), .int (i32 (1)), .ref 66]) rfl (jl_iloadn rfl) ?_
      refine jx_ar (pc_q := 22) (st_q := [.int (i32 (0)), .int (i32 (i)), .int (i32 (1)), .ref 66]) rfl rfl rfl rfl ?_
      refine jx_ld (pc_q := 23) (l_q := [(0, .ref 66), (1, .int (i32 (i)))]) (st_q := [.ref 66, .int (i32 (0)), .int (i32 (i)), .int (i32 (1)), .ref 66]) rfl (jl_aloadn rfl) ?_
      refine jr_get (pc_q := 26) (i := 113) (v := .int (i32 (om))) rfl rfl (by decide) (rFv_eq (by decide) (show G 113 = om from (e_om))) rfl ?_
      refine jx_ar (pc_q := 29) (st_q := [.int (i32 (1000)), .int (i32 (om)), .int (i32 (0)), .int (i32 (i)), .int (i32 (1)), .ref 66]) rfl rfl rfl rfl ?_
      refine jx_icmp_ge (pc_q := 32) (tg := 39) rfl rfl rfl (Int.le_trans (by decide : (-2147483648 : Int) ≤ -2147483648) b_om.1) (Int.le_trans b_om.2 (by decide : (2147483647 : Int) ≤ 2147483647)) (by decide) (by decide) (fun h168 => ?_) (fun h168 => ?_)
      · have _q := h168
        refine jx_ar (pc_q := 42) (st_q := [.int (i32 (1000)), .int (i32 (0)), .int (i32 (i)), .int (i32 (1)), .ref 66]) rfl rfl rfl rfl ?_
        refine jx_ar (pc_q := 43) (st_q := [.int (i32 (1)), .int (i32 (1000)), .int (i32 (0)), .int (i32 (i)), .int (i32 (1)), .ref 66]) rfl rfl rfl rfl ?_
        refine jx_sub (pc_q := 44) rfl rfl ?_
        refine jx_st (pc_q := 47) (as := [.int (i32 (i)), .int (i32 (0)), .int (i32 ((1000 - 1)))]) (st := [.int (i32 (1)), .ref 66]) rfl rfl ⟨rfl, Nat.le_of_ble_eq_true rfl⟩ rfl rfl rfl (c_in (dd := d) (hd := by omega) (v := i) (a := 0) (b := (1000 - 1))   (h_v := ⟨(Int.le_trans (by decide : (-2147483648 : Int) ≤ -2147483648) h_i.1), (Int.le_trans h_i.2 (by decide : (2147483647 : Int) ≤ 2147483647))⟩) (h_a := ⟨(by decide), (by decide)⟩) (h_b := ⟨(by omega), (by omega)⟩)  ) (fun o V_q hq => ?_)
        obtain ⟨r169, rfl, rfl, b170, q171⟩ := hq
        refine .inr ⟨_, rfl, ?_⟩
        rcases q171 with ⟨rfl, a172, a173⟩ | ⟨rfl, a174⟩
        · have _q : True := trivial
          refine jx_if_ne (pc_q := 50) (tg := 54) rfl rfl rfl (by decide) (by decide) (fun h175 => ?_) (fun h175 => ?_)
          · have _q := h175
            refine jx_ar (pc_q := 55) (st_q := [.int (i32 (0)), .int (i32 (1)), .ref 66]) rfl rfl rfl rfl ?_
            refine jx_ar (pc_q := 56) (st_q := [.int (i32 (0)), .int (i32 (0)), .int (i32 (1)), .ref 66]) rfl rfl rfl rfl ?_
            refine jx_vr (pc_q := 59) (as := [.int (i32 (1)), .int (i32 (0)), .int (i32 (0))]) (st := []) rfl rfl rfl rfl ⟨rfl, rfl, Nat.le_of_ble_eq_true rfl⟩ rfl rfl (c_refuse (dd := d) (hd := by omega) (hW := hW) (a := 1) (b := 0) (c := 0)   (h_a := ⟨(by decide), (by decide)⟩) (h_b := ⟨(by decide), (by decide)⟩) (h_c := ⟨(by decide), (by decide)⟩)  ) (fun o V_q hq => ?_)
            obtain ⟨G176, A177, r178, th2_179, rfl, rfl, hW180, hF181, b182, e183, q184⟩ := hq
            have hF185 := Fr_tr hF0 hF181 (Fr_sub (by decide)) (Fr_sub (by decide))
            have bth2_179 : (0 : Int) ≤ th2_179 ∧ th2_179 ≤ 4 := e183 ▸ hW180.1 0
            refine .inr ⟨_, rfl, ?_⟩
            rcases q184 with ⟨rfl, a186, a187⟩ | ⟨rfl, a188, a189, a190⟩ | ⟨rfl, a191, a192, a193, a194⟩ | ⟨rfl, a195, a196, a197, a198⟩
            · have _q : True := trivial
              refine jx_if_eq (pc_q := 62) (tg := 64) rfl rfl rfl (by decide) (by decide) (fun h199 => ?_) (fun h199 => ?_)
              · have _q := h199
                exact absurd h199 (by omega)
              · have _q := h199
                refine jx_ar (pc_q := 63) (st_q := [.int (i32 (0))]) rfl rfl rfl rfl ?_
                refine jx_rt (v := some (.int (i32 (0)))) rfl rfl rfl rfl rfl rfl ?_
                exact ⟨_, _, _, rfl, rfl, hW180, hF185, by omega, trivial⟩
            · have _q : True := trivial
              exfalso
              omega
            · have _q : True := trivial
              exfalso
              omega
            · have _q : True := trivial
              exfalso
              omega
          · have _q := h175
            exact absurd h175 (by omega)
        · have _q : True := trivial
          refine jx_if_ne (pc_q := 50) (tg := 54) rfl rfl rfl (by decide) (by decide) (fun h200 => ?_) (fun h200 => ?_)
          · have _q := h200
            exact absurd h200 (by omega)
          · have _q := h200
            refine jx_ar (pc_q := 51) (st_q := [.int (i32 (1)), .int (i32 (1)), .ref 66]) rfl rfl rfl rfl ?_
            refine jx_go (tg := 55) rfl rfl ?_
            refine jx_ar (pc_q := 56) (st_q := [.int (i32 (0)), .int (i32 (1)), .int (i32 (1)), .ref 66]) rfl rfl rfl rfl ?_
            refine jx_vr (pc_q := 59) (as := [.int (i32 (1)), .int (i32 (1)), .int (i32 (0))]) (st := []) rfl rfl rfl rfl ⟨rfl, rfl, Nat.le_of_ble_eq_true rfl⟩ rfl rfl (c_refuse (dd := d) (hd := by omega) (hW := hW) (a := 1) (b := 1) (c := 0)   (h_a := ⟨(by decide), (by decide)⟩) (h_b := ⟨(by decide), (by decide)⟩) (h_c := ⟨(by decide), (by decide)⟩)  ) (fun o V_q hq => ?_)
            obtain ⟨G201, A202, r203, th2_204, rfl, rfl, hW205, hF206, b207, e208, q209⟩ := hq
            have hF210 := Fr_tr hF0 hF206 (Fr_sub (by decide)) (Fr_sub (by decide))
            have bth2_204 : (0 : Int) ≤ th2_204 ∧ th2_204 ≤ 4 := e208 ▸ hW205.1 0
            refine .inr ⟨_, rfl, ?_⟩
            rcases q209 with ⟨rfl, a211, a212⟩ | ⟨rfl, a213, a214, a215⟩ | ⟨rfl, a216, a217, a218, a219⟩ | ⟨rfl, a220, a221, a222, a223⟩
            · have _q : True := trivial
              refine jx_if_eq (pc_q := 62) (tg := 64) rfl rfl rfl (by decide) (by decide) (fun h224 => ?_) (fun h224 => ?_)
              · have _q := h224
                exact absurd h224 (by omega)
              · have _q := h224
                refine jx_ar (pc_q := 63) (st_q := [.int (i32 (0))]) rfl rfl rfl rfl ?_
                refine jx_rt (v := some (.int (i32 (0)))) rfl rfl rfl rfl rfl rfl ?_
                exact ⟨_, _, _, rfl, rfl, hW205, hF210, by omega, trivial⟩
            · have _q : True := trivial
              exfalso
              omega
            · have _q : True := trivial
              exfalso
              omega
            · have _q : True := trivial
              exfalso
              omega
      · have _q := h168
        refine jx_ld (pc_q := 33) (l_q := [(0, .ref 66), (1, .int (i32 (i)))]) (st_q := [.ref 66, .int (i32 (0)), .int (i32 (i)), .int (i32 (1)), .ref 66]) rfl (jl_aloadn rfl) ?_
        refine jr_get (pc_q := 36) (i := 113) (v := .int (i32 (om))) rfl rfl (by decide) (rFv_eq (by decide) (show G 113 = om from (e_om))) rfl ?_
        refine jx_go (tg := 42) rfl rfl ?_
        refine jx_ar (pc_q := 43) (st_q := [.int (i32 (1)), .int (i32 (om)), .int (i32 (0)), .int (i32 (i)), .int (i32 (1)), .ref 66]) rfl rfl rfl rfl ?_
        refine jx_sub (pc_q := 44) rfl rfl ?_
        refine jx_st (pc_q := 47) (as := [.int (i32 (i)), .int (i32 (0)), .int (i32 ((om - 1)))]) (st := [.int (i32 (1)), .ref 66]) rfl rfl ⟨rfl, Nat.le_of_ble_eq_true rfl⟩ rfl rfl rfl (c_in (dd := d) (hd := by omega) (v := i) (a := 0) (b := (om - 1))   (h_v := ⟨(Int.le_trans (by decide : (-2147483648 : Int) ≤ -2147483648) h_i.1), (Int.le_trans h_i.2 (by decide : (2147483647 : Int) ≤ 2147483647))⟩) (h_a := ⟨(by decide), (by decide)⟩) (h_b := ⟨(by omega), (by omega)⟩)  ) (fun o V_q hq => ?_)
        obtain ⟨r225, rfl, rfl, b226, q227⟩ := hq
        refine .inr ⟨_, rfl, ?_⟩
        rcases q227 with ⟨rfl, a228, a229⟩ | ⟨rfl, a230⟩
        · have _q : True := trivial
          refine jx_if_ne (pc_q := 50) (tg := 54) rfl rfl rfl (by decide) (by decide) (fun h231 => ?_) (fun h231 => ?_)
          · have _q := h231
            refine jx_ar (pc_q := 55) (st_q := [.int (i32 (0)), .int (i32 (1)), .ref 66]) rfl rfl rfl rfl ?_
            refine jx_ar (pc_q := 56) (st_q := [.int (i32 (0)), .int (i32 (0)), .int (i32 (1)), .ref 66]) rfl rfl rfl rfl ?_
            refine jx_vr (pc_q := 59) (as := [.int (i32 (1)), .int (i32 (0)), .int (i32 (0))]) (st := []) rfl rfl rfl rfl ⟨rfl, rfl, Nat.le_of_ble_eq_true rfl⟩ rfl rfl (c_refuse (dd := d) (hd := by omega) (hW := hW) (a := 1) (b := 0) (c := 0)   (h_a := ⟨(by decide), (by decide)⟩) (h_b := ⟨(by decide), (by decide)⟩) (h_c := ⟨(by decide), (by decide)⟩)  ) (fun o V_q hq => ?_)
            obtain ⟨G232, A233, r234, th2_235, rfl, rfl, hW236, hF237, b238, e239, q240⟩ := hq
            have hF241 := Fr_tr hF0 hF237 (Fr_sub (by decide)) (Fr_sub (by decide))
            have bth2_235 : (0 : Int) ≤ th2_235 ∧ th2_235 ≤ 4 := e239 ▸ hW236.1 0
            refine .inr ⟨_, rfl, ?_⟩
            rcases q240 with ⟨rfl, a242, a243⟩ | ⟨rfl, a244, a245, a246⟩ | ⟨rfl, a247, a248, a249, a250⟩ | ⟨rfl, a251, a252, a253, a254⟩
            · have _q : True := trivial
              refine jx_if_eq (pc_q := 62) (tg := 64) rfl rfl rfl (by decide) (by decide) (fun h255 => ?_) (fun h255 => ?_)
              · have _q := h255
                exact absurd h255 (by omega)
              · have _q := h255
                refine jx_ar (pc_q := 63) (st_q := [.int (i32 (0))]) rfl rfl rfl rfl ?_
                refine jx_rt (v := some (.int (i32 (0)))) rfl rfl rfl rfl rfl rfl ?_
                exact ⟨_, _, _, rfl, rfl, hW236, hF241, by omega, trivial⟩
            · have _q : True := trivial
              exfalso
              omega
            · have _q : True := trivial
              exfalso
              omega
            · have _q : True := trivial
              exfalso
              omega
          · have _q := h231
            exact absurd h231 (by omega)
        · have _q : True := trivial
          refine jx_if_ne (pc_q := 50) (tg := 54) rfl rfl rfl (by decide) (by decide) (fun h256 => ?_) (fun h256 => ?_)
          · have _q := h256
            exact absurd h256 (by omega)
          · have _q := h256
            refine jx_ar (pc_q := 51) (st_q := [.int (i32 (1)), .int (i32 (1)), .ref 66]) rfl rfl rfl rfl ?_
            refine jx_go (tg := 55) rfl rfl ?_
            refine jx_ar (pc_q := 56) (st_q := [.int (i32 (0)), .int (i32 (1)), .int (i32 (1)), .ref 66]) rfl rfl rfl rfl ?_
            refine jx_vr (pc_q := 59) (as := [.int (i32 (1)), .int (i32 (1)), .int (i32 (0))]) (st := []) rfl rfl rfl rfl ⟨rfl, rfl, Nat.le_of_ble_eq_true rfl⟩ rfl rfl (c_refuse (dd := d) (hd := by omega) (hW := hW) (a := 1) (b := 1) (c := 0)   (h_a := ⟨(by decide), (by decide)⟩) (h_b := ⟨(by decide), (by decide)⟩) (h_c := ⟨(by decide), (by decide)⟩)  ) (fun o V_q hq => ?_)
            obtain ⟨G257, A258, r259, th2_260, rfl, rfl, hW261, hF262, b263, e264, q265⟩ := hq
            have hF266 := Fr_tr hF0 hF262 (Fr_sub (by decide)) (Fr_sub (by decide))
            have bth2_260 : (0 : Int) ≤ th2_260 ∧ th2_260 ≤ 4 := e264 ▸ hW261.1 0
            refine .inr ⟨_, rfl, ?_⟩
            rcases q265 with ⟨rfl, a267, a268⟩ | ⟨rfl, a269, a270, a271⟩ | ⟨rfl, a272, a273, a274, a275⟩ | ⟨rfl, a276, a277, a278, a279⟩
            · have _q : True := trivial
              refine jx_if_eq (pc_q := 62) (tg := 64) rfl rfl rfl (by decide) (by decide) (fun h280 => ?_) (fun h280 => ?_)
              · have _q := h280
                exact absurd h280 (by omega)
              · have _q := h280
                refine jx_ar (pc_q := 63) (st_q := [.int (i32 (0))]) rfl rfl rfl rfl ?_
                refine jx_rt (v := some (.int (i32 (0)))) rfl rfl rfl rfl rfl rfl ?_
                exact ⟨_, _, _, rfl, rfl, hW261, hF266, by omega, trivial⟩
            · have _q : True := trivial
              exfalso
              omega
            · have _q : True := trivial
              exfalso
              omega
            · have _q : True := trivial
              exfalso
              omega
set_option maxRecDepth 20000 in
set_option maxHeartbeats 4000000 in
theorem c_about {X : jX} {dd : Nat} {c0 c1 : jC} {G : Nat → Int} {A : Nat → Nat → Int} {T : jH} {w : Int} {pg : Int} (hd : 2 ≤ dd) (hW : Wk G A) (e_pg : G 58 = pg) (h_w : (-2147483648 : Int) ≤ w ∧ w ≤ 2147483647) : wk X dd 412 [.ref 66, .int (i32 w)] (rV c0 c1 G A T) (fun o V_q => ∃ (G_q : Nat → Int) (A_q : Nat → Nat → Int) (r : Int), V_q = rV c0 c1 G_q A_q T ∧ o = .inl (some (.int (i32 r))) ∧ Wk G_q A_q ∧ Fr [0] [] G A G_q A_q ∧ ((-2147483648 : Int) ≤ r ∧ r ≤ 2147483647) ∧ True) := by
  obtain ⟨d, rfl⟩ : ∃ d, dd = d + 1 := ⟨dd - 1, by omega⟩
  refine wk_of (e := jm412) rfl (Nat.le_of_ble_eq_true rfl) ?_
  show wj X d jm412 (0, [(0, .ref 66), (1, .int (i32 (w)))], [], rV c0 c1 G A T) _
  have hF0 : Fr [0] [] G A G A := Fr_rf
  have b_pg : (0 : Int) ≤ pg ∧ pg ≤ 1 := e_pg ▸ hW.1 58
  refine jx_ld (pc_q := 1) (l_q := [(0, .ref 66), (1, .int (i32 (w)))]) (st_q := [.ref 66]) rfl (jl_aloadn rfl) ?_
  refine jx_ld (pc_q := 2) (l_q := [(0, .ref 66), (1, .int (i32 (w)))]) (st_q := [.ref 66, .ref 66]) rfl (jl_aloadn rfl) ?_
  refine jr_get (pc_q := 5) (i := 58) (v := .int (i32 (pg))) rfl rfl (by decide) (rFv_eq (by decide) (show G 58 = pg from (e_pg))) rfl ?_
  refine jx_if_ne (pc_q := 8) (tg := 12) rfl rfl rfl (Int.le_trans (by decide : (-2147483648 : Int) ≤ 0) b_pg.1) (Int.le_trans b_pg.2 (by decide : (1 : Int) ≤ 2147483647)) (fun h1 => ?_) (fun h1 => ?_)
  · have _q := h1
    refine jx_ar (pc_q := 13) (st_q := [.int (i32 (0)), .ref 66]) rfl rfl rfl rfl ?_
    refine jx_ld (pc_q := 14) (l_q := [(0, .ref 66), (1, .int (i32 (w)))]) (st_q := [.ref 66, .int (i32 (0)), .ref 66]) rfl (jl_aloadn rfl) ?_
    refine jr_get (pc_q := 17) (i := 58) (v := .int (i32 (pg))) rfl rfl (by decide) (rFv_eq (by decide) (show G 58 = pg from (e_pg))) rfl ?_
    refine jx_if_eq (pc_q := 20) (tg := 34) rfl rfl rfl (Int.le_trans (by decide : (-2147483648 : Int) ≤ 0) b_pg.1) (Int.le_trans b_pg.2 (by decide : (1 : Int) ≤ 2147483647)) (fun h2 => ?_) (fun h2 => ?_)
    · have _q := h2
      refine jx_ar (pc_q := 35) (st_q := [.int (i32 (0)), .int (i32 (0)), .ref 66]) rfl rfl rfl rfl ?_
      refine jx_ar (pc_q := 36) (st_q := [.int (i32 (0)), .int (i32 (0)), .int (i32 (0)), .ref 66]) rfl rfl rfl rfl ?_
      refine jx_vr (pc_q := 39) (as := [.int (i32 (0)), .int (i32 (0)), .int (i32 (0))]) (st := []) rfl rfl rfl rfl ⟨rfl, rfl, Nat.le_of_ble_eq_true rfl⟩ rfl rfl (c_refuse (dd := d) (hd := by omega) (hW := hW) (a := 0) (b := 0) (c := 0)   (h_a := ⟨(by decide), (by decide)⟩) (h_b := ⟨(by decide), (by decide)⟩) (h_c := ⟨(by decide), (by decide)⟩)  ) (fun o V_q hq => ?_)
      obtain ⟨G3, A4, r5, th2_6, rfl, rfl, hW7, hF8, b9, e10, q11⟩ := hq
      have hF12 := Fr_tr hF0 hF8 (Fr_sub (by decide)) (Fr_sub (by decide))
      have bth2_6 : (0 : Int) ≤ th2_6 ∧ th2_6 ≤ 4 := e10 ▸ hW7.1 0
      refine .inr ⟨_, rfl, ?_⟩
      rcases q11 with ⟨rfl, a13, a14⟩ | ⟨rfl, a15, a16, a17⟩ | ⟨rfl, a18, a19, a20, a21⟩ | ⟨rfl, a22, a23, a24, a25⟩
      · have _q : True := trivial
        exfalso
        omega
      · have _q : True := trivial
        exfalso
        omega
      · have _q : True := trivial
        exfalso
        omega
      · have _q : True := trivial
        refine jx_if_eq (pc_q := 42) (tg := 44) rfl rfl rfl (by decide) (by decide) (fun h26 => ?_) (fun h26 => ?_)
        · have _q := h26
          refine jx_ld (pc_q := 45) (l_q := [(0, .ref 66), (1, .int (i32 (w)))]) (st_q := [.int (i32 (w))]) rfl (jl_iloadn rfl) ?_
          rcases (by omega : w = 0 ∨ w = 1 ∨ w = 2 ∨ w = 3 ∨ w = 4 ∨ w = 5 ∨ (w < 0 ∨ 5 < w)) with h27 | h27 | h27 | h27 | h27 | h27 | h27
          · refine jx_swe (z := 0) (tg := 84) h27 rfl rfl rfl rfl ?_
            refine jx_ld (pc_q := 85) (l_q := [(0, .ref 66), (1, .int (i32 (w)))]) (st_q := [.ref 66]) rfl (jl_aloadn rfl) ?_
            have b28 : (0 : Int) ≤ G 52 ∧ G 52 ≤ 12 := hW.1 52
            refine jr_get (pc_q := 88) (i := 52) (v := .int (i32 (G 52))) rfl rfl (by decide) (rFv_eq (by decide) (show G3 52 = G 52 from (hF8.1 52 rfl))) rfl ?_
            refine jx_rt (v := some (.int (i32 (G 52)))) rfl rfl rfl rfl rfl rfl ?_
            exact ⟨_, _, _, rfl, rfl, hW7, hF12, by omega, trivial⟩
          · refine jx_swe (z := 1) (tg := 89) h27 rfl rfl rfl rfl ?_
            refine jx_ld (pc_q := 90) (l_q := [(0, .ref 66), (1, .int (i32 (w)))]) (st_q := [.ref 66]) rfl (jl_aloadn rfl) ?_
            have b29 : (-2147483648 : Int) ≤ G 111 ∧ G 111 ≤ 2147483647 := hW.1 111
            refine jr_get (pc_q := 93) (i := 111) (v := .int (i32 (G 111))) rfl rfl (by decide) (rFv_eq (by decide) (show G3 111 = G 111 from (hF8.1 111 rfl))) rfl ?_
            refine jx_rt (v := some (.int (i32 (G 111)))) rfl rfl rfl rfl rfl rfl ?_
            exact ⟨_, _, _, rfl, rfl, hW7, hF12, by omega, trivial⟩
          · refine jx_swe (z := 2) (tg := 94) h27 rfl rfl rfl rfl ?_
            refine jx_ld (pc_q := 95) (l_q := [(0, .ref 66), (1, .int (i32 (w)))]) (st_q := [.ref 66]) rfl (jl_aloadn rfl) ?_
            have b30 : (-2147483648 : Int) ≤ G 113 ∧ G 113 ≤ 2147483647 := hW.1 113
            refine jr_get (pc_q := 98) (i := 113) (v := .int (i32 (G 113))) rfl rfl (by decide) (rFv_eq (by decide) (show G3 113 = G 113 from (hF8.1 113 rfl))) rfl ?_
            refine jx_rt (v := some (.int (i32 (G 113)))) rfl rfl rfl rfl rfl rfl ?_
            exact ⟨_, _, _, rfl, rfl, hW7, hF12, by omega, trivial⟩
          · refine jx_swe (z := 3) (tg := 99) h27 rfl rfl rfl rfl ?_
            refine jx_ld (pc_q := 100) (l_q := [(0, .ref 66), (1, .int (i32 (w)))]) (st_q := [.ref 66]) rfl (jl_aloadn rfl) ?_
            have b31 : (0 : Int) ≤ G 28 ∧ G 28 ≤ 200 := hW.1 28
            refine jr_get (pc_q := 103) (i := 28) (v := .int (i32 (G 28))) rfl rfl (by decide) (rFv_eq (by decide) (show G3 28 = G 28 from (hF8.1 28 rfl))) rfl ?_
            refine jx_rt (v := some (.int (i32 (G 28)))) rfl rfl rfl rfl rfl rfl ?_
            exact ⟨_, _, _, rfl, rfl, hW7, hF12, by omega, trivial⟩
          · refine jx_swe (z := 4) (tg := 104) h27 rfl rfl rfl rfl ?_
            refine jx_ld (pc_q := 105) (l_q := [(0, .ref 66), (1, .int (i32 (w)))]) (st_q := [.ref 66]) rfl (jl_aloadn rfl) ?_
            have b32 : (0 : Int) ≤ G 46 ∧ G 46 ≤ 24 := hW.1 46
            refine jr_get (pc_q := 108) (i := 46) (v := .int (i32 (G 46))) rfl rfl (by decide) (rFv_eq (by decide) (show G3 46 = G 46 from (hF8.1 46 rfl))) rfl ?_
            refine jx_rt (v := some (.int (i32 (G 46)))) rfl rfl rfl rfl rfl rfl ?_
            exact ⟨_, _, _, rfl, rfl, hW7, hF12, by omega, trivial⟩
          · refine jx_swe (z := 5) (tg := 109) h27 rfl rfl rfl rfl ?_
            refine jx_ld (pc_q := 110) (l_q := [(0, .ref 66), (1, .int (i32 (w)))]) (st_q := [.ref 66]) rfl (jl_aloadn rfl) ?_
            have b33 : (-2147483648 : Int) ≤ G 120 ∧ G 120 ≤ 2147483647 := hW.1 120
            refine jr_get (pc_q := 113) (i := 120) (v := .int (i32 (G 120))) rfl rfl (by decide) (rFv_eq (by decide) (show G3 120 = G 120 from (hF8.1 120 rfl))) rfl ?_
            refine jx_rt (v := some (.int (i32 (G 120)))) rfl rfl rfl rfl rfl rfl ?_
            exact ⟨_, _, _, rfl, rfl, hW7, hF12, by omega, trivial⟩
          · refine jx_swt (tg := 114) (by omega) (by omega) rfl h27 rfl ?_
            refine jx_ld (pc_q := 115) (l_q := [(0, .ref 66), (1, .int (i32 (w)))]) (st_q := [.ref 66]) rfl (jl_aloadn rfl) ?_
            have b34 : (-2147483648 : Int) ≤ G 121 ∧ G 121 ≤ 2147483647 := hW.1 121
            refine jr_get (pc_q := 118) (i := 121) (v := .int (i32 (G 121))) rfl rfl (by decide) (rFv_eq (by decide) (show G3 121 = G 121 from (hF8.1 121 rfl))) rfl ?_
            refine jx_rt (v := some (.int (i32 (G 121)))) rfl rfl rfl rfl rfl rfl ?_
            exact ⟨_, _, _, rfl, rfl, hW7, hF12, by omega, trivial⟩
        · have _q := h26
          exact absurd h26 (by omega)
    · have _q := h2
      refine jx_ld (pc_q := 21) (l_q := [(0, .ref 66), (1, .int (i32 (w)))]) (st_q := [.int (i32 (w)), .int (i32 (0)), .ref 66]) rfl (jl_iloadn rfl) ?_
      refine jx_ar (pc_q := 22) (st_q := [.int (i32 (0)), .int (i32 (w)), .int (i32 (0)), .ref 66]) rfl rfl rfl rfl ?_
      refine jx_ar (pc_q := 24) (st_q := [.int (i32 (6)), .int (i32 (0)), .int (i32 (w)), .int (i32 (0)), .ref 66]) rfl rfl rfl rfl ?_
      refine jx_st (pc_q := 27) (as := [.int (i32 (w)), .int (i32 (0)), .int (i32 (6))]) (st := [.int (i32 (0)), .ref 66]) rfl rfl ⟨rfl, Nat.le_of_ble_eq_true rfl⟩ rfl rfl rfl (c_in (dd := d) (hd := by omega) (v := w) (a := 0) (b := 6)   (h_v := ⟨(Int.le_trans (by decide : (-2147483648 : Int) ≤ -2147483648) h_w.1), (Int.le_trans h_w.2 (by decide : (2147483647 : Int) ≤ 2147483647))⟩) (h_a := ⟨(by decide), (by decide)⟩) (h_b := ⟨(by decide), (by decide)⟩)  ) (fun o V_q hq => ?_)
      obtain ⟨r35, rfl, rfl, b36, q37⟩ := hq
      refine .inr ⟨_, rfl, ?_⟩
      rcases q37 with ⟨rfl, a38, a39⟩ | ⟨rfl, a40⟩
      · have _q : True := trivial
        refine jx_if_ne (pc_q := 30) (tg := 34) rfl rfl rfl (by decide) (by decide) (fun h41 => ?_) (fun h41 => ?_)
        · have _q := h41
          refine jx_ar (pc_q := 35) (st_q := [.int (i32 (0)), .int (i32 (0)), .ref 66]) rfl rfl rfl rfl ?_
          refine jx_ar (pc_q := 36) (st_q := [.int (i32 (0)), .int (i32 (0)), .int (i32 (0)), .ref 66]) rfl rfl rfl rfl ?_
          refine jx_vr (pc_q := 39) (as := [.int (i32 (0)), .int (i32 (0)), .int (i32 (0))]) (st := []) rfl rfl rfl rfl ⟨rfl, rfl, Nat.le_of_ble_eq_true rfl⟩ rfl rfl (c_refuse (dd := d) (hd := by omega) (hW := hW) (a := 0) (b := 0) (c := 0)   (h_a := ⟨(by decide), (by decide)⟩) (h_b := ⟨(by decide), (by decide)⟩) (h_c := ⟨(by decide), (by decide)⟩)  ) (fun o V_q hq => ?_)
          obtain ⟨G42, A43, r44, th2_45, rfl, rfl, hW46, hF47, b48, e49, q50⟩ := hq
          have hF51 := Fr_tr hF0 hF47 (Fr_sub (by decide)) (Fr_sub (by decide))
          have bth2_45 : (0 : Int) ≤ th2_45 ∧ th2_45 ≤ 4 := e49 ▸ hW46.1 0
          refine .inr ⟨_, rfl, ?_⟩
          rcases q50 with ⟨rfl, a52, a53⟩ | ⟨rfl, a54, a55, a56⟩ | ⟨rfl, a57, a58, a59, a60⟩ | ⟨rfl, a61, a62, a63, a64⟩
          · have _q : True := trivial
            exfalso
            omega
          · have _q : True := trivial
            exfalso
            omega
          · have _q : True := trivial
            exfalso
            omega
          · have _q : True := trivial
            refine jx_if_eq (pc_q := 42) (tg := 44) rfl rfl rfl (by decide) (by decide) (fun h65 => ?_) (fun h65 => ?_)
            · have _q := h65
              refine jx_ld (pc_q := 45) (l_q := [(0, .ref 66), (1, .int (i32 (w)))]) (st_q := [.int (i32 (w))]) rfl (jl_iloadn rfl) ?_
              rcases (by omega : w = 0 ∨ w = 1 ∨ w = 2 ∨ w = 3 ∨ w = 4 ∨ w = 5 ∨ (w < 0 ∨ 5 < w)) with h66 | h66 | h66 | h66 | h66 | h66 | h66
              · refine jx_swe (z := 0) (tg := 84) h66 rfl rfl rfl rfl ?_
                refine jx_ld (pc_q := 85) (l_q := [(0, .ref 66), (1, .int (i32 (w)))]) (st_q := [.ref 66]) rfl (jl_aloadn rfl) ?_
                have b67 : (0 : Int) ≤ G 52 ∧ G 52 ≤ 12 := hW.1 52
                refine jr_get (pc_q := 88) (i := 52) (v := .int (i32 (G 52))) rfl rfl (by decide) (rFv_eq (by decide) (show G42 52 = G 52 from (hF47.1 52 rfl))) rfl ?_
                refine jx_rt (v := some (.int (i32 (G 52)))) rfl rfl rfl rfl rfl rfl ?_
                exact ⟨_, _, _, rfl, rfl, hW46, hF51, by omega, trivial⟩
              · refine jx_swe (z := 1) (tg := 89) h66 rfl rfl rfl rfl ?_
                refine jx_ld (pc_q := 90) (l_q := [(0, .ref 66), (1, .int (i32 (w)))]) (st_q := [.ref 66]) rfl (jl_aloadn rfl) ?_
                have b68 : (-2147483648 : Int) ≤ G 111 ∧ G 111 ≤ 2147483647 := hW.1 111
                refine jr_get (pc_q := 93) (i := 111) (v := .int (i32 (G 111))) rfl rfl (by decide) (rFv_eq (by decide) (show G42 111 = G 111 from (hF47.1 111 rfl))) rfl ?_
                refine jx_rt (v := some (.int (i32 (G 111)))) rfl rfl rfl rfl rfl rfl ?_
                exact ⟨_, _, _, rfl, rfl, hW46, hF51, by omega, trivial⟩
              · refine jx_swe (z := 2) (tg := 94) h66 rfl rfl rfl rfl ?_
                refine jx_ld (pc_q := 95) (l_q := [(0, .ref 66), (1, .int (i32 (w)))]) (st_q := [.ref 66]) rfl (jl_aloadn rfl) ?_
                have b69 : (-2147483648 : Int) ≤ G 113 ∧ G 113 ≤ 2147483647 := hW.1 113
                refine jr_get (pc_q := 98) (i := 113) (v := .int (i32 (G 113))) rfl rfl (by decide) (rFv_eq (by decide) (show G42 113 = G 113 from (hF47.1 113 rfl))) rfl ?_
                refine jx_rt (v := some (.int (i32 (G 113)))) rfl rfl rfl rfl rfl rfl ?_
                exact ⟨_, _, _, rfl, rfl, hW46, hF51, by omega, trivial⟩
              · refine jx_swe (z := 3) (tg := 99) h66 rfl rfl rfl rfl ?_
                refine jx_ld (pc_q := 100) (l_q := [(0, .ref 66), (1, .int (i32 (w)))]) (st_q := [.ref 66]) rfl (jl_aloadn rfl) ?_
                have b70 : (0 : Int) ≤ G 28 ∧ G 28 ≤ 200 := hW.1 28
                refine jr_get (pc_q := 103) (i := 28) (v := .int (i32 (G 28))) rfl rfl (by decide) (rFv_eq (by decide) (show G42 28 = G 28 from (hF47.1 28 rfl))) rfl ?_
                refine jx_rt (v := some (.int (i32 (G 28)))) rfl rfl rfl rfl rfl rfl ?_
                exact ⟨_, _, _, rfl, rfl, hW46, hF51, by omega, trivial⟩
              · refine jx_swe (z := 4) (tg := 104) h66 rfl rfl rfl rfl ?_
                refine jx_ld (pc_q := 105) (l_q := [(0, .ref 66), (1, .int (i32 (w)))]) (st_q := [.ref 66]) rfl (jl_aloadn rfl) ?_
                have b71 : (0 : Int) ≤ G 46 ∧ G 46 ≤ 24 := hW.1 46
                refine jr_get (pc_q := 108) (i := 46) (v := .int (i32 (G 46))) rfl rfl (by decide) (rFv_eq (by decide) (show G42 46 = G 46 from (hF47.1 46 rfl))) rfl ?_
                refine jx_rt (v := some (.int (i32 (G 46)))) rfl rfl rfl rfl rfl rfl ?_
                exact ⟨_, _, _, rfl, rfl, hW46, hF51, by omega, trivial⟩
              · refine jx_swe (z := 5) (tg := 109) h66 rfl rfl rfl rfl ?_
                refine jx_ld (pc_q := 110) (l_q := [(0, .ref 66), (1, .int (i32 (w)))]) (st_q := [.ref 66]) rfl (jl_aloadn rfl) ?_
                have b72 : (-2147483648 : Int) ≤ G 120 ∧ G 120 ≤ 2147483647 := hW.1 120
                refine jr_get (pc_q := 113) (i := 120) (v := .int (i32 (G 120))) rfl rfl (by decide) (rFv_eq (by decide) (show G42 120 = G 120 from (hF47.1 120 rfl))) rfl ?_
                refine jx_rt (v := some (.int (i32 (G 120)))) rfl rfl rfl rfl rfl rfl ?_
                exact ⟨_, _, _, rfl, rfl, hW46, hF51, by omega, trivial⟩
              · refine jx_swt (tg := 114) (by omega) (by omega) rfl h66 rfl ?_
                refine jx_ld (pc_q := 115) (l_q := [(0, .ref 66), (1, .int (i32 (w)))]) (st_q := [.ref 66]) rfl (jl_aloadn rfl) ?_
                have b73 : (-2147483648 : Int) ≤ G 121 ∧ G 121 ≤ 2147483647 := hW.1 121
                refine jr_get (pc_q := 118) (i := 121) (v := .int (i32 (G 121))) rfl rfl (by decide) (rFv_eq (by decide) (show G42 121 = G 121 from (hF47.1 121 rfl))) rfl ?_
                refine jx_rt (v := some (.int (i32 (G 121)))) rfl rfl rfl rfl rfl rfl ?_
                exact ⟨_, _, _, rfl, rfl, hW46, hF51, by omega, trivial⟩
            · have _q := h65
              exact absurd h65 (by omega)
        · have _q := h41
          exact absurd h41 (by omega)
      · have _q : True := trivial
        refine jx_if_ne (pc_q := 30) (tg := 34) rfl rfl rfl (by decide) (by decide) (fun h74 => ?_) (fun h74 => ?_)
        · have _q := h74
          exact absurd h74 (by omega)
        · have _q := h74
          refine jx_ar (pc_q := 31) (st_q := [.int (i32 (1)), .int (i32 (0)), .ref 66]) rfl rfl rfl rfl ?_
          refine jx_go (tg := 35) rfl rfl ?_
          refine jx_ar (pc_q := 36) (st_q := [.int (i32 (0)), .int (i32 (1)), .int (i32 (0)), .ref 66]) rfl rfl rfl rfl ?_
          refine jx_vr (pc_q := 39) (as := [.int (i32 (0)), .int (i32 (1)), .int (i32 (0))]) (st := []) rfl rfl rfl rfl ⟨rfl, rfl, Nat.le_of_ble_eq_true rfl⟩ rfl rfl (c_refuse (dd := d) (hd := by omega) (hW := hW) (a := 0) (b := 1) (c := 0)   (h_a := ⟨(by decide), (by decide)⟩) (h_b := ⟨(by decide), (by decide)⟩) (h_c := ⟨(by decide), (by decide)⟩)  ) (fun o V_q hq => ?_)
          obtain ⟨G75, A76, r77, th2_78, rfl, rfl, hW79, hF80, b81, e82, q83⟩ := hq
          have hF84 := Fr_tr hF0 hF80 (Fr_sub (by decide)) (Fr_sub (by decide))
          have bth2_78 : (0 : Int) ≤ th2_78 ∧ th2_78 ≤ 4 := e82 ▸ hW79.1 0
          refine .inr ⟨_, rfl, ?_⟩
          rcases q83 with ⟨rfl, a85, a86⟩ | ⟨rfl, a87, a88, a89⟩ | ⟨rfl, a90, a91, a92, a93⟩ | ⟨rfl, a94, a95, a96, a97⟩
          · have _q : True := trivial
            exfalso
            omega
          · have _q : True := trivial
            refine jx_if_eq (pc_q := 42) (tg := 44) rfl rfl rfl (by decide) (by decide) (fun h98 => ?_) (fun h98 => ?_)
            · have _q := h98
              exact absurd h98 (by omega)
            · have _q := h98
              refine jx_ar (pc_q := 43) (st_q := [.int (i32 (0))]) rfl rfl rfl rfl ?_
              refine jx_rt (v := some (.int (i32 (0)))) rfl rfl rfl rfl rfl rfl ?_
              exact ⟨_, _, _, rfl, rfl, hW79, hF84, by omega, trivial⟩
          · have _q : True := trivial
            exfalso
            omega
          · have _q : True := trivial
            exfalso
            omega
  · have _q := h1
    refine jx_ar (pc_q := 9) (st_q := [.int (i32 (1)), .ref 66]) rfl rfl rfl rfl ?_
    refine jx_go (tg := 13) rfl rfl ?_
    refine jx_ld (pc_q := 14) (l_q := [(0, .ref 66), (1, .int (i32 (w)))]) (st_q := [.ref 66, .int (i32 (1)), .ref 66]) rfl (jl_aloadn rfl) ?_
    refine jr_get (pc_q := 17) (i := 58) (v := .int (i32 (pg))) rfl rfl (by decide) (rFv_eq (by decide) (show G 58 = pg from (e_pg))) rfl ?_
    refine jx_if_eq (pc_q := 20) (tg := 34) rfl rfl rfl (Int.le_trans (by decide : (-2147483648 : Int) ≤ 0) b_pg.1) (Int.le_trans b_pg.2 (by decide : (1 : Int) ≤ 2147483647)) (fun h99 => ?_) (fun h99 => ?_)
    · have _q := h99
      refine jx_ar (pc_q := 35) (st_q := [.int (i32 (0)), .int (i32 (1)), .ref 66]) rfl rfl rfl rfl ?_
      refine jx_ar (pc_q := 36) (st_q := [.int (i32 (0)), .int (i32 (0)), .int (i32 (1)), .ref 66]) rfl rfl rfl rfl ?_
      refine jx_vr (pc_q := 39) (as := [.int (i32 (1)), .int (i32 (0)), .int (i32 (0))]) (st := []) rfl rfl rfl rfl ⟨rfl, rfl, Nat.le_of_ble_eq_true rfl⟩ rfl rfl (c_refuse (dd := d) (hd := by omega) (hW := hW) (a := 1) (b := 0) (c := 0)   (h_a := ⟨(by decide), (by decide)⟩) (h_b := ⟨(by decide), (by decide)⟩) (h_c := ⟨(by decide), (by decide)⟩)  ) (fun o V_q hq => ?_)
      obtain ⟨G100, A101, r102, th2_103, rfl, rfl, hW104, hF105, b106, e107, q108⟩ := hq
      have hF109 := Fr_tr hF0 hF105 (Fr_sub (by decide)) (Fr_sub (by decide))
      have bth2_103 : (0 : Int) ≤ th2_103 ∧ th2_103 ≤ 4 := e107 ▸ hW104.1 0
      refine .inr ⟨_, rfl, ?_⟩
      rcases q108 with ⟨rfl, a110, a111⟩ | ⟨rfl, a112, a113, a114⟩ | ⟨rfl, a115, a116, a117, a118⟩ | ⟨rfl, a119, a120, a121, a122⟩
      · have _q : True := trivial
        refine jx_if_eq (pc_q := 42) (tg := 44) rfl rfl rfl (by decide) (by decide) (fun h123 => ?_) (fun h123 => ?_)
        · have _q := h123
          exact absurd h123 (by omega)
        · have _q := h123
          refine jx_ar (pc_q := 43) (st_q := [.int (i32 (0))]) rfl rfl rfl rfl ?_
          refine jx_rt (v := some (.int (i32 (0)))) rfl rfl rfl rfl rfl rfl ?_
          exact ⟨_, _, _, rfl, rfl, hW104, hF109, by omega, trivial⟩
      · have _q : True := trivial
        exfalso
        omega
      · have _q : True := trivial
        exfalso
        omega
      · have _q : True := trivial
        exfalso
        omega
    · have _q := h99
      refine jx_ld (pc_q := 21) (l_q := [(0, .ref 66), (1, .int (i32 (w)))]) (st_q := [.int (i32 (w)), .int (i32 (1)), .ref 66]) rfl (jl_iloadn rfl) ?_
      refine jx_ar (pc_q := 22) (st_q := [.int (i32 (0)), .int (i32 (w)), .int (i32 (1)), .ref 66]) rfl rfl rfl rfl ?_
      refine jx_ar (pc_q := 24) (st_q := [.int (i32 (6)), .int (i32 (0)), .int (i32 (w)), .int (i32 (1)), .ref 66]) rfl rfl rfl rfl ?_
      refine jx_st (pc_q := 27) (as := [.int (i32 (w)), .int (i32 (0)), .int (i32 (6))]) (st := [.int (i32 (1)), .ref 66]) rfl rfl ⟨rfl, Nat.le_of_ble_eq_true rfl⟩ rfl rfl rfl (c_in (dd := d) (hd := by omega) (v := w) (a := 0) (b := 6)   (h_v := ⟨(Int.le_trans (by decide : (-2147483648 : Int) ≤ -2147483648) h_w.1), (Int.le_trans h_w.2 (by decide : (2147483647 : Int) ≤ 2147483647))⟩) (h_a := ⟨(by decide), (by decide)⟩) (h_b := ⟨(by decide), (by decide)⟩)  ) (fun o V_q hq => ?_)
      obtain ⟨r124, rfl, rfl, b125, q126⟩ := hq
      refine .inr ⟨_, rfl, ?_⟩
      rcases q126 with ⟨rfl, a127, a128⟩ | ⟨rfl, a129⟩
      · have _q : True := trivial
        refine jx_if_ne (pc_q := 30) (tg := 34) rfl rfl rfl (by decide) (by decide) (fun h130 => ?_) (fun h130 => ?_)
        · have _q := h130
          refine jx_ar (pc_q := 35) (st_q := [.int (i32 (0)), .int (i32 (1)), .ref 66]) rfl rfl rfl rfl ?_
          refine jx_ar (pc_q := 36) (st_q := [.int (i32 (0)), .int (i32 (0)), .int (i32 (1)), .ref 66]) rfl rfl rfl rfl ?_
          refine jx_vr (pc_q := 39) (as := [.int (i32 (1)), .int (i32 (0)), .int (i32 (0))]) (st := []) rfl rfl rfl rfl ⟨rfl, rfl, Nat.le_of_ble_eq_true rfl⟩ rfl rfl (c_refuse (dd := d) (hd := by omega) (hW := hW) (a := 1) (b := 0) (c := 0)   (h_a := ⟨(by decide), (by decide)⟩) (h_b := ⟨(by decide), (by decide)⟩) (h_c := ⟨(by decide), (by decide)⟩)  ) (fun o V_q hq => ?_)
          obtain ⟨G131, A132, r133, th2_134, rfl, rfl, hW135, hF136, b137, e138, q139⟩ := hq
          have hF140 := Fr_tr hF0 hF136 (Fr_sub (by decide)) (Fr_sub (by decide))
          have bth2_134 : (0 : Int) ≤ th2_134 ∧ th2_134 ≤ 4 := e138 ▸ hW135.1 0
          refine .inr ⟨_, rfl, ?_⟩
          rcases q139 with ⟨rfl, a141, a142⟩ | ⟨rfl, a143, a144, a145⟩ | ⟨rfl, a146, a147, a148, a149⟩ | ⟨rfl, a150, a151, a152, a153⟩
          · have _q : True := trivial
            refine jx_if_eq (pc_q := 42) (tg := 44) rfl rfl rfl (by decide) (by decide) (fun h154 => ?_) (fun h154 => ?_)
            · have _q := h154
              exact absurd h154 (by omega)
            · have _q := h154
              refine jx_ar (pc_q := 43) (st_q := [.int (i32 (0))]) rfl rfl rfl rfl ?_
              refine jx_rt (v := some (.int (i32 (0)))) rfl rfl rfl rfl rfl rfl ?_
              exact ⟨_, _, _, rfl, rfl, hW135, hF140, by omega, trivial⟩
          · have _q : True := trivial
            exfalso
            omega
          · have _q : True := trivial
            exfalso
            omega
          · have _q : True := trivial
            exfalso
            omega
        · have _q := h130
          exact absurd h130 (by omega)
      · have _q : True := trivial
        refine jx_if_ne (pc_q := 30) (tg := 34) rfl rfl rfl (by decide) (by decide) (fun h155 => ?_) (fun h155 => ?_)
        · have _q := h155
          exact absurd h155 (by omega)
        · have _q := h155
          refine jx_ar (pc_q := 31) (st_q := [.int (i32 (1)), .int (i32 (1)), .ref 66]) rfl rfl rfl rfl ?_
          refine jx_go (tg := 35) rfl rfl ?_
          refine jx_ar (pc_q := 36) (st_q := [.int (i32 (0)), .int (i32 (1)), .int (i32 (1)), .ref 66]) rfl rfl rfl rfl ?_
          refine jx_vr (pc_q := 39) (as := [.int (i32 (1)), .int (i32 (1)), .int (i32 (0))]) (st := []) rfl rfl rfl rfl ⟨rfl, rfl, Nat.le_of_ble_eq_true rfl⟩ rfl rfl (c_refuse (dd := d) (hd := by omega) (hW := hW) (a := 1) (b := 1) (c := 0)   (h_a := ⟨(by decide), (by decide)⟩) (h_b := ⟨(by decide), (by decide)⟩) (h_c := ⟨(by decide), (by decide)⟩)  ) (fun o V_q hq => ?_)
          obtain ⟨G156, A157, r158, th2_159, rfl, rfl, hW160, hF161, b162, e163, q164⟩ := hq
          have hF165 := Fr_tr hF0 hF161 (Fr_sub (by decide)) (Fr_sub (by decide))
          have bth2_159 : (0 : Int) ≤ th2_159 ∧ th2_159 ≤ 4 := e163 ▸ hW160.1 0
          refine .inr ⟨_, rfl, ?_⟩
          rcases q164 with ⟨rfl, a166, a167⟩ | ⟨rfl, a168, a169, a170⟩ | ⟨rfl, a171, a172, a173, a174⟩ | ⟨rfl, a175, a176, a177, a178⟩
          · have _q : True := trivial
            refine jx_if_eq (pc_q := 42) (tg := 44) rfl rfl rfl (by decide) (by decide) (fun h179 => ?_) (fun h179 => ?_)
            · have _q := h179
              exact absurd h179 (by omega)
            · have _q := h179
              refine jx_ar (pc_q := 43) (st_q := [.int (i32 (0))]) rfl rfl rfl rfl ?_
              refine jx_rt (v := some (.int (i32 (0)))) rfl rfl rfl rfl rfl rfl ?_
              exact ⟨_, _, _, rfl, rfl, hW160, hF165, by omega, trivial⟩
          · have _q : True := trivial
            exfalso
            omega
          · have _q : True := trivial
            exfalso
            omega
          · have _q : True := trivial
            exfalso
            omega
set_option maxRecDepth 20000 in
set_option maxHeartbeats 4000000 in
theorem c_outcome {X : jX} {dd : Nat} {c0 c1 : jC} {G : Nat → Int} {A : Nat → Nat → Int} {T : jH} {pg : Int} (hd : 2 ≤ dd) (hW : Wk G A) (e_pg : G 58 = pg) : wk X dd 402 [.ref 66] (rV c0 c1 G A T) (fun o V_q => ∃ (G_q : Nat → Int) (A_q : Nat → Nat → Int) (r : Int), V_q = rV c0 c1 G_q A_q T ∧ o = .inl (some (.int (i32 r))) ∧ Wk G_q A_q ∧ Fr [0] [] G A G_q A_q ∧ ((-2147483648 : Int) ≤ r ∧ r ≤ 2147483647) ∧ True) := by
  obtain ⟨d, rfl⟩ : ∃ d, dd = d + 1 := ⟨dd - 1, by omega⟩
  refine wk_of (e := jm402) rfl (Nat.le_of_ble_eq_true rfl) ?_
  show wj X d jm402 (0, [(0, .ref 66)], [], rV c0 c1 G A T) _
  have hF0 : Fr [0] [] G A G A := Fr_rf
  have b_pg : (0 : Int) ≤ pg ∧ pg ≤ 1 := e_pg ▸ hW.1 58
  refine jx_ld (pc_q := 1) (l_q := [(0, .ref 66)]) (st_q := [.ref 66]) rfl (jl_aloadn rfl) ?_
  refine jx_ld (pc_q := 2) (l_q := [(0, .ref 66)]) (st_q := [.ref 66, .ref 66]) rfl (jl_aloadn rfl) ?_
  refine jr_get (pc_q := 5) (i := 58) (v := .int (i32 (pg))) rfl rfl (by decide) (rFv_eq (by decide) (show G 58 = pg from (e_pg))) rfl ?_
  refine jx_if_ne (pc_q := 8) (tg := 12) rfl rfl rfl (Int.le_trans (by decide : (-2147483648 : Int) ≤ 0) b_pg.1) (Int.le_trans b_pg.2 (by decide : (1 : Int) ≤ 2147483647)) (fun h1 => ?_) (fun h1 => ?_)
  · have _q := h1
    refine jx_ar (pc_q := 13) (st_q := [.int (i32 (0)), .ref 66]) rfl rfl rfl rfl ?_
    refine jx_ar (pc_q := 14) (st_q := [.int (i32 (0)), .int (i32 (0)), .ref 66]) rfl rfl rfl rfl ?_
    refine jx_ar (pc_q := 15) (st_q := [.int (i32 (0)), .int (i32 (0)), .int (i32 (0)), .ref 66]) rfl rfl rfl rfl ?_
    refine jx_vr (pc_q := 18) (as := [.int (i32 (0)), .int (i32 (0)), .int (i32 (0))]) (st := []) rfl rfl rfl rfl ⟨rfl, rfl, Nat.le_of_ble_eq_true rfl⟩ rfl rfl (c_refuse (dd := d) (hd := by omega) (hW := hW) (a := 0) (b := 0) (c := 0)   (h_a := ⟨(by decide), (by decide)⟩) (h_b := ⟨(by decide), (by decide)⟩) (h_c := ⟨(by decide), (by decide)⟩)  ) (fun o V_q hq => ?_)
    obtain ⟨G2, A3, r4, th2_5, rfl, rfl, hW6, hF7, b8, e9, q10⟩ := hq
    have hF11 := Fr_tr hF0 hF7 (Fr_sub (by decide)) (Fr_sub (by decide))
    have bth2_5 : (0 : Int) ≤ th2_5 ∧ th2_5 ≤ 4 := e9 ▸ hW6.1 0
    refine .inr ⟨_, rfl, ?_⟩
    rcases q10 with ⟨rfl, a12, a13⟩ | ⟨rfl, a14, a15, a16⟩ | ⟨rfl, a17, a18, a19, a20⟩ | ⟨rfl, a21, a22, a23, a24⟩
    · have _q : True := trivial
      exfalso
      omega
    · have _q : True := trivial
      exfalso
      omega
    · have _q : True := trivial
      exfalso
      omega
    · have _q : True := trivial
      refine jx_if_eq (pc_q := 21) (tg := 25) rfl rfl rfl (by decide) (by decide) (fun h25 => ?_) (fun h25 => ?_)
      · have _q := h25
        refine jx_ld (pc_q := 26) (l_q := [(0, .ref 66)]) (st_q := [.ref 66]) rfl (jl_aloadn rfl) ?_
        have b26 : (0 : Int) ≤ G 52 ∧ G 52 ≤ 12 := hW.1 52
        refine jx_vr (pc_q := 29) (as := []) (st := []) rfl rfl rfl rfl ⟨rfl, rfl, Nat.le_of_ble_eq_true rfl⟩ rfl rfl (c_find2 (dd := d) (hd := by omega) (hW := hW6)  (lk := G 52) (e_lk := show G2 52 = G 52 from (hF7.1 52 rfl))    ) (fun o V_q hq => ?_)
        obtain ⟨r27, rfl, rfl, b28, p29, p30, -⟩ := hq
        refine .inr ⟨_, rfl, ?_⟩
        refine jx_rt (v := some (.int (i32 (r27)))) rfl rfl rfl rfl rfl rfl ?_
        exact ⟨_, _, _, rfl, rfl, hW6, hF11, by omega, trivial⟩
      · have _q := h25
        exact absurd h25 (by omega)
  · have _q := h1
    refine jx_ar (pc_q := 9) (st_q := [.int (i32 (1)), .ref 66]) rfl rfl rfl rfl ?_
    refine jx_go (tg := 13) rfl rfl ?_
    refine jx_ar (pc_q := 14) (st_q := [.int (i32 (0)), .int (i32 (1)), .ref 66]) rfl rfl rfl rfl ?_
    refine jx_ar (pc_q := 15) (st_q := [.int (i32 (0)), .int (i32 (0)), .int (i32 (1)), .ref 66]) rfl rfl rfl rfl ?_
    refine jx_vr (pc_q := 18) (as := [.int (i32 (1)), .int (i32 (0)), .int (i32 (0))]) (st := []) rfl rfl rfl rfl ⟨rfl, rfl, Nat.le_of_ble_eq_true rfl⟩ rfl rfl (c_refuse (dd := d) (hd := by omega) (hW := hW) (a := 1) (b := 0) (c := 0)   (h_a := ⟨(by decide), (by decide)⟩) (h_b := ⟨(by decide), (by decide)⟩) (h_c := ⟨(by decide), (by decide)⟩)  ) (fun o V_q hq => ?_)
    obtain ⟨G32, A33, r34, th2_35, rfl, rfl, hW36, hF37, b38, e39, q40⟩ := hq
    have hF41 := Fr_tr hF0 hF37 (Fr_sub (by decide)) (Fr_sub (by decide))
    have bth2_35 : (0 : Int) ≤ th2_35 ∧ th2_35 ≤ 4 := e39 ▸ hW36.1 0
    refine .inr ⟨_, rfl, ?_⟩
    rcases q40 with ⟨rfl, a42, a43⟩ | ⟨rfl, a44, a45, a46⟩ | ⟨rfl, a47, a48, a49, a50⟩ | ⟨rfl, a51, a52, a53, a54⟩
    · have _q : True := trivial
      refine jx_if_eq (pc_q := 21) (tg := 25) rfl rfl rfl (by decide) (by decide) (fun h55 => ?_) (fun h55 => ?_)
      · have _q := h55
        exact absurd h55 (by omega)
      · have _q := h55
        refine jx_ar (pc_q := 22) (st_q := [.int (i32 (0))]) rfl rfl rfl rfl ?_
        refine jx_go (tg := 29) rfl rfl ?_
        refine jx_rt (v := some (.int (i32 (0)))) rfl rfl rfl rfl rfl rfl ?_
        exact ⟨_, _, _, rfl, rfl, hW36, hF41, by omega, trivial⟩
    · have _q : True := trivial
      exfalso
      omega
    · have _q : True := trivial
      exfalso
      omega
    · have _q : True := trivial
      exfalso
      omega
