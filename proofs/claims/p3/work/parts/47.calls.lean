/-- the byte of x that begins at bit k -/
def bt (x k : Int) : Int := (i32 ((i32 x >>> (i32 k &&& 31)).toInt) &&& i32 255).toInt
/-- 1 where z is no sign of a text and not 0 -/
def snb (z : Int) : Int := if z = 0 ∨ z = 10 ∨ (32 ≤ z ∧ z ≤ 126) then 0 else 1
theorem snb_f (z : Int) : (snb z = 0 ∧ (z = 0 ∨ z = 10 ∨ (32 ≤ z ∧ z ≤ 126))) ∨ (snb z = 1 ∧ ¬ (z = 0 ∨ z = 10 ∨ (32 ≤ z ∧ z ≤ 126))) := by
  unfold snb
  by_cases h : z = 0 ∨ z = 10 ∨ (32 ≤ z ∧ z ≤ 126)
  · rw [if_pos h]
    exact .inl ⟨rfl, h⟩
  · rw [if_neg h]
    exact .inr ⟨rfl, h⟩
theorem snb_b (z : Int) : 0 ≤ snb z ∧ snb z ≤ 1 := by
  rcases snb_f z with h | h <;> omega

set_option maxRecDepth 20000 in
set_option maxHeartbeats 4000000 in
theorem c_refuse {X : jX} {dd : Nat} {c0 c1 : jC} {G : Nat → Int} {A : Nat → Nat → Int} {T : jH} {a b c : Int} (hd : 1 ≤ dd) (hW : Wk G A) (h_a : (0 : Int) ≤ a ∧ a ≤ 1) (h_b : (0 : Int) ≤ b ∧ b ≤ 1) (h_c : (0 : Int) ≤ c ∧ c ≤ 1) : wk X dd 245 [.ref 66, .int (i32 a), .int (i32 b), .int (i32 c)] (rV c0 c1 G A T) (fun o V_q => ∃ (G_q : Nat → Int) (A_q : Nat → Nat → Int) (r : Int) (th2 : Int), V_q = rV c0 c1 G_q A_q T ∧ o = .inl (some (.int (i32 r))) ∧ Wk G_q A_q ∧ Fr [0] [] G A G_q A_q ∧ ((0 : Int) ≤ r ∧ r ≤ 1) ∧ G_q 0 = th2 ∧ ((r = 1 ∧ (a = 1) ∧ (th2 = 1)) ∨ (r = 1 ∧ (a = 0) ∧ (b = 1) ∧ (th2 = 2)) ∨ (r = 1 ∧ (a = 0) ∧ (b = 0) ∧ (c = 1) ∧ (th2 = 3)) ∨ (r = 0 ∧ (a = 0) ∧ (b = 0) ∧ (c = 0) ∧ (th2 = 0)))) := by
  obtain ⟨d, rfl⟩ : ∃ d, dd = d + 1 := ⟨dd - 1, by omega⟩
  refine wk_of (e := jm245) rfl (Nat.le_of_ble_eq_true rfl) ?_
  show wj X d jm245 (0, [(0, .ref 66), (1, .int (i32 (a))), (2, .int (i32 (b))), (3, .int (i32 (c)))], [], rV c0 c1 G A T) _
  have hF0 : Fr [0] [] G A G A := Fr_rf
  refine jx_ld (pc_q := 1) (l_q := [(0, .ref 66), (1, .int (i32 (a))), (2, .int (i32 (b))), (3, .int (i32 (c)))]) (st_q := [.ref 66]) rfl (jl_aloadn rfl) ?_
  refine jx_ld (pc_q := 2) (l_q := [(0, .ref 66), (1, .int (i32 (a))), (2, .int (i32 (b))), (3, .int (i32 (c)))]) (st_q := [.int (i32 (a)), .ref 66]) rfl (jl_iloadn rfl) ?_
  refine jx_if_eq (pc_q := 5) (tg := 9) rfl rfl rfl (Int.le_trans (by decide : (-2147483648 : Int) ≤ 0) h_a.1) (Int.le_trans h_a.2 (by decide : (1 : Int) ≤ 2147483647)) (fun h1 => ?_) (fun h1 => ?_)
  · have _q := h1
    refine jx_ld (pc_q := 10) (l_q := [(0, .ref 66), (1, .int (i32 (a))), (2, .int (i32 (b))), (3, .int (i32 (c)))]) (st_q := [.int (i32 (b)), .ref 66]) rfl (jl_iloadn rfl) ?_
    refine jx_if_eq (pc_q := 13) (tg := 17) rfl rfl rfl (Int.le_trans (by decide : (-2147483648 : Int) ≤ 0) h_b.1) (Int.le_trans h_b.2 (by decide : (1 : Int) ≤ 2147483647)) (fun h2 => ?_) (fun h2 => ?_)
    · have _q := h2
      refine jx_ld (pc_q := 18) (l_q := [(0, .ref 66), (1, .int (i32 (a))), (2, .int (i32 (b))), (3, .int (i32 (c)))]) (st_q := [.int (i32 (c)), .ref 66]) rfl (jl_iloadn rfl) ?_
      refine jx_if_eq (pc_q := 21) (tg := 25) rfl rfl rfl (Int.le_trans (by decide : (-2147483648 : Int) ≤ 0) h_c.1) (Int.le_trans h_c.2 (by decide : (1 : Int) ≤ 2147483647)) (fun h3 => ?_) (fun h3 => ?_)
      · have _q := h3
        refine jx_ar (pc_q := 26) (st_q := [.int (i32 (0)), .ref 66]) rfl rfl rfl rfl ?_
        refine jr_put (pc_q := 29) (i := 0) (z := 0) rfl rfl (by decide) rfl rfl rfl rfl rfl rfl ?_
        have hW4 : Wk (uG G 0 (0)) A := Wk_g hW (show (0 : Int) ≤ 0 by omega) (show 0 ≤ (4 : Int) by omega)
        have hF5 := Fr_g (z := 0) (i := 0) hF0 (by decide)
        refine jx_ld (pc_q := 30) (l_q := [(0, .ref 66), (1, .int (i32 (a))), (2, .int (i32 (b))), (3, .int (i32 (c)))]) (st_q := [.ref 66]) rfl (jl_aloadn rfl) ?_
        refine jr_get (pc_q := 33) (i := 0) (v := .int (i32 (0))) rfl rfl (by decide) rfl rfl ?_
        refine jx_if_le (pc_q := 36) (tg := 40) rfl rfl rfl (by decide) (by decide) (fun h6 => ?_) (fun h6 => ?_)
        · have _q := h6
          refine jx_ar (pc_q := 41) (st_q := [.int (i32 (0))]) rfl rfl rfl rfl ?_
          refine jx_rt (v := some (.int (i32 (0)))) rfl rfl rfl rfl rfl (by first | rfl | exact jRet_b (by omega)) ?_
          exact ⟨_, _, _, 0, rfl, rfl, hW4, hF5, by omega, rfl, by first | exact Or.inl (⟨by omega, by omega, by omega⟩) | exact Or.inr (Or.inl (⟨by omega, by omega, by omega, by omega⟩)) | exact Or.inr (Or.inr (Or.inl (⟨by omega, by omega, by omega, by omega, by omega⟩))) | exact Or.inr (Or.inr (Or.inr ((⟨by omega, by omega, by omega, by omega, by omega⟩))))⟩
        · have _q := h6
          exact absurd h6 (by omega)
      · have _q := h3
        refine jx_ar (pc_q := 22) (st_q := [.int (i32 (3)), .ref 66]) rfl rfl rfl rfl ?_
        refine jx_go (tg := 26) rfl rfl ?_
        refine jr_put (pc_q := 29) (i := 0) (z := 3) rfl rfl (by decide) rfl rfl rfl rfl rfl rfl ?_
        have hW7 : Wk (uG G 0 (3)) A := Wk_g hW (show (0 : Int) ≤ 3 by omega) (show 3 ≤ (4 : Int) by omega)
        have hF8 := Fr_g (z := 3) (i := 0) hF0 (by decide)
        refine jx_ld (pc_q := 30) (l_q := [(0, .ref 66), (1, .int (i32 (a))), (2, .int (i32 (b))), (3, .int (i32 (c)))]) (st_q := [.ref 66]) rfl (jl_aloadn rfl) ?_
        refine jr_get (pc_q := 33) (i := 0) (v := .int (i32 (3))) rfl rfl (by decide) rfl rfl ?_
        refine jx_if_le (pc_q := 36) (tg := 40) rfl rfl rfl (by decide) (by decide) (fun h9 => ?_) (fun h9 => ?_)
        · have _q := h9
          exact absurd h9 (by omega)
        · have _q := h9
          refine jx_ar (pc_q := 37) (st_q := [.int (i32 (1))]) rfl rfl rfl rfl ?_
          refine jx_go (tg := 41) rfl rfl ?_
          refine jx_rt (v := some (.int (i32 (1)))) rfl rfl rfl rfl rfl (by first | rfl | exact jRet_b (by omega)) ?_
          exact ⟨_, _, _, 3, rfl, rfl, hW7, hF8, by omega, rfl, by first | exact Or.inl (⟨by omega, by omega, by omega⟩) | exact Or.inr (Or.inl (⟨by omega, by omega, by omega, by omega⟩)) | exact Or.inr (Or.inr (Or.inl (⟨by omega, by omega, by omega, by omega, by omega⟩))) | exact Or.inr (Or.inr (Or.inr ((⟨by omega, by omega, by omega, by omega, by omega⟩))))⟩
    · have _q := h2
      refine jx_ar (pc_q := 14) (st_q := [.int (i32 (2)), .ref 66]) rfl rfl rfl rfl ?_
      refine jx_go (tg := 26) rfl rfl ?_
      refine jr_put (pc_q := 29) (i := 0) (z := 2) rfl rfl (by decide) rfl rfl rfl rfl rfl rfl ?_
      have hW10 : Wk (uG G 0 (2)) A := Wk_g hW (show (0 : Int) ≤ 2 by omega) (show 2 ≤ (4 : Int) by omega)
      have hF11 := Fr_g (z := 2) (i := 0) hF0 (by decide)
      refine jx_ld (pc_q := 30) (l_q := [(0, .ref 66), (1, .int (i32 (a))), (2, .int (i32 (b))), (3, .int (i32 (c)))]) (st_q := [.ref 66]) rfl (jl_aloadn rfl) ?_
      refine jr_get (pc_q := 33) (i := 0) (v := .int (i32 (2))) rfl rfl (by decide) rfl rfl ?_
      refine jx_if_le (pc_q := 36) (tg := 40) rfl rfl rfl (by decide) (by decide) (fun h12 => ?_) (fun h12 => ?_)
      · have _q := h12
        exact absurd h12 (by omega)
      · have _q := h12
        refine jx_ar (pc_q := 37) (st_q := [.int (i32 (1))]) rfl rfl rfl rfl ?_
        refine jx_go (tg := 41) rfl rfl ?_
        refine jx_rt (v := some (.int (i32 (1)))) rfl rfl rfl rfl rfl (by first | rfl | exact jRet_b (by omega)) ?_
        exact ⟨_, _, _, 2, rfl, rfl, hW10, hF11, by omega, rfl, by first | exact Or.inl (⟨by omega, by omega, by omega⟩) | exact Or.inr (Or.inl (⟨by omega, by omega, by omega, by omega⟩)) | exact Or.inr (Or.inr (Or.inl (⟨by omega, by omega, by omega, by omega, by omega⟩))) | exact Or.inr (Or.inr (Or.inr ((⟨by omega, by omega, by omega, by omega, by omega⟩))))⟩
  · have _q := h1
    refine jx_ar (pc_q := 6) (st_q := [.int (i32 (1)), .ref 66]) rfl rfl rfl rfl ?_
    refine jx_go (tg := 26) rfl rfl ?_
    refine jr_put (pc_q := 29) (i := 0) (z := 1) rfl rfl (by decide) rfl rfl rfl rfl rfl rfl ?_
    have hW13 : Wk (uG G 0 (1)) A := Wk_g hW (show (0 : Int) ≤ 1 by omega) (show 1 ≤ (4 : Int) by omega)
    have hF14 := Fr_g (z := 1) (i := 0) hF0 (by decide)
    refine jx_ld (pc_q := 30) (l_q := [(0, .ref 66), (1, .int (i32 (a))), (2, .int (i32 (b))), (3, .int (i32 (c)))]) (st_q := [.ref 66]) rfl (jl_aloadn rfl) ?_
    refine jr_get (pc_q := 33) (i := 0) (v := .int (i32 (1))) rfl rfl (by decide) rfl rfl ?_
    refine jx_if_le (pc_q := 36) (tg := 40) rfl rfl rfl (by decide) (by decide) (fun h15 => ?_) (fun h15 => ?_)
    · have _q := h15
      exact absurd h15 (by omega)
    · have _q := h15
      refine jx_ar (pc_q := 37) (st_q := [.int (i32 (1))]) rfl rfl rfl rfl ?_
      refine jx_go (tg := 41) rfl rfl ?_
      refine jx_rt (v := some (.int (i32 (1)))) rfl rfl rfl rfl rfl (by first | rfl | exact jRet_b (by omega)) ?_
      exact ⟨_, _, _, 1, rfl, rfl, hW13, hF14, by omega, rfl, by first | exact Or.inl (⟨by omega, by omega, by omega⟩) | exact Or.inr (Or.inl (⟨by omega, by omega, by omega, by omega⟩)) | exact Or.inr (Or.inr (Or.inl (⟨by omega, by omega, by omega, by omega, by omega⟩))) | exact Or.inr (Or.inr (Or.inr ((⟨by omega, by omega, by omega, by omega, by omega⟩))))⟩
set_option maxRecDepth 20000 in
set_option maxHeartbeats 4000000 in
theorem c_thrown {X : jX} {dd : Nat} {c0 c1 : jC} {G : Nat → Int} {A : Nat → Nat → Int} {T : jH} {th : Int} (hd : 1 ≤ dd) (hW : Wk G A) (e_th : G 0 = th) : wk X dd 244 [.ref 66] (rV c0 c1 G A T) (fun o V_q => ∃ (r : Int), V_q = rV c0 c1 G A T ∧ o = .inl (some (.int (i32 r))) ∧ ((-2147483648 : Int) ≤ r ∧ r ≤ 2147483647) ∧ (r = th) ∧ True) := by
  obtain ⟨d, rfl⟩ : ∃ d, dd = d + 1 := ⟨dd - 1, by omega⟩
  refine wk_of (e := jm244) rfl (Nat.le_of_ble_eq_true rfl) ?_
  show wj X d jm244 (0, [(0, .ref 66)], [], rV c0 c1 G A T) _
  have b_th : (0 : Int) ≤ th ∧ th ≤ 4 := e_th ▸ hW.1 0
  refine jx_ld (pc_q := 1) (l_q := [(0, .ref 66)]) (st_q := [.ref 66]) rfl (jl_aloadn rfl) ?_
  refine jr_get (pc_q := 4) (i := 0) (v := .int (i32 (th))) rfl rfl (by decide) (rFv_eq (by decide) (show G 0 = th from (e_th))) rfl ?_
  refine jx_rt (v := some (.int (i32 (th)))) rfl rfl rfl rfl rfl rfl ?_
  exact ⟨_, rfl, rfl, by omega, by omega, trivial⟩
set_option maxRecDepth 20000 in
set_option maxHeartbeats 4000000 in
theorem c_end {X : jX} {dd : Nat} {c0 c1 : jC} {G : Nat → Int} {A : Nat → Nat → Int} {T : jH} {n : Int} {sz : Int} (hd : 2 ≤ dd) (hW : Wk G A) (e_sz : G 2 = sz) (h_n : (-2147483648 : Int) ≤ n ∧ n ≤ 2147483647) : wk X dd 249 [.ref 66, .int (i32 n)] (rV c0 c1 G A T) (fun o V_q => ∃ (G_q : Nat → Int) (A_q : Nat → Nat → Int) (th2 : Int) (sz2 : Int), V_q = rV c0 c1 G_q A_q T ∧ o = .inl none ∧ Wk G_q A_q ∧ Fr [0, 2] [] G A G_q A_q ∧ G_q 0 = th2 ∧ G_q 2 = sz2 ∧ (((n < 0 ∨ sz < n) ∧ (th2 = 1) ∧ (sz2 = sz)) ∨ ((0 ≤ n) ∧ (n ≤ sz) ∧ (th2 = 0) ∧ (sz2 = n)))) := by
  obtain ⟨d, rfl⟩ : ∃ d, dd = d + 1 := ⟨dd - 1, by omega⟩
  refine wk_of (e := jm249) rfl (Nat.le_of_ble_eq_true rfl) ?_
  show wj X d jm249 (0, [(0, .ref 66), (1, .int (i32 (n)))], [], rV c0 c1 G A T) _
  have hF0 : Fr [0, 2] [] G A G A := Fr_rf
  have b_sz : (0 : Int) ≤ sz ∧ sz ≤ 3000 := e_sz ▸ hW.1 2
  refine jx_ld (pc_q := 1) (l_q := [(0, .ref 66), (1, .int (i32 (n)))]) (st_q := [.ref 66]) rfl (jl_aloadn rfl) ?_
  refine jx_ld (pc_q := 2) (l_q := [(0, .ref 66), (1, .int (i32 (n)))]) (st_q := [.int (i32 (n)), .ref 66]) rfl (jl_iloadn rfl) ?_
  refine jx_ar (pc_q := 3) (st_q := [.int (i32 (0)), .int (i32 (n)), .ref 66]) rfl rfl rfl rfl ?_
  refine jx_ld (pc_q := 4) (l_q := [(0, .ref 66), (1, .int (i32 (n)))]) (st_q := [.ref 66, .int (i32 (0)), .int (i32 (n)), .ref 66]) rfl (jl_aloadn rfl) ?_
  refine jr_get (pc_q := 7) (i := 2) (v := .int (i32 (sz))) rfl rfl (by decide) (rFv_eq (by decide) (show G 2 = sz from (e_sz))) rfl ?_
  refine jx_st (pc_q := 10) (as := [.int (i32 (n)), .int (i32 (0)), .int (i32 (sz))]) (st := [.ref 66]) rfl rfl ⟨rfl, Nat.le_of_ble_eq_true rfl⟩ rfl rfl rfl (c_in (dd := d) (hd := by omega) (v := n) (a := 0) (b := sz)   (h_v := ⟨(Int.le_trans (by decide : (-2147483648 : Int) ≤ -2147483648) h_n.1), (Int.le_trans h_n.2 (by decide : (2147483647 : Int) ≤ 2147483647))⟩) (h_a := ⟨(by decide), (by decide)⟩) (h_b := ⟨(Int.le_trans (by decide : (-2147483648 : Int) ≤ 0) b_sz.1), (Int.le_trans b_sz.2 (by decide : (3000 : Int) ≤ 2147483647))⟩)  ) (fun o V_q hq => ?_)
  obtain ⟨r1, rfl, rfl, b2, q3⟩ := hq
  refine .inr ⟨_, rfl, ?_⟩
  rcases q3 with ⟨rfl, a4, a5⟩ | ⟨rfl, a6⟩
  · have _q : True := trivial
    refine jx_if_ne (pc_q := 13) (tg := 17) rfl rfl rfl (by decide) (by decide) (fun h7 => ?_) (fun h7 => ?_)
    · have _q := h7
      refine jx_ar (pc_q := 18) (st_q := [.int (i32 (0)), .ref 66]) rfl rfl rfl rfl ?_
      refine jx_ar (pc_q := 19) (st_q := [.int (i32 (0)), .int (i32 (0)), .ref 66]) rfl rfl rfl rfl ?_
      refine jx_ar (pc_q := 20) (st_q := [.int (i32 (0)), .int (i32 (0)), .int (i32 (0)), .ref 66]) rfl rfl rfl rfl ?_
      refine jx_vr (pc_q := 23) (as := [.int (i32 (0)), .int (i32 (0)), .int (i32 (0))]) (st := []) rfl rfl rfl rfl ⟨rfl, rfl, Nat.le_of_ble_eq_true rfl⟩ rfl rfl (c_refuse (dd := d) (hd := by omega) (hW := hW) (a := 0) (b := 0) (c := 0)   (h_a := ⟨(by decide), (by decide)⟩) (h_b := ⟨(by decide), (by decide)⟩) (h_c := ⟨(by decide), (by decide)⟩)  ) (fun o V_q hq => ?_)
      obtain ⟨G8, A9, r10, th2_11, rfl, rfl, hW12, hF13, b14, e15, q16⟩ := hq
      have hF17 := Fr_tr hF0 hF13 (Fr_sub (by decide)) (Fr_sub (by decide))
      have bth2_11 : (0 : Int) ≤ th2_11 ∧ th2_11 ≤ 4 := e15 ▸ hW12.1 0
      refine .inr ⟨_, rfl, ?_⟩
      rcases q16 with ⟨rfl, a18, a19⟩ | ⟨rfl, a20, a21, a22⟩ | ⟨rfl, a23, a24, a25, a26⟩ | ⟨rfl, a27, a28, a29, a30⟩
      · have _q : True := trivial
        exfalso
        omega
      · have _q : True := trivial
        exfalso
        omega
      · have _q : True := trivial
        exfalso
        omega
      · have _q : True := trivial
        refine jx_if_ne (pc_q := 26) (tg := 31) rfl rfl rfl (by decide) (by decide) (fun h31 => ?_) (fun h31 => ?_)
        · have _q := h31
          exact absurd h31 (by omega)
        · have _q := h31
          refine jx_ld (pc_q := 27) (l_q := [(0, .ref 66), (1, .int (i32 (n)))]) (st_q := [.ref 66]) rfl (jl_aloadn rfl) ?_
          refine jx_ld (pc_q := 28) (l_q := [(0, .ref 66), (1, .int (i32 (n)))]) (st_q := [.int (i32 (n)), .ref 66]) rfl (jl_iloadn rfl) ?_
          refine jr_put (pc_q := 31) (i := 2) (z := n) rfl rfl (by decide) rfl rfl rfl rfl rfl rfl ?_
          have hW32 : Wk (uG G8 2 (n)) A9 := Wk_g hW12 (show (0 : Int) ≤ n by omega) (show n ≤ (3000 : Int) by omega)
          have hF33 := Fr_g (z := n) (i := 2) hF17 (by decide)
          refine jx_rt (v := none) rfl rfl rfl rfl rfl rfl ?_
          exact ⟨_, _, th2_11, n, rfl, rfl, hW32, hF33, (e15), rfl, by first | exact Or.inl (⟨by omega, by omega, by omega⟩) | exact Or.inr ((⟨by omega, by omega, by omega, by omega⟩))⟩
    · have _q := h7
      exact absurd h7 (by omega)
  · have _q : True := trivial
    refine jx_if_ne (pc_q := 13) (tg := 17) rfl rfl rfl (by decide) (by decide) (fun h34 => ?_) (fun h34 => ?_)
    · have _q := h34
      exact absurd h34 (by omega)
    · have _q := h34
      refine jx_ar (pc_q := 14) (st_q := [.int (i32 (1)), .ref 66]) rfl rfl rfl rfl ?_
      refine jx_go (tg := 18) rfl rfl ?_
      refine jx_ar (pc_q := 19) (st_q := [.int (i32 (0)), .int (i32 (1)), .ref 66]) rfl rfl rfl rfl ?_
      refine jx_ar (pc_q := 20) (st_q := [.int (i32 (0)), .int (i32 (0)), .int (i32 (1)), .ref 66]) rfl rfl rfl rfl ?_
      refine jx_vr (pc_q := 23) (as := [.int (i32 (1)), .int (i32 (0)), .int (i32 (0))]) (st := []) rfl rfl rfl rfl ⟨rfl, rfl, Nat.le_of_ble_eq_true rfl⟩ rfl rfl (c_refuse (dd := d) (hd := by omega) (hW := hW) (a := 1) (b := 0) (c := 0)   (h_a := ⟨(by decide), (by decide)⟩) (h_b := ⟨(by decide), (by decide)⟩) (h_c := ⟨(by decide), (by decide)⟩)  ) (fun o V_q hq => ?_)
      obtain ⟨G35, A36, r37, th2_38, rfl, rfl, hW39, hF40, b41, e42, q43⟩ := hq
      have hF44 := Fr_tr hF0 hF40 (Fr_sub (by decide)) (Fr_sub (by decide))
      have bth2_38 : (0 : Int) ≤ th2_38 ∧ th2_38 ≤ 4 := e42 ▸ hW39.1 0
      refine .inr ⟨_, rfl, ?_⟩
      rcases q43 with ⟨rfl, a45, a46⟩ | ⟨rfl, a47, a48, a49⟩ | ⟨rfl, a50, a51, a52, a53⟩ | ⟨rfl, a54, a55, a56, a57⟩
      · have _q : True := trivial
        refine jx_if_ne (pc_q := 26) (tg := 31) rfl rfl rfl (by decide) (by decide) (fun h58 => ?_) (fun h58 => ?_)
        · have _q := h58
          refine jx_rt (v := none) rfl rfl rfl rfl rfl rfl ?_
          exact ⟨_, _, th2_38, sz, rfl, rfl, hW39, hF44, (e42), ((hF40.1 2 rfl).trans (e_sz)), by first | exact Or.inl (⟨by omega, by omega, by omega⟩) | exact Or.inr ((⟨by omega, by omega, by omega, by omega⟩))⟩
        · have _q := h58
          exact absurd h58 (by omega)
      · have _q : True := trivial
        exfalso
        omega
      · have _q : True := trivial
        exfalso
        omega
      · have _q : True := trivial
        exfalso
        omega
set_option maxRecDepth 20000 in
set_option maxHeartbeats 4000000 in
theorem c_put_at_101_32 {X : jX} {d : Nat} {c0 c1 : jC} {G : Nat → Int} {A : Nat → Nat → Int} {T : jH} {sg : Int} {sz : Int} (hd : 3 ≤ d + 1) (hW : Wk G A) (e_sz : G 2 = sz) (h_sg : (-2147483648 : Int) ≤ sg ∧ sg ≤ 2147483647) : ∀ (L : jL) (Gx : Nat → Int) (Ax : Nat → Nat → Int) (sz1 : Int), jGet L 0 = some (.ref 66) → jGet L 1 = some (.int (i32 (sg))) → jGet L 4 = some (.int (i32 (32))) → Wk Gx Ax → Fr [0, 2] [0] G A Gx Ax → Gx 2 = sz1 → Gx 0 = 0 → (0 + snb (bt sg 0) + snb (bt sg 8) + snb (bt sg 16) + snb (bt sg 24) = 0) → (sz1 = sz + 0 + tz (bt sg 0) + tz (bt sg 8) + tz (bt sg 16) + tz (bt sg 24)) → (sz + 0 + tz (bt sg 0) + tz (bt sg 8) + tz (bt sg 16) + tz (bt sg 24) ≤ 3000) → wj X d jm248 (101, L, [], rV c0 c1 Gx Ax T) (fun o V_q => ∃ (G_q : Nat → Int) (A_q : Nat → Nat → Int) (r : Int) (th2 : Int) (sz2 : Int), V_q = rV c0 c1 G_q A_q T ∧ o = .inl (some (.int (i32 r))) ∧ Wk G_q A_q ∧ Fr [0, 2] [0] G A G_q A_q ∧ ((-2147483648 : Int) ≤ r ∧ r ≤ 2147483647) ∧ G_q 0 = th2 ∧ G_q 2 = sz2 ∧ (((r = 0) ∧ (1 ≤ 0 + snb (bt sg 0) + snb (bt sg 8) + snb (bt sg 16) + snb (bt sg 24)) ∧ (th2 = 1) ∧ (sz2 = sz)) ∨ ((r = 0) ∧ (0 + snb (bt sg 0) + snb (bt sg 8) + snb (bt sg 16) + snb (bt sg 24) = 0) ∧ (3000 < sz + 0 + tz (bt sg 0) + tz (bt sg 8) + tz (bt sg 16) + tz (bt sg 24)) ∧ (th2 = 2) ∧ (sz2 = sz)) ∨ ((0 + snb (bt sg 0) + snb (bt sg 8) + snb (bt sg 16) + snb (bt sg 24) = 0) ∧ (sz2 = sz + 0 + tz (bt sg 0) + tz (bt sg 8) + tz (bt sg 16) + tz (bt sg 24)) ∧ (sz2 ≤ 3000) ∧ (r = sz2) ∧ (th2 = 0)))) := by
  have hF0 : Fr [0, 2] [0] G A G A := Fr_rf
  have b_sz : (0 : Int) ≤ sz ∧ sz ≤ 3000 := e_sz ▸ hW.1 2
  intro L Gx Ax sz1 gL_0 gL_1 gL_4 hWx hFx ex_sz1 fx_0 iv_0 iv_1 iv_2
  have b_sz1 : (0 : Int) ≤ sz1 ∧ sz1 ≤ 3000 := ex_sz1 ▸ hWx.1 2
  have ub0 := snb_b (bt sg 0)
  have ut0 := tz_b (bt sg 0)
  have ub8 := snb_b (bt sg 8)
  have ut8 := tz_b (bt sg 8)
  have ub16 := snb_b (bt sg 16)
  have ut16 := tz_b (bt sg 16)
  have ub24 := snb_b (bt sg 24)
  have ut24 := tz_b (bt sg 24)
  refine jx_ld (pc_q := 103) (l_q := L) (st_q := [.int (i32 (32))]) rfl (jl_iload gL_4) ?_
  refine jx_ar (pc_q := 105) (st_q := [.int (i32 (32)), .int (i32 (32))]) rfl rfl rfl rfl ?_
  refine jx_icmp_ge (pc_q := 108) (tg := 150) rfl rfl rfl (by decide) (by decide) (by decide) (by decide) (fun h1 => ?_) (fun h1 => ?_)
  · have _q := h1
    refine jx_ld (pc_q := 151) (l_q := L) (st_q := [.ref 66]) rfl (jl_aloadn gL_0) ?_
    refine jr_get (pc_q := 154) (i := 2) (v := .int (i32 (sz1))) rfl rfl (by decide) (rFv_eq (by decide) (show Gx 2 = sz1 from (ex_sz1))) rfl ?_
    refine jx_rt (v := some (.int (i32 (sz1)))) rfl rfl rfl rfl rfl rfl ?_
    exact ⟨_, _, _, 0, sz1, rfl, rfl, hWx, hFx, by omega, (fx_0), (ex_sz1), by first | exact Or.inl (⟨by omega, by omega, by omega, by omega⟩) | exact Or.inr (Or.inl (⟨by omega, by omega, by omega, by omega, by omega⟩)) | exact Or.inr (Or.inr ((⟨by omega, by omega, by omega, by omega, by omega⟩)))⟩
  · have _q := h1
    exact absurd h1 (by omega)
set_option maxRecDepth 20000 in
set_option maxHeartbeats 4000000 in
theorem c_put_at_101_24 {X : jX} {d : Nat} {c0 c1 : jC} {G : Nat → Int} {A : Nat → Nat → Int} {T : jH} {sg : Int} {sz : Int} (hd : 3 ≤ d + 1) (hW : Wk G A) (e_sz : G 2 = sz) (h_sg : (-2147483648 : Int) ≤ sg ∧ sg ≤ 2147483647) : ∀ (L : jL) (Gx : Nat → Int) (Ax : Nat → Nat → Int) (sz1 : Int), jGet L 0 = some (.ref 66) → jGet L 1 = some (.int (i32 (sg))) → jGet L 4 = some (.int (i32 (24))) → Wk Gx Ax → Fr [0, 2] [0] G A Gx Ax → Gx 2 = sz1 → Gx 0 = 0 → (0 + snb (bt sg 0) + snb (bt sg 8) + snb (bt sg 16) + snb (bt sg 24) = 0) → (sz1 = sz + 0 + tz (bt sg 0) + tz (bt sg 8) + tz (bt sg 16)) → (sz + 0 + tz (bt sg 0) + tz (bt sg 8) + tz (bt sg 16) + tz (bt sg 24) ≤ 3000) → wj X d jm248 (101, L, [], rV c0 c1 Gx Ax T) (fun o V_q => ∃ (G_q : Nat → Int) (A_q : Nat → Nat → Int) (r : Int) (th2 : Int) (sz2 : Int), V_q = rV c0 c1 G_q A_q T ∧ o = .inl (some (.int (i32 r))) ∧ Wk G_q A_q ∧ Fr [0, 2] [0] G A G_q A_q ∧ ((-2147483648 : Int) ≤ r ∧ r ≤ 2147483647) ∧ G_q 0 = th2 ∧ G_q 2 = sz2 ∧ (((r = 0) ∧ (1 ≤ 0 + snb (bt sg 0) + snb (bt sg 8) + snb (bt sg 16) + snb (bt sg 24)) ∧ (th2 = 1) ∧ (sz2 = sz)) ∨ ((r = 0) ∧ (0 + snb (bt sg 0) + snb (bt sg 8) + snb (bt sg 16) + snb (bt sg 24) = 0) ∧ (3000 < sz + 0 + tz (bt sg 0) + tz (bt sg 8) + tz (bt sg 16) + tz (bt sg 24)) ∧ (th2 = 2) ∧ (sz2 = sz)) ∨ ((0 + snb (bt sg 0) + snb (bt sg 8) + snb (bt sg 16) + snb (bt sg 24) = 0) ∧ (sz2 = sz + 0 + tz (bt sg 0) + tz (bt sg 8) + tz (bt sg 16) + tz (bt sg 24)) ∧ (sz2 ≤ 3000) ∧ (r = sz2) ∧ (th2 = 0)))) := by
  have hF0 : Fr [0, 2] [0] G A G A := Fr_rf
  have b_sz : (0 : Int) ≤ sz ∧ sz ≤ 3000 := e_sz ▸ hW.1 2
  intro L Gx Ax sz1 gL_0 gL_1 gL_4 hWx hFx ex_sz1 fx_0 iv_0 iv_1 iv_2
  have b_sz1 : (0 : Int) ≤ sz1 ∧ sz1 ≤ 3000 := ex_sz1 ▸ hWx.1 2
  have ub0 := snb_b (bt sg 0)
  have ut0 := tz_b (bt sg 0)
  have ub8 := snb_b (bt sg 8)
  have ut8 := tz_b (bt sg 8)
  have ub16 := snb_b (bt sg 16)
  have ut16 := tz_b (bt sg 16)
  have ub24 := snb_b (bt sg 24)
  have ut24 := tz_b (bt sg 24)
  refine jx_ld (pc_q := 103) (l_q := L) (st_q := [.int (i32 (24))]) rfl (jl_iload gL_4) ?_
  refine jx_ar (pc_q := 105) (st_q := [.int (i32 (32)), .int (i32 (24))]) rfl rfl rfl rfl ?_
  refine jx_icmp_ge (pc_q := 108) (tg := 150) rfl rfl rfl (by decide) (by decide) (by decide) (by decide) (fun h2 => ?_) (fun h2 => ?_)
  · have _q := h2
    exact absurd h2 (by omega)
  · have _q := h2
    refine jx_ld (pc_q := 109) (l_q := L) (st_q := [.int (i32 (sg))]) rfl (jl_iloadn gL_1) ?_
    refine jx_ld (pc_q := 111) (l_q := L) (st_q := [.int (i32 (24)), .int (i32 (sg))]) rfl (jl_iload gL_4) ?_
    refine jx_shr (pc_q := 112) rfl rfl ?_
    obtain ⟨b3, eb3⟩ : ∃ z, z = (i32 (sg) >>> (i32 (24) &&& 31)).toInt := ⟨_, rfl⟩
    rw [← eb3]
    have rb3 : (-2147483648 : Int) ≤ b3 ∧ b3 ≤ 2147483647 := eb3 ▸ i32_rg _
    refine jx_ar (pc_q := 115) (st_q := [.int (i32 (255)), .int (i32 (b3))]) rfl rfl rfl rfl ?_
    refine jx_and (pc_q := 116) rfl rfl ?_
    obtain ⟨b4, eb4⟩ : ∃ z, z = (i32 (b3) &&& i32 (255)).toInt := ⟨_, rfl⟩
    rw [← eb4]
    have rb4 : (-2147483648 : Int) ≤ b4 ∧ b4 ≤ 2147483647 := eb4 ▸ i32_rg _
    have bq5 : bt sg 24 = b4 := by rw [eb4, eb3]; rfl
    have bq6 := snb_f (bt sg 24)
    have bq7 := tz_f (bt sg 24)
    refine jx_ld (pc_q := 118) (l_q := jSto1 L 5 (.int (i32 (b4)))) (st_q := []) rfl rfl ?_
    obtain ⟨L8, eL8⟩ : ∃ q, q = jSto1 L 5 (.int (i32 (b4))) := ⟨_, rfl⟩
    rw [← eL8]
    have gL8_0 : jGet L8 0 = some (.ref 66) := eL8 ▸ jg_ne (by decide) gL_0 rfl
    have gL8_1 : jGet L8 1 = some (.int (i32 (sg))) := eL8 ▸ jg_ne (by decide) gL_1 rfl
    have gL8_4 : jGet L8 4 = some (.int (i32 (24))) := eL8 ▸ jg_ne (by decide) gL_4 rfl
    have gL8_5 : jGet L8 5 = some (.int (i32 (b4))) := eL8 ▸ jg_eq
    refine jx_ld (pc_q := 120) (l_q := L8) (st_q := [.int (i32 (b4))]) rfl (jl_iload gL8_5) ?_
    refine jx_if_eq (pc_q := 123) (tg := 144) rfl rfl rfl (Int.le_trans (by decide : (-2147483648 : Int) ≤ -2147483648) rb4.1) (Int.le_trans rb4.2 (by decide : (2147483647 : Int) ≤ 2147483647)) (fun h9 => ?_) (fun h9 => ?_)
    · have _q := h9
      refine jx_inc (pc_q := 147) (l_q := jSto1 L8 4 (.int (i32 ((24 + (8)))))) (x := 24) rfl gL8_4 (by decide) rfl rfl ?_
      obtain ⟨L10, eL10⟩ : ∃ q, q = jSto1 L8 4 (.int (i32 ((24 + (8))))) := ⟨_, rfl⟩
      rw [← eL10]
      have gL10_0 : jGet L10 0 = some (.ref 66) := eL10 ▸ jg_ne (by decide) gL8_0 rfl
      have gL10_1 : jGet L10 1 = some (.int (i32 (sg))) := eL10 ▸ jg_ne (by decide) gL8_1 rfl
      have gL10_5 : jGet L10 5 = some (.int (i32 (b4))) := eL10 ▸ jg_ne (by decide) gL8_5 rfl
      have gL10_4 : jGet L10 4 = some (.int (i32 ((24 + (8))))) := eL10 ▸ jg_eq
      refine jx_go (tg := 101) rfl rfl ?_
      exact c_put_at_101_32 (X := X) (d := d) (c0 := c0) (c1 := c1) (G := G) (A := A) (T := T) (sg := sg) (sz := sz) (hd := hd) (hW := hW) (e_sz := e_sz) (h_sg := h_sg) L10 Gx Ax (sz1) gL10_0 gL10_1 gL10_4 hWx hFx ((ex_sz1)) ((fx_0)) (by omega) (by omega) (by omega)
    · have _q := h9
      refine jx_ld (pc_q := 124) (l_q := L8) (st_q := [.ref 66]) rfl (jl_aloadn gL8_0) ?_
      refine jr_get (pc_q := 127) (i := 1) (v := .ref 67) rfl rfl (by decide) rfl rfl ?_
      refine jx_ld (pc_q := 128) (l_q := L8) (st_q := [.ref 66, .ref 67]) rfl (jl_aloadn gL8_0) ?_
      refine jr_get (pc_q := 131) (i := 2) (v := .int (i32 (sz1))) rfl rfl (by decide) (rFv_eq (by decide) (show Gx 2 = sz1 from (ex_sz1))) rfl ?_
      refine jx_ld (pc_q := 133) (l_q := L8) (st_q := [.int (i32 (b4)), .int (i32 (sz1)), .ref 67]) rfl (jl_iload gL8_5) ?_
      refine jr_st (pc_q := 134) (i := 0) (m := 3000) (z := sz1) (y := b4) rfl (by decide) rfl (by decide) (by omega) (by omega) rfl ?_
      have hW12 : Wk Gx (uA Ax 0 (sz1).toNat (b4)) := Wk_a hWx (show (0 : Int) ≤ b4 by omega) (show b4 ≤ (126 : Int) by omega)
      have hF13 := Fr_a (z := b4) (k := 0) (n := (sz1).toNat) hFx (by decide)
      obtain ⟨A11, eA11⟩ : ∃ q, q = uA Ax 0 (sz1).toNat (b4) := ⟨_, rfl⟩
      rw [← eA11]
      rw [← eA11] at hW12 hF13
      have q14 : A11 0 (sz1).toNat = b4 := by rw [eA11]; exact uA_eq
      refine jx_ld (pc_q := 135) (l_q := L8) (st_q := [.ref 66]) rfl (jl_aloadn gL8_0) ?_
      refine jx_ar (pc_q := 136) (st_q := [.ref 66, .ref 66]) rfl rfl rfl rfl ?_
      refine jr_get (pc_q := 139) (i := 2) (v := .int (i32 (sz1))) rfl rfl (by decide) (rFv_eq (by decide) (show Gx 2 = sz1 from (ex_sz1))) rfl ?_
      refine jx_ar (pc_q := 140) (st_q := [.int (i32 (1)), .int (i32 (sz1)), .ref 66]) rfl rfl rfl rfl ?_
      refine jx_add (pc_q := 141) rfl rfl ?_
      refine jr_put (pc_q := 144) (i := 2) (z := (sz1 + 1)) rfl rfl (by decide) rfl rfl rfl rfl rfl rfl ?_
      have hW15 : Wk (uG Gx 2 ((sz1 + 1))) A11 := Wk_g hW12 (show (0 : Int) ≤ (sz1 + 1) by omega) (show (sz1 + 1) ≤ (3000 : Int) by omega)
      have hF16 := Fr_g (z := (sz1 + 1)) (i := 2) hF13 (by decide)
      refine jx_inc (pc_q := 147) (l_q := jSto1 L8 4 (.int (i32 ((24 + (8)))))) (x := 24) rfl gL8_4 (by decide) rfl rfl ?_
      obtain ⟨L17, eL17⟩ : ∃ q, q = jSto1 L8 4 (.int (i32 ((24 + (8))))) := ⟨_, rfl⟩
      rw [← eL17]
      have gL17_0 : jGet L17 0 = some (.ref 66) := eL17 ▸ jg_ne (by decide) gL8_0 rfl
      have gL17_1 : jGet L17 1 = some (.int (i32 (sg))) := eL17 ▸ jg_ne (by decide) gL8_1 rfl
      have gL17_5 : jGet L17 5 = some (.int (i32 (b4))) := eL17 ▸ jg_ne (by decide) gL8_5 rfl
      have gL17_4 : jGet L17 4 = some (.int (i32 ((24 + (8))))) := eL17 ▸ jg_eq
      refine jx_go (tg := 101) rfl rfl ?_
      exact c_put_at_101_32 (X := X) (d := d) (c0 := c0) (c1 := c1) (G := G) (A := A) (T := T) (sg := sg) (sz := sz) (hd := hd) (hW := hW) (e_sz := e_sz) (h_sg := h_sg) L17 (uG Gx 2 ((sz1 + 1))) A11 ((sz1 + 1)) gL17_0 gL17_1 gL17_4 hW15 hF16 (rfl) ((fx_0)) (by omega) (by omega) (by omega)
set_option maxRecDepth 20000 in
set_option maxHeartbeats 4000000 in
theorem c_put_at_101_16 {X : jX} {d : Nat} {c0 c1 : jC} {G : Nat → Int} {A : Nat → Nat → Int} {T : jH} {sg : Int} {sz : Int} (hd : 3 ≤ d + 1) (hW : Wk G A) (e_sz : G 2 = sz) (h_sg : (-2147483648 : Int) ≤ sg ∧ sg ≤ 2147483647) : ∀ (L : jL) (Gx : Nat → Int) (Ax : Nat → Nat → Int) (sz1 : Int), jGet L 0 = some (.ref 66) → jGet L 1 = some (.int (i32 (sg))) → jGet L 4 = some (.int (i32 (16))) → Wk Gx Ax → Fr [0, 2] [0] G A Gx Ax → Gx 2 = sz1 → Gx 0 = 0 → (0 + snb (bt sg 0) + snb (bt sg 8) + snb (bt sg 16) + snb (bt sg 24) = 0) → (sz1 = sz + 0 + tz (bt sg 0) + tz (bt sg 8)) → (sz + 0 + tz (bt sg 0) + tz (bt sg 8) + tz (bt sg 16) + tz (bt sg 24) ≤ 3000) → wj X d jm248 (101, L, [], rV c0 c1 Gx Ax T) (fun o V_q => ∃ (G_q : Nat → Int) (A_q : Nat → Nat → Int) (r : Int) (th2 : Int) (sz2 : Int), V_q = rV c0 c1 G_q A_q T ∧ o = .inl (some (.int (i32 r))) ∧ Wk G_q A_q ∧ Fr [0, 2] [0] G A G_q A_q ∧ ((-2147483648 : Int) ≤ r ∧ r ≤ 2147483647) ∧ G_q 0 = th2 ∧ G_q 2 = sz2 ∧ (((r = 0) ∧ (1 ≤ 0 + snb (bt sg 0) + snb (bt sg 8) + snb (bt sg 16) + snb (bt sg 24)) ∧ (th2 = 1) ∧ (sz2 = sz)) ∨ ((r = 0) ∧ (0 + snb (bt sg 0) + snb (bt sg 8) + snb (bt sg 16) + snb (bt sg 24) = 0) ∧ (3000 < sz + 0 + tz (bt sg 0) + tz (bt sg 8) + tz (bt sg 16) + tz (bt sg 24)) ∧ (th2 = 2) ∧ (sz2 = sz)) ∨ ((0 + snb (bt sg 0) + snb (bt sg 8) + snb (bt sg 16) + snb (bt sg 24) = 0) ∧ (sz2 = sz + 0 + tz (bt sg 0) + tz (bt sg 8) + tz (bt sg 16) + tz (bt sg 24)) ∧ (sz2 ≤ 3000) ∧ (r = sz2) ∧ (th2 = 0)))) := by
  have hF0 : Fr [0, 2] [0] G A G A := Fr_rf
  have b_sz : (0 : Int) ≤ sz ∧ sz ≤ 3000 := e_sz ▸ hW.1 2
  intro L Gx Ax sz1 gL_0 gL_1 gL_4 hWx hFx ex_sz1 fx_0 iv_0 iv_1 iv_2
  have b_sz1 : (0 : Int) ≤ sz1 ∧ sz1 ≤ 3000 := ex_sz1 ▸ hWx.1 2
  have ub0 := snb_b (bt sg 0)
  have ut0 := tz_b (bt sg 0)
  have ub8 := snb_b (bt sg 8)
  have ut8 := tz_b (bt sg 8)
  have ub16 := snb_b (bt sg 16)
  have ut16 := tz_b (bt sg 16)
  have ub24 := snb_b (bt sg 24)
  have ut24 := tz_b (bt sg 24)
  refine jx_ld (pc_q := 103) (l_q := L) (st_q := [.int (i32 (16))]) rfl (jl_iload gL_4) ?_
  refine jx_ar (pc_q := 105) (st_q := [.int (i32 (32)), .int (i32 (16))]) rfl rfl rfl rfl ?_
  refine jx_icmp_ge (pc_q := 108) (tg := 150) rfl rfl rfl (by decide) (by decide) (by decide) (by decide) (fun h18 => ?_) (fun h18 => ?_)
  · have _q := h18
    exact absurd h18 (by omega)
  · have _q := h18
    refine jx_ld (pc_q := 109) (l_q := L) (st_q := [.int (i32 (sg))]) rfl (jl_iloadn gL_1) ?_
    refine jx_ld (pc_q := 111) (l_q := L) (st_q := [.int (i32 (16)), .int (i32 (sg))]) rfl (jl_iload gL_4) ?_
    refine jx_shr (pc_q := 112) rfl rfl ?_
    obtain ⟨b19, eb19⟩ : ∃ z, z = (i32 (sg) >>> (i32 (16) &&& 31)).toInt := ⟨_, rfl⟩
    rw [← eb19]
    have rb19 : (-2147483648 : Int) ≤ b19 ∧ b19 ≤ 2147483647 := eb19 ▸ i32_rg _
    refine jx_ar (pc_q := 115) (st_q := [.int (i32 (255)), .int (i32 (b19))]) rfl rfl rfl rfl ?_
    refine jx_and (pc_q := 116) rfl rfl ?_
    obtain ⟨b20, eb20⟩ : ∃ z, z = (i32 (b19) &&& i32 (255)).toInt := ⟨_, rfl⟩
    rw [← eb20]
    have rb20 : (-2147483648 : Int) ≤ b20 ∧ b20 ≤ 2147483647 := eb20 ▸ i32_rg _
    have bq21 : bt sg 16 = b20 := by rw [eb20, eb19]; rfl
    have bq22 := snb_f (bt sg 16)
    have bq23 := tz_f (bt sg 16)
    refine jx_ld (pc_q := 118) (l_q := jSto1 L 5 (.int (i32 (b20)))) (st_q := []) rfl rfl ?_
    obtain ⟨L24, eL24⟩ : ∃ q, q = jSto1 L 5 (.int (i32 (b20))) := ⟨_, rfl⟩
    rw [← eL24]
    have gL24_0 : jGet L24 0 = some (.ref 66) := eL24 ▸ jg_ne (by decide) gL_0 rfl
    have gL24_1 : jGet L24 1 = some (.int (i32 (sg))) := eL24 ▸ jg_ne (by decide) gL_1 rfl
    have gL24_4 : jGet L24 4 = some (.int (i32 (16))) := eL24 ▸ jg_ne (by decide) gL_4 rfl
    have gL24_5 : jGet L24 5 = some (.int (i32 (b20))) := eL24 ▸ jg_eq
    refine jx_ld (pc_q := 120) (l_q := L24) (st_q := [.int (i32 (b20))]) rfl (jl_iload gL24_5) ?_
    refine jx_if_eq (pc_q := 123) (tg := 144) rfl rfl rfl (Int.le_trans (by decide : (-2147483648 : Int) ≤ -2147483648) rb20.1) (Int.le_trans rb20.2 (by decide : (2147483647 : Int) ≤ 2147483647)) (fun h25 => ?_) (fun h25 => ?_)
    · have _q := h25
      refine jx_inc (pc_q := 147) (l_q := jSto1 L24 4 (.int (i32 ((16 + (8)))))) (x := 16) rfl gL24_4 (by decide) rfl rfl ?_
      obtain ⟨L26, eL26⟩ : ∃ q, q = jSto1 L24 4 (.int (i32 ((16 + (8))))) := ⟨_, rfl⟩
      rw [← eL26]
      have gL26_0 : jGet L26 0 = some (.ref 66) := eL26 ▸ jg_ne (by decide) gL24_0 rfl
      have gL26_1 : jGet L26 1 = some (.int (i32 (sg))) := eL26 ▸ jg_ne (by decide) gL24_1 rfl
      have gL26_5 : jGet L26 5 = some (.int (i32 (b20))) := eL26 ▸ jg_ne (by decide) gL24_5 rfl
      have gL26_4 : jGet L26 4 = some (.int (i32 ((16 + (8))))) := eL26 ▸ jg_eq
      refine jx_go (tg := 101) rfl rfl ?_
      exact c_put_at_101_24 (X := X) (d := d) (c0 := c0) (c1 := c1) (G := G) (A := A) (T := T) (sg := sg) (sz := sz) (hd := hd) (hW := hW) (e_sz := e_sz) (h_sg := h_sg) L26 Gx Ax (sz1) gL26_0 gL26_1 gL26_4 hWx hFx ((ex_sz1)) ((fx_0)) (by omega) (by omega) (by omega)
    · have _q := h25
      refine jx_ld (pc_q := 124) (l_q := L24) (st_q := [.ref 66]) rfl (jl_aloadn gL24_0) ?_
      refine jr_get (pc_q := 127) (i := 1) (v := .ref 67) rfl rfl (by decide) rfl rfl ?_
      refine jx_ld (pc_q := 128) (l_q := L24) (st_q := [.ref 66, .ref 67]) rfl (jl_aloadn gL24_0) ?_
      refine jr_get (pc_q := 131) (i := 2) (v := .int (i32 (sz1))) rfl rfl (by decide) (rFv_eq (by decide) (show Gx 2 = sz1 from (ex_sz1))) rfl ?_
      refine jx_ld (pc_q := 133) (l_q := L24) (st_q := [.int (i32 (b20)), .int (i32 (sz1)), .ref 67]) rfl (jl_iload gL24_5) ?_
      refine jr_st (pc_q := 134) (i := 0) (m := 3000) (z := sz1) (y := b20) rfl (by decide) rfl (by decide) (by omega) (by omega) rfl ?_
      have hW28 : Wk Gx (uA Ax 0 (sz1).toNat (b20)) := Wk_a hWx (show (0 : Int) ≤ b20 by omega) (show b20 ≤ (126 : Int) by omega)
      have hF29 := Fr_a (z := b20) (k := 0) (n := (sz1).toNat) hFx (by decide)
      obtain ⟨A27, eA27⟩ : ∃ q, q = uA Ax 0 (sz1).toNat (b20) := ⟨_, rfl⟩
      rw [← eA27]
      rw [← eA27] at hW28 hF29
      have q30 : A27 0 (sz1).toNat = b20 := by rw [eA27]; exact uA_eq
      refine jx_ld (pc_q := 135) (l_q := L24) (st_q := [.ref 66]) rfl (jl_aloadn gL24_0) ?_
      refine jx_ar (pc_q := 136) (st_q := [.ref 66, .ref 66]) rfl rfl rfl rfl ?_
      refine jr_get (pc_q := 139) (i := 2) (v := .int (i32 (sz1))) rfl rfl (by decide) (rFv_eq (by decide) (show Gx 2 = sz1 from (ex_sz1))) rfl ?_
      refine jx_ar (pc_q := 140) (st_q := [.int (i32 (1)), .int (i32 (sz1)), .ref 66]) rfl rfl rfl rfl ?_
      refine jx_add (pc_q := 141) rfl rfl ?_
      refine jr_put (pc_q := 144) (i := 2) (z := (sz1 + 1)) rfl rfl (by decide) rfl rfl rfl rfl rfl rfl ?_
      have hW31 : Wk (uG Gx 2 ((sz1 + 1))) A27 := Wk_g hW28 (show (0 : Int) ≤ (sz1 + 1) by omega) (show (sz1 + 1) ≤ (3000 : Int) by omega)
      have hF32 := Fr_g (z := (sz1 + 1)) (i := 2) hF29 (by decide)
      refine jx_inc (pc_q := 147) (l_q := jSto1 L24 4 (.int (i32 ((16 + (8)))))) (x := 16) rfl gL24_4 (by decide) rfl rfl ?_
      obtain ⟨L33, eL33⟩ : ∃ q, q = jSto1 L24 4 (.int (i32 ((16 + (8))))) := ⟨_, rfl⟩
      rw [← eL33]
      have gL33_0 : jGet L33 0 = some (.ref 66) := eL33 ▸ jg_ne (by decide) gL24_0 rfl
      have gL33_1 : jGet L33 1 = some (.int (i32 (sg))) := eL33 ▸ jg_ne (by decide) gL24_1 rfl
      have gL33_5 : jGet L33 5 = some (.int (i32 (b20))) := eL33 ▸ jg_ne (by decide) gL24_5 rfl
      have gL33_4 : jGet L33 4 = some (.int (i32 ((16 + (8))))) := eL33 ▸ jg_eq
      refine jx_go (tg := 101) rfl rfl ?_
      exact c_put_at_101_24 (X := X) (d := d) (c0 := c0) (c1 := c1) (G := G) (A := A) (T := T) (sg := sg) (sz := sz) (hd := hd) (hW := hW) (e_sz := e_sz) (h_sg := h_sg) L33 (uG Gx 2 ((sz1 + 1))) A27 ((sz1 + 1)) gL33_0 gL33_1 gL33_4 hW31 hF32 (rfl) ((fx_0)) (by omega) (by omega) (by omega)
set_option maxRecDepth 20000 in
set_option maxHeartbeats 4000000 in
theorem c_put_at_101_8 {X : jX} {d : Nat} {c0 c1 : jC} {G : Nat → Int} {A : Nat → Nat → Int} {T : jH} {sg : Int} {sz : Int} (hd : 3 ≤ d + 1) (hW : Wk G A) (e_sz : G 2 = sz) (h_sg : (-2147483648 : Int) ≤ sg ∧ sg ≤ 2147483647) : ∀ (L : jL) (Gx : Nat → Int) (Ax : Nat → Nat → Int) (sz1 : Int), jGet L 0 = some (.ref 66) → jGet L 1 = some (.int (i32 (sg))) → jGet L 4 = some (.int (i32 (8))) → Wk Gx Ax → Fr [0, 2] [0] G A Gx Ax → Gx 2 = sz1 → Gx 0 = 0 → (0 + snb (bt sg 0) + snb (bt sg 8) + snb (bt sg 16) + snb (bt sg 24) = 0) → (sz1 = sz + 0 + tz (bt sg 0)) → (sz + 0 + tz (bt sg 0) + tz (bt sg 8) + tz (bt sg 16) + tz (bt sg 24) ≤ 3000) → wj X d jm248 (101, L, [], rV c0 c1 Gx Ax T) (fun o V_q => ∃ (G_q : Nat → Int) (A_q : Nat → Nat → Int) (r : Int) (th2 : Int) (sz2 : Int), V_q = rV c0 c1 G_q A_q T ∧ o = .inl (some (.int (i32 r))) ∧ Wk G_q A_q ∧ Fr [0, 2] [0] G A G_q A_q ∧ ((-2147483648 : Int) ≤ r ∧ r ≤ 2147483647) ∧ G_q 0 = th2 ∧ G_q 2 = sz2 ∧ (((r = 0) ∧ (1 ≤ 0 + snb (bt sg 0) + snb (bt sg 8) + snb (bt sg 16) + snb (bt sg 24)) ∧ (th2 = 1) ∧ (sz2 = sz)) ∨ ((r = 0) ∧ (0 + snb (bt sg 0) + snb (bt sg 8) + snb (bt sg 16) + snb (bt sg 24) = 0) ∧ (3000 < sz + 0 + tz (bt sg 0) + tz (bt sg 8) + tz (bt sg 16) + tz (bt sg 24)) ∧ (th2 = 2) ∧ (sz2 = sz)) ∨ ((0 + snb (bt sg 0) + snb (bt sg 8) + snb (bt sg 16) + snb (bt sg 24) = 0) ∧ (sz2 = sz + 0 + tz (bt sg 0) + tz (bt sg 8) + tz (bt sg 16) + tz (bt sg 24)) ∧ (sz2 ≤ 3000) ∧ (r = sz2) ∧ (th2 = 0)))) := by
  have hF0 : Fr [0, 2] [0] G A G A := Fr_rf
  have b_sz : (0 : Int) ≤ sz ∧ sz ≤ 3000 := e_sz ▸ hW.1 2
  intro L Gx Ax sz1 gL_0 gL_1 gL_4 hWx hFx ex_sz1 fx_0 iv_0 iv_1 iv_2
  have b_sz1 : (0 : Int) ≤ sz1 ∧ sz1 ≤ 3000 := ex_sz1 ▸ hWx.1 2
  have ub0 := snb_b (bt sg 0)
  have ut0 := tz_b (bt sg 0)
  have ub8 := snb_b (bt sg 8)
  have ut8 := tz_b (bt sg 8)
  have ub16 := snb_b (bt sg 16)
  have ut16 := tz_b (bt sg 16)
  have ub24 := snb_b (bt sg 24)
  have ut24 := tz_b (bt sg 24)
  refine jx_ld (pc_q := 103) (l_q := L) (st_q := [.int (i32 (8))]) rfl (jl_iload gL_4) ?_
  refine jx_ar (pc_q := 105) (st_q := [.int (i32 (32)), .int (i32 (8))]) rfl rfl rfl rfl ?_
  refine jx_icmp_ge (pc_q := 108) (tg := 150) rfl rfl rfl (by decide) (by decide) (by decide) (by decide) (fun h34 => ?_) (fun h34 => ?_)
  · have _q := h34
    exact absurd h34 (by omega)
  · have _q := h34
    refine jx_ld (pc_q := 109) (l_q := L) (st_q := [.int (i32 (sg))]) rfl (jl_iloadn gL_1) ?_
    refine jx_ld (pc_q := 111) (l_q := L) (st_q := [.int (i32 (8)), .int (i32 (sg))]) rfl (jl_iload gL_4) ?_
    refine jx_shr (pc_q := 112) rfl rfl ?_
    obtain ⟨b35, eb35⟩ : ∃ z, z = (i32 (sg) >>> (i32 (8) &&& 31)).toInt := ⟨_, rfl⟩
    rw [← eb35]
    have rb35 : (-2147483648 : Int) ≤ b35 ∧ b35 ≤ 2147483647 := eb35 ▸ i32_rg _
    refine jx_ar (pc_q := 115) (st_q := [.int (i32 (255)), .int (i32 (b35))]) rfl rfl rfl rfl ?_
    refine jx_and (pc_q := 116) rfl rfl ?_
    obtain ⟨b36, eb36⟩ : ∃ z, z = (i32 (b35) &&& i32 (255)).toInt := ⟨_, rfl⟩
    rw [← eb36]
    have rb36 : (-2147483648 : Int) ≤ b36 ∧ b36 ≤ 2147483647 := eb36 ▸ i32_rg _
    have bq37 : bt sg 8 = b36 := by rw [eb36, eb35]; rfl
    have bq38 := snb_f (bt sg 8)
    have bq39 := tz_f (bt sg 8)
    refine jx_ld (pc_q := 118) (l_q := jSto1 L 5 (.int (i32 (b36)))) (st_q := []) rfl rfl ?_
    obtain ⟨L40, eL40⟩ : ∃ q, q = jSto1 L 5 (.int (i32 (b36))) := ⟨_, rfl⟩
    rw [← eL40]
    have gL40_0 : jGet L40 0 = some (.ref 66) := eL40 ▸ jg_ne (by decide) gL_0 rfl
    have gL40_1 : jGet L40 1 = some (.int (i32 (sg))) := eL40 ▸ jg_ne (by decide) gL_1 rfl
    have gL40_4 : jGet L40 4 = some (.int (i32 (8))) := eL40 ▸ jg_ne (by decide) gL_4 rfl
    have gL40_5 : jGet L40 5 = some (.int (i32 (b36))) := eL40 ▸ jg_eq
    refine jx_ld (pc_q := 120) (l_q := L40) (st_q := [.int (i32 (b36))]) rfl (jl_iload gL40_5) ?_
    refine jx_if_eq (pc_q := 123) (tg := 144) rfl rfl rfl (Int.le_trans (by decide : (-2147483648 : Int) ≤ -2147483648) rb36.1) (Int.le_trans rb36.2 (by decide : (2147483647 : Int) ≤ 2147483647)) (fun h41 => ?_) (fun h41 => ?_)
    · have _q := h41
      refine jx_inc (pc_q := 147) (l_q := jSto1 L40 4 (.int (i32 ((8 + (8)))))) (x := 8) rfl gL40_4 (by decide) rfl rfl ?_
      obtain ⟨L42, eL42⟩ : ∃ q, q = jSto1 L40 4 (.int (i32 ((8 + (8))))) := ⟨_, rfl⟩
      rw [← eL42]
      have gL42_0 : jGet L42 0 = some (.ref 66) := eL42 ▸ jg_ne (by decide) gL40_0 rfl
      have gL42_1 : jGet L42 1 = some (.int (i32 (sg))) := eL42 ▸ jg_ne (by decide) gL40_1 rfl
      have gL42_5 : jGet L42 5 = some (.int (i32 (b36))) := eL42 ▸ jg_ne (by decide) gL40_5 rfl
      have gL42_4 : jGet L42 4 = some (.int (i32 ((8 + (8))))) := eL42 ▸ jg_eq
      refine jx_go (tg := 101) rfl rfl ?_
      exact c_put_at_101_16 (X := X) (d := d) (c0 := c0) (c1 := c1) (G := G) (A := A) (T := T) (sg := sg) (sz := sz) (hd := hd) (hW := hW) (e_sz := e_sz) (h_sg := h_sg) L42 Gx Ax (sz1) gL42_0 gL42_1 gL42_4 hWx hFx ((ex_sz1)) ((fx_0)) (by omega) (by omega) (by omega)
    · have _q := h41
      refine jx_ld (pc_q := 124) (l_q := L40) (st_q := [.ref 66]) rfl (jl_aloadn gL40_0) ?_
      refine jr_get (pc_q := 127) (i := 1) (v := .ref 67) rfl rfl (by decide) rfl rfl ?_
      refine jx_ld (pc_q := 128) (l_q := L40) (st_q := [.ref 66, .ref 67]) rfl (jl_aloadn gL40_0) ?_
      refine jr_get (pc_q := 131) (i := 2) (v := .int (i32 (sz1))) rfl rfl (by decide) (rFv_eq (by decide) (show Gx 2 = sz1 from (ex_sz1))) rfl ?_
      refine jx_ld (pc_q := 133) (l_q := L40) (st_q := [.int (i32 (b36)), .int (i32 (sz1)), .ref 67]) rfl (jl_iload gL40_5) ?_
      refine jr_st (pc_q := 134) (i := 0) (m := 3000) (z := sz1) (y := b36) rfl (by decide) rfl (by decide) (by omega) (by omega) rfl ?_
      have hW44 : Wk Gx (uA Ax 0 (sz1).toNat (b36)) := Wk_a hWx (show (0 : Int) ≤ b36 by omega) (show b36 ≤ (126 : Int) by omega)
      have hF45 := Fr_a (z := b36) (k := 0) (n := (sz1).toNat) hFx (by decide)
      obtain ⟨A43, eA43⟩ : ∃ q, q = uA Ax 0 (sz1).toNat (b36) := ⟨_, rfl⟩
      rw [← eA43]
      rw [← eA43] at hW44 hF45
      have q46 : A43 0 (sz1).toNat = b36 := by rw [eA43]; exact uA_eq
      refine jx_ld (pc_q := 135) (l_q := L40) (st_q := [.ref 66]) rfl (jl_aloadn gL40_0) ?_
      refine jx_ar (pc_q := 136) (st_q := [.ref 66, .ref 66]) rfl rfl rfl rfl ?_
      refine jr_get (pc_q := 139) (i := 2) (v := .int (i32 (sz1))) rfl rfl (by decide) (rFv_eq (by decide) (show Gx 2 = sz1 from (ex_sz1))) rfl ?_
      refine jx_ar (pc_q := 140) (st_q := [.int (i32 (1)), .int (i32 (sz1)), .ref 66]) rfl rfl rfl rfl ?_
      refine jx_add (pc_q := 141) rfl rfl ?_
      refine jr_put (pc_q := 144) (i := 2) (z := (sz1 + 1)) rfl rfl (by decide) rfl rfl rfl rfl rfl rfl ?_
      have hW47 : Wk (uG Gx 2 ((sz1 + 1))) A43 := Wk_g hW44 (show (0 : Int) ≤ (sz1 + 1) by omega) (show (sz1 + 1) ≤ (3000 : Int) by omega)
      have hF48 := Fr_g (z := (sz1 + 1)) (i := 2) hF45 (by decide)
      refine jx_inc (pc_q := 147) (l_q := jSto1 L40 4 (.int (i32 ((8 + (8)))))) (x := 8) rfl gL40_4 (by decide) rfl rfl ?_
      obtain ⟨L49, eL49⟩ : ∃ q, q = jSto1 L40 4 (.int (i32 ((8 + (8))))) := ⟨_, rfl⟩
      rw [← eL49]
      have gL49_0 : jGet L49 0 = some (.ref 66) := eL49 ▸ jg_ne (by decide) gL40_0 rfl
      have gL49_1 : jGet L49 1 = some (.int (i32 (sg))) := eL49 ▸ jg_ne (by decide) gL40_1 rfl
      have gL49_5 : jGet L49 5 = some (.int (i32 (b36))) := eL49 ▸ jg_ne (by decide) gL40_5 rfl
      have gL49_4 : jGet L49 4 = some (.int (i32 ((8 + (8))))) := eL49 ▸ jg_eq
      refine jx_go (tg := 101) rfl rfl ?_
      exact c_put_at_101_16 (X := X) (d := d) (c0 := c0) (c1 := c1) (G := G) (A := A) (T := T) (sg := sg) (sz := sz) (hd := hd) (hW := hW) (e_sz := e_sz) (h_sg := h_sg) L49 (uG Gx 2 ((sz1 + 1))) A43 ((sz1 + 1)) gL49_0 gL49_1 gL49_4 hW47 hF48 (rfl) ((fx_0)) (by omega) (by omega) (by omega)
set_option maxRecDepth 20000 in
set_option maxHeartbeats 4000000 in
theorem c_put_at_101_0 {X : jX} {d : Nat} {c0 c1 : jC} {G : Nat → Int} {A : Nat → Nat → Int} {T : jH} {sg : Int} {sz : Int} (hd : 3 ≤ d + 1) (hW : Wk G A) (e_sz : G 2 = sz) (h_sg : (-2147483648 : Int) ≤ sg ∧ sg ≤ 2147483647) : ∀ (L : jL) (Gx : Nat → Int) (Ax : Nat → Nat → Int) (sz1 : Int), jGet L 0 = some (.ref 66) → jGet L 1 = some (.int (i32 (sg))) → jGet L 4 = some (.int (i32 (0))) → Wk Gx Ax → Fr [0, 2] [0] G A Gx Ax → Gx 2 = sz1 → Gx 0 = 0 → (0 + snb (bt sg 0) + snb (bt sg 8) + snb (bt sg 16) + snb (bt sg 24) = 0) → (sz1 = sz + 0) → (sz + 0 + tz (bt sg 0) + tz (bt sg 8) + tz (bt sg 16) + tz (bt sg 24) ≤ 3000) → wj X d jm248 (101, L, [], rV c0 c1 Gx Ax T) (fun o V_q => ∃ (G_q : Nat → Int) (A_q : Nat → Nat → Int) (r : Int) (th2 : Int) (sz2 : Int), V_q = rV c0 c1 G_q A_q T ∧ o = .inl (some (.int (i32 r))) ∧ Wk G_q A_q ∧ Fr [0, 2] [0] G A G_q A_q ∧ ((-2147483648 : Int) ≤ r ∧ r ≤ 2147483647) ∧ G_q 0 = th2 ∧ G_q 2 = sz2 ∧ (((r = 0) ∧ (1 ≤ 0 + snb (bt sg 0) + snb (bt sg 8) + snb (bt sg 16) + snb (bt sg 24)) ∧ (th2 = 1) ∧ (sz2 = sz)) ∨ ((r = 0) ∧ (0 + snb (bt sg 0) + snb (bt sg 8) + snb (bt sg 16) + snb (bt sg 24) = 0) ∧ (3000 < sz + 0 + tz (bt sg 0) + tz (bt sg 8) + tz (bt sg 16) + tz (bt sg 24)) ∧ (th2 = 2) ∧ (sz2 = sz)) ∨ ((0 + snb (bt sg 0) + snb (bt sg 8) + snb (bt sg 16) + snb (bt sg 24) = 0) ∧ (sz2 = sz + 0 + tz (bt sg 0) + tz (bt sg 8) + tz (bt sg 16) + tz (bt sg 24)) ∧ (sz2 ≤ 3000) ∧ (r = sz2) ∧ (th2 = 0)))) := by
  have hF0 : Fr [0, 2] [0] G A G A := Fr_rf
  have b_sz : (0 : Int) ≤ sz ∧ sz ≤ 3000 := e_sz ▸ hW.1 2
  intro L Gx Ax sz1 gL_0 gL_1 gL_4 hWx hFx ex_sz1 fx_0 iv_0 iv_1 iv_2
  have b_sz1 : (0 : Int) ≤ sz1 ∧ sz1 ≤ 3000 := ex_sz1 ▸ hWx.1 2
  have ub0 := snb_b (bt sg 0)
  have ut0 := tz_b (bt sg 0)
  have ub8 := snb_b (bt sg 8)
  have ut8 := tz_b (bt sg 8)
  have ub16 := snb_b (bt sg 16)
  have ut16 := tz_b (bt sg 16)
  have ub24 := snb_b (bt sg 24)
  have ut24 := tz_b (bt sg 24)
  refine jx_ld (pc_q := 103) (l_q := L) (st_q := [.int (i32 (0))]) rfl (jl_iload gL_4) ?_
  refine jx_ar (pc_q := 105) (st_q := [.int (i32 (32)), .int (i32 (0))]) rfl rfl rfl rfl ?_
  refine jx_icmp_ge (pc_q := 108) (tg := 150) rfl rfl rfl (by decide) (by decide) (by decide) (by decide) (fun h50 => ?_) (fun h50 => ?_)
  · have _q := h50
    exact absurd h50 (by omega)
  · have _q := h50
    refine jx_ld (pc_q := 109) (l_q := L) (st_q := [.int (i32 (sg))]) rfl (jl_iloadn gL_1) ?_
    refine jx_ld (pc_q := 111) (l_q := L) (st_q := [.int (i32 (0)), .int (i32 (sg))]) rfl (jl_iload gL_4) ?_
    refine jx_shr (pc_q := 112) rfl rfl ?_
    obtain ⟨b51, eb51⟩ : ∃ z, z = (i32 (sg) >>> (i32 (0) &&& 31)).toInt := ⟨_, rfl⟩
    rw [← eb51]
    have rb51 : (-2147483648 : Int) ≤ b51 ∧ b51 ≤ 2147483647 := eb51 ▸ i32_rg _
    refine jx_ar (pc_q := 115) (st_q := [.int (i32 (255)), .int (i32 (b51))]) rfl rfl rfl rfl ?_
    refine jx_and (pc_q := 116) rfl rfl ?_
    obtain ⟨b52, eb52⟩ : ∃ z, z = (i32 (b51) &&& i32 (255)).toInt := ⟨_, rfl⟩
    rw [← eb52]
    have rb52 : (-2147483648 : Int) ≤ b52 ∧ b52 ≤ 2147483647 := eb52 ▸ i32_rg _
    have bq53 : bt sg 0 = b52 := by rw [eb52, eb51]; rfl
    have bq54 := snb_f (bt sg 0)
    have bq55 := tz_f (bt sg 0)
    refine jx_ld (pc_q := 118) (l_q := jSto1 L 5 (.int (i32 (b52)))) (st_q := []) rfl rfl ?_
    obtain ⟨L56, eL56⟩ : ∃ q, q = jSto1 L 5 (.int (i32 (b52))) := ⟨_, rfl⟩
    rw [← eL56]
    have gL56_0 : jGet L56 0 = some (.ref 66) := eL56 ▸ jg_ne (by decide) gL_0 rfl
    have gL56_1 : jGet L56 1 = some (.int (i32 (sg))) := eL56 ▸ jg_ne (by decide) gL_1 rfl
    have gL56_4 : jGet L56 4 = some (.int (i32 (0))) := eL56 ▸ jg_ne (by decide) gL_4 rfl
    have gL56_5 : jGet L56 5 = some (.int (i32 (b52))) := eL56 ▸ jg_eq
    refine jx_ld (pc_q := 120) (l_q := L56) (st_q := [.int (i32 (b52))]) rfl (jl_iload gL56_5) ?_
    refine jx_if_eq (pc_q := 123) (tg := 144) rfl rfl rfl (Int.le_trans (by decide : (-2147483648 : Int) ≤ -2147483648) rb52.1) (Int.le_trans rb52.2 (by decide : (2147483647 : Int) ≤ 2147483647)) (fun h57 => ?_) (fun h57 => ?_)
    · have _q := h57
      refine jx_inc (pc_q := 147) (l_q := jSto1 L56 4 (.int (i32 ((0 + (8)))))) (x := 0) rfl gL56_4 (by decide) rfl rfl ?_
      obtain ⟨L58, eL58⟩ : ∃ q, q = jSto1 L56 4 (.int (i32 ((0 + (8))))) := ⟨_, rfl⟩
      rw [← eL58]
      have gL58_0 : jGet L58 0 = some (.ref 66) := eL58 ▸ jg_ne (by decide) gL56_0 rfl
      have gL58_1 : jGet L58 1 = some (.int (i32 (sg))) := eL58 ▸ jg_ne (by decide) gL56_1 rfl
      have gL58_5 : jGet L58 5 = some (.int (i32 (b52))) := eL58 ▸ jg_ne (by decide) gL56_5 rfl
      have gL58_4 : jGet L58 4 = some (.int (i32 ((0 + (8))))) := eL58 ▸ jg_eq
      refine jx_go (tg := 101) rfl rfl ?_
      exact c_put_at_101_8 (X := X) (d := d) (c0 := c0) (c1 := c1) (G := G) (A := A) (T := T) (sg := sg) (sz := sz) (hd := hd) (hW := hW) (e_sz := e_sz) (h_sg := h_sg) L58 Gx Ax (sz1) gL58_0 gL58_1 gL58_4 hWx hFx ((ex_sz1)) ((fx_0)) (by omega) (by omega) (by omega)
    · have _q := h57
      refine jx_ld (pc_q := 124) (l_q := L56) (st_q := [.ref 66]) rfl (jl_aloadn gL56_0) ?_
      refine jr_get (pc_q := 127) (i := 1) (v := .ref 67) rfl rfl (by decide) rfl rfl ?_
      refine jx_ld (pc_q := 128) (l_q := L56) (st_q := [.ref 66, .ref 67]) rfl (jl_aloadn gL56_0) ?_
      refine jr_get (pc_q := 131) (i := 2) (v := .int (i32 (sz1))) rfl rfl (by decide) (rFv_eq (by decide) (show Gx 2 = sz1 from (ex_sz1))) rfl ?_
      refine jx_ld (pc_q := 133) (l_q := L56) (st_q := [.int (i32 (b52)), .int (i32 (sz1)), .ref 67]) rfl (jl_iload gL56_5) ?_
      refine jr_st (pc_q := 134) (i := 0) (m := 3000) (z := sz1) (y := b52) rfl (by decide) rfl (by decide) (by omega) (by omega) rfl ?_
      have hW60 : Wk Gx (uA Ax 0 (sz1).toNat (b52)) := Wk_a hWx (show (0 : Int) ≤ b52 by omega) (show b52 ≤ (126 : Int) by omega)
      have hF61 := Fr_a (z := b52) (k := 0) (n := (sz1).toNat) hFx (by decide)
      obtain ⟨A59, eA59⟩ : ∃ q, q = uA Ax 0 (sz1).toNat (b52) := ⟨_, rfl⟩
      rw [← eA59]
      rw [← eA59] at hW60 hF61
      have q62 : A59 0 (sz1).toNat = b52 := by rw [eA59]; exact uA_eq
      refine jx_ld (pc_q := 135) (l_q := L56) (st_q := [.ref 66]) rfl (jl_aloadn gL56_0) ?_
      refine jx_ar (pc_q := 136) (st_q := [.ref 66, .ref 66]) rfl rfl rfl rfl ?_
      refine jr_get (pc_q := 139) (i := 2) (v := .int (i32 (sz1))) rfl rfl (by decide) (rFv_eq (by decide) (show Gx 2 = sz1 from (ex_sz1))) rfl ?_
      refine jx_ar (pc_q := 140) (st_q := [.int (i32 (1)), .int (i32 (sz1)), .ref 66]) rfl rfl rfl rfl ?_
      refine jx_add (pc_q := 141) rfl rfl ?_
      refine jr_put (pc_q := 144) (i := 2) (z := (sz1 + 1)) rfl rfl (by decide) rfl rfl rfl rfl rfl rfl ?_
      have hW63 : Wk (uG Gx 2 ((sz1 + 1))) A59 := Wk_g hW60 (show (0 : Int) ≤ (sz1 + 1) by omega) (show (sz1 + 1) ≤ (3000 : Int) by omega)
      have hF64 := Fr_g (z := (sz1 + 1)) (i := 2) hF61 (by decide)
      refine jx_inc (pc_q := 147) (l_q := jSto1 L56 4 (.int (i32 ((0 + (8)))))) (x := 0) rfl gL56_4 (by decide) rfl rfl ?_
      obtain ⟨L65, eL65⟩ : ∃ q, q = jSto1 L56 4 (.int (i32 ((0 + (8))))) := ⟨_, rfl⟩
      rw [← eL65]
      have gL65_0 : jGet L65 0 = some (.ref 66) := eL65 ▸ jg_ne (by decide) gL56_0 rfl
      have gL65_1 : jGet L65 1 = some (.int (i32 (sg))) := eL65 ▸ jg_ne (by decide) gL56_1 rfl
      have gL65_5 : jGet L65 5 = some (.int (i32 (b52))) := eL65 ▸ jg_ne (by decide) gL56_5 rfl
      have gL65_4 : jGet L65 4 = some (.int (i32 ((0 + (8))))) := eL65 ▸ jg_eq
      refine jx_go (tg := 101) rfl rfl ?_
      exact c_put_at_101_8 (X := X) (d := d) (c0 := c0) (c1 := c1) (G := G) (A := A) (T := T) (sg := sg) (sz := sz) (hd := hd) (hW := hW) (e_sz := e_sz) (h_sg := h_sg) L65 (uG Gx 2 ((sz1 + 1))) A59 ((sz1 + 1)) gL65_0 gL65_1 gL65_4 hW63 hF64 (rfl) ((fx_0)) (by omega) (by omega) (by omega)
set_option maxRecDepth 20000 in
set_option maxHeartbeats 4000000 in
theorem c_put_at_7_32 {X : jX} {d : Nat} {c0 c1 : jC} {G : Nat → Int} {A : Nat → Nat → Int} {T : jH} {sg : Int} {sz : Int} (hd : 3 ≤ d + 1) (hW : Wk G A) (e_sz : G 2 = sz) (h_sg : (-2147483648 : Int) ≤ sg ∧ sg ≤ 2147483647) : ∀ (L : jL) (Gx : Nat → Int) (Ax : Nat → Nat → Int) (bd n : Int), jGet L 0 = some (.ref 66) → jGet L 1 = some (.int (i32 (sg))) → jGet L 4 = some (.int (i32 (32))) → jGet L 2 = some (.int (i32 bd)) → jGet L 3 = some (.int (i32 n)) → Wk Gx Ax → Fr [0, 2] [0] G A Gx Ax → Gx 2 = sz → ((-2147483648 : Int) ≤ bd ∧ bd ≤ 2147483647) → ((-2147483648 : Int) ≤ n ∧ n ≤ 2147483647) → (0 ≤ bd ∧ bd ≤ 1) → (bd = 0 → 0 + snb (bt sg 0) + snb (bt sg 8) + snb (bt sg 16) + snb (bt sg 24) = 0) → (bd = 1 → 1 ≤ 0 + snb (bt sg 0) + snb (bt sg 8) + snb (bt sg 16) + snb (bt sg 24)) → (n = 0 + tz (bt sg 0) + tz (bt sg 8) + tz (bt sg 16) + tz (bt sg 24)) → wj X d jm248 (7, L, [], rV c0 c1 Gx Ax T) (fun o V_q => ∃ (G_q : Nat → Int) (A_q : Nat → Nat → Int) (r : Int) (th2 : Int) (sz2 : Int), V_q = rV c0 c1 G_q A_q T ∧ o = .inl (some (.int (i32 r))) ∧ Wk G_q A_q ∧ Fr [0, 2] [0] G A G_q A_q ∧ ((-2147483648 : Int) ≤ r ∧ r ≤ 2147483647) ∧ G_q 0 = th2 ∧ G_q 2 = sz2 ∧ (((r = 0) ∧ (1 ≤ 0 + snb (bt sg 0) + snb (bt sg 8) + snb (bt sg 16) + snb (bt sg 24)) ∧ (th2 = 1) ∧ (sz2 = sz)) ∨ ((r = 0) ∧ (0 + snb (bt sg 0) + snb (bt sg 8) + snb (bt sg 16) + snb (bt sg 24) = 0) ∧ (3000 < sz + 0 + tz (bt sg 0) + tz (bt sg 8) + tz (bt sg 16) + tz (bt sg 24)) ∧ (th2 = 2) ∧ (sz2 = sz)) ∨ ((0 + snb (bt sg 0) + snb (bt sg 8) + snb (bt sg 16) + snb (bt sg 24) = 0) ∧ (sz2 = sz + 0 + tz (bt sg 0) + tz (bt sg 8) + tz (bt sg 16) + tz (bt sg 24)) ∧ (sz2 ≤ 3000) ∧ (r = sz2) ∧ (th2 = 0)))) := by
  have hF0 : Fr [0, 2] [0] G A G A := Fr_rf
  have b_sz : (0 : Int) ≤ sz ∧ sz ≤ 3000 := e_sz ▸ hW.1 2
  intro L Gx Ax bd n gL_0 gL_1 gL_4 gL_2 gL_3 hWx hFx fx_2 rx_bd rx_n iv_0 iv_1 iv_2 iv_3
  have ub0 := snb_b (bt sg 0)
  have ut0 := tz_b (bt sg 0)
  have ub8 := snb_b (bt sg 8)
  have ut8 := tz_b (bt sg 8)
  have ub16 := snb_b (bt sg 16)
  have ut16 := tz_b (bt sg 16)
  have ub24 := snb_b (bt sg 24)
  have ut24 := tz_b (bt sg 24)
  refine jx_ld (pc_q := 9) (l_q := L) (st_q := [.int (i32 (32))]) rfl (jl_iload gL_4) ?_
  refine jx_ar (pc_q := 11) (st_q := [.int (i32 (32)), .int (i32 (32))]) rfl rfl rfl rfl ?_
  refine jx_icmp_ge (pc_q := 14) (tg := 66) rfl rfl rfl (by decide) (by decide) (by decide) (by decide) (fun h66 => ?_) (fun h66 => ?_)
  · have _q := h66
    refine jx_ld (pc_q := 67) (l_q := L) (st_q := [.ref 66]) rfl (jl_aloadn gL_0) ?_
    refine jx_ld (pc_q := 68) (l_q := L) (st_q := [.int (i32 (bd)), .ref 66]) rfl (jl_iloadn gL_2) ?_
    refine jx_ld (pc_q := 69) (l_q := L) (st_q := [.int (i32 (bd)), .int (i32 (bd)), .ref 66]) rfl (jl_iloadn gL_2) ?_
    refine jx_if_ne (pc_q := 72) (tg := 88) rfl rfl rfl (Int.le_trans (by decide : (-2147483648 : Int) ≤ -2147483648) rx_bd.1) (Int.le_trans rx_bd.2 (by decide : (2147483647 : Int) ≤ 2147483647)) (fun h67 => ?_) (fun h67 => ?_)
    · have _q := h67
      refine jx_ar (pc_q := 89) (st_q := [.int (i32 (0)), .int (i32 (bd)), .ref 66]) rfl rfl rfl rfl ?_
      refine jx_ar (pc_q := 90) (st_q := [.int (i32 (0)), .int (i32 (0)), .int (i32 (bd)), .ref 66]) rfl rfl rfl rfl ?_
      refine jx_vr (pc_q := 93) (as := [.int (i32 (bd)), .int (i32 (0)), .int (i32 (0))]) (st := []) rfl rfl rfl rfl ⟨rfl, rfl, Nat.le_of_ble_eq_true rfl⟩ rfl rfl (c_refuse (dd := d) (hd := by omega) (hW := hWx) (a := bd) (b := 0) (c := 0)   (h_a := ⟨(by omega), (by omega)⟩) (h_b := ⟨(by decide), (by decide)⟩) (h_c := ⟨(by decide), (by decide)⟩)  ) (fun o V_q hq => ?_)
      obtain ⟨G68, A69, r70, th2_71, rfl, rfl, hW72, hF73, b74, e75, q76⟩ := hq
      have hF77 := Fr_tr hFx hF73 (Fr_sub (by decide)) (Fr_sub (by decide))
      have bth2_71 : (0 : Int) ≤ th2_71 ∧ th2_71 ≤ 4 := e75 ▸ hW72.1 0
      refine .inr ⟨_, rfl, ?_⟩
      rcases q76 with ⟨rfl, a78, a79⟩ | ⟨rfl, a80, a81, a82⟩ | ⟨rfl, a83, a84, a85, a86⟩ | ⟨rfl, a87, a88, a89, a90⟩
      · have _q : True := trivial
        refine jx_if_eq (pc_q := 96) (tg := 98) rfl rfl rfl (by decide) (by decide) (fun h91 => ?_) (fun h91 => ?_)
        · have _q := h91
          exact absurd h91 (by omega)
        · have _q := h91
          refine jx_ar (pc_q := 97) (st_q := [.int (i32 (0))]) rfl rfl rfl rfl ?_
          refine jx_rt (v := some (.int (i32 (0)))) rfl rfl rfl rfl rfl rfl ?_
          exact ⟨_, _, _, th2_71, sz, rfl, rfl, hW72, hF77, by omega, (e75), ((hF73.1 2 rfl).trans (fx_2)), by first | exact Or.inl (⟨by omega, by omega, by omega, by omega⟩) | exact Or.inr (Or.inl (⟨by omega, by omega, by omega, by omega, by omega⟩)) | exact Or.inr (Or.inr ((⟨by omega, by omega, by omega, by omega, by omega⟩)))⟩
      · have _q : True := trivial
        exfalso
        omega
      · have _q : True := trivial
        exfalso
        omega
      · have _q : True := trivial
        refine jx_if_eq (pc_q := 96) (tg := 98) rfl rfl rfl (by decide) (by decide) (fun h92 => ?_) (fun h92 => ?_)
        · have _q := h92
          refine jx_ar (pc_q := 99) (st_q := [.int (i32 (0))]) rfl rfl rfl rfl ?_
          refine jx_ld (pc_q := 101) (l_q := jSto1 L 4 (.int (i32 (0)))) (st_q := []) rfl rfl ?_
          obtain ⟨L93, eL93⟩ : ∃ q, q = jSto1 L 4 (.int (i32 (0))) := ⟨_, rfl⟩
          rw [← eL93]
          have gL93_0 : jGet L93 0 = some (.ref 66) := eL93 ▸ jg_ne (by decide) gL_0 rfl
          have gL93_1 : jGet L93 1 = some (.int (i32 (sg))) := eL93 ▸ jg_ne (by decide) gL_1 rfl
          have gL93_2 : jGet L93 2 = some (.int (i32 (bd))) := eL93 ▸ jg_ne (by decide) gL_2 rfl
          have gL93_3 : jGet L93 3 = some (.int (i32 (n))) := eL93 ▸ jg_ne (by decide) gL_3 rfl
          have gL93_4 : jGet L93 4 = some (.int (i32 (0))) := eL93 ▸ jg_eq
          exact c_put_at_101_0 (X := X) (d := d) (c0 := c0) (c1 := c1) (G := G) (A := A) (T := T) (sg := sg) (sz := sz) (hd := hd) (hW := hW) (e_sz := e_sz) (h_sg := h_sg) L93 G68 A69 (sz) gL93_0 gL93_1 gL93_4 hW72 hF77 (((hF73.1 2 rfl).trans (fx_2))) (Eq.trans (show G68 0 = th2_71 from (e75)) (by omega)) (by omega) (by omega) (by omega)
        · have _q := h92
          exact absurd h92 (by omega)
    · have _q := h67
      refine jx_ld (pc_q := 73) (l_q := L) (st_q := [.ref 66, .int (i32 (bd)), .ref 66]) rfl (jl_aloadn gL_0) ?_
      refine jr_get (pc_q := 76) (i := 2) (v := .int (i32 (sz))) rfl rfl (by decide) (rFv_eq (by decide) (show Gx 2 = sz from (fx_2))) rfl ?_
      refine jx_ld (pc_q := 77) (l_q := L) (st_q := [.int (i32 (n)), .int (i32 (sz)), .int (i32 (bd)), .ref 66]) rfl (jl_iloadn gL_3) ?_
      refine jx_add (pc_q := 78) rfl rfl ?_
      refine jx_ar (pc_q := 81) (st_q := [.int (i32 (3000)), .int (i32 ((sz + n))), .int (i32 (bd)), .ref 66]) rfl rfl rfl rfl ?_
      refine jx_icmp_le (pc_q := 84) (tg := 88) rfl rfl rfl (by omega) (by omega) (by decide) (by decide) (fun h94 => ?_) (fun h94 => ?_)
      · have _q := h94
        refine jx_ar (pc_q := 89) (st_q := [.int (i32 (0)), .int (i32 (bd)), .ref 66]) rfl rfl rfl rfl ?_
        refine jx_ar (pc_q := 90) (st_q := [.int (i32 (0)), .int (i32 (0)), .int (i32 (bd)), .ref 66]) rfl rfl rfl rfl ?_
        refine jx_vr (pc_q := 93) (as := [.int (i32 (bd)), .int (i32 (0)), .int (i32 (0))]) (st := []) rfl rfl rfl rfl ⟨rfl, rfl, Nat.le_of_ble_eq_true rfl⟩ rfl rfl (c_refuse (dd := d) (hd := by omega) (hW := hWx) (a := bd) (b := 0) (c := 0)   (h_a := ⟨(by omega), (by omega)⟩) (h_b := ⟨(by decide), (by decide)⟩) (h_c := ⟨(by decide), (by decide)⟩)  ) (fun o V_q hq => ?_)
        obtain ⟨G95, A96, r97, th2_98, rfl, rfl, hW99, hF100, b101, e102, q103⟩ := hq
        have hF104 := Fr_tr hFx hF100 (Fr_sub (by decide)) (Fr_sub (by decide))
        have bth2_98 : (0 : Int) ≤ th2_98 ∧ th2_98 ≤ 4 := e102 ▸ hW99.1 0
        refine .inr ⟨_, rfl, ?_⟩
        rcases q103 with ⟨rfl, a105, a106⟩ | ⟨rfl, a107, a108, a109⟩ | ⟨rfl, a110, a111, a112, a113⟩ | ⟨rfl, a114, a115, a116, a117⟩
        · have _q : True := trivial
          refine jx_if_eq (pc_q := 96) (tg := 98) rfl rfl rfl (by decide) (by decide) (fun h118 => ?_) (fun h118 => ?_)
          · have _q := h118
            exact absurd h118 (by omega)
          · have _q := h118
            refine jx_ar (pc_q := 97) (st_q := [.int (i32 (0))]) rfl rfl rfl rfl ?_
            refine jx_rt (v := some (.int (i32 (0)))) rfl rfl rfl rfl rfl rfl ?_
            exact ⟨_, _, _, th2_98, sz, rfl, rfl, hW99, hF104, by omega, (e102), ((hF100.1 2 rfl).trans (fx_2)), by first | exact Or.inl (⟨by omega, by omega, by omega, by omega⟩) | exact Or.inr (Or.inl (⟨by omega, by omega, by omega, by omega, by omega⟩)) | exact Or.inr (Or.inr ((⟨by omega, by omega, by omega, by omega, by omega⟩)))⟩
        · have _q : True := trivial
          exfalso
          omega
        · have _q : True := trivial
          exfalso
          omega
        · have _q : True := trivial
          refine jx_if_eq (pc_q := 96) (tg := 98) rfl rfl rfl (by decide) (by decide) (fun h119 => ?_) (fun h119 => ?_)
          · have _q := h119
            refine jx_ar (pc_q := 99) (st_q := [.int (i32 (0))]) rfl rfl rfl rfl ?_
            refine jx_ld (pc_q := 101) (l_q := jSto1 L 4 (.int (i32 (0)))) (st_q := []) rfl rfl ?_
            obtain ⟨L120, eL120⟩ : ∃ q, q = jSto1 L 4 (.int (i32 (0))) := ⟨_, rfl⟩
            rw [← eL120]
            have gL120_0 : jGet L120 0 = some (.ref 66) := eL120 ▸ jg_ne (by decide) gL_0 rfl
            have gL120_1 : jGet L120 1 = some (.int (i32 (sg))) := eL120 ▸ jg_ne (by decide) gL_1 rfl
            have gL120_2 : jGet L120 2 = some (.int (i32 (bd))) := eL120 ▸ jg_ne (by decide) gL_2 rfl
            have gL120_3 : jGet L120 3 = some (.int (i32 (n))) := eL120 ▸ jg_ne (by decide) gL_3 rfl
            have gL120_4 : jGet L120 4 = some (.int (i32 (0))) := eL120 ▸ jg_eq
            exact c_put_at_101_0 (X := X) (d := d) (c0 := c0) (c1 := c1) (G := G) (A := A) (T := T) (sg := sg) (sz := sz) (hd := hd) (hW := hW) (e_sz := e_sz) (h_sg := h_sg) L120 G95 A96 (sz) gL120_0 gL120_1 gL120_4 hW99 hF104 (((hF100.1 2 rfl).trans (fx_2))) (Eq.trans (show G95 0 = th2_98 from (e102)) (by omega)) (by omega) (by omega) (by omega)
          · have _q := h119
            exact absurd h119 (by omega)
      · have _q := h94
        refine jx_ar (pc_q := 85) (st_q := [.int (i32 (1)), .int (i32 (bd)), .ref 66]) rfl rfl rfl rfl ?_
        refine jx_go (tg := 89) rfl rfl ?_
        refine jx_ar (pc_q := 90) (st_q := [.int (i32 (0)), .int (i32 (1)), .int (i32 (bd)), .ref 66]) rfl rfl rfl rfl ?_
        refine jx_vr (pc_q := 93) (as := [.int (i32 (bd)), .int (i32 (1)), .int (i32 (0))]) (st := []) rfl rfl rfl rfl ⟨rfl, rfl, Nat.le_of_ble_eq_true rfl⟩ rfl rfl (c_refuse (dd := d) (hd := by omega) (hW := hWx) (a := bd) (b := 1) (c := 0)   (h_a := ⟨(by omega), (by omega)⟩) (h_b := ⟨(by decide), (by decide)⟩) (h_c := ⟨(by decide), (by decide)⟩)  ) (fun o V_q hq => ?_)
        obtain ⟨G121, A122, r123, th2_124, rfl, rfl, hW125, hF126, b127, e128, q129⟩ := hq
        have hF130 := Fr_tr hFx hF126 (Fr_sub (by decide)) (Fr_sub (by decide))
        have bth2_124 : (0 : Int) ≤ th2_124 ∧ th2_124 ≤ 4 := e128 ▸ hW125.1 0
        refine .inr ⟨_, rfl, ?_⟩
        rcases q129 with ⟨rfl, a131, a132⟩ | ⟨rfl, a133, a134, a135⟩ | ⟨rfl, a136, a137, a138, a139⟩ | ⟨rfl, a140, a141, a142, a143⟩
        · have _q : True := trivial
          refine jx_if_eq (pc_q := 96) (tg := 98) rfl rfl rfl (by decide) (by decide) (fun h144 => ?_) (fun h144 => ?_)
          · have _q := h144
            exact absurd h144 (by omega)
          · have _q := h144
            refine jx_ar (pc_q := 97) (st_q := [.int (i32 (0))]) rfl rfl rfl rfl ?_
            refine jx_rt (v := some (.int (i32 (0)))) rfl rfl rfl rfl rfl rfl ?_
            exact ⟨_, _, _, th2_124, sz, rfl, rfl, hW125, hF130, by omega, (e128), ((hF126.1 2 rfl).trans (fx_2)), by first | exact Or.inl (⟨by omega, by omega, by omega, by omega⟩) | exact Or.inr (Or.inl (⟨by omega, by omega, by omega, by omega, by omega⟩)) | exact Or.inr (Or.inr ((⟨by omega, by omega, by omega, by omega, by omega⟩)))⟩
        · have _q : True := trivial
          refine jx_if_eq (pc_q := 96) (tg := 98) rfl rfl rfl (by decide) (by decide) (fun h145 => ?_) (fun h145 => ?_)
          · have _q := h145
            exact absurd h145 (by omega)
          · have _q := h145
            refine jx_ar (pc_q := 97) (st_q := [.int (i32 (0))]) rfl rfl rfl rfl ?_
            refine jx_rt (v := some (.int (i32 (0)))) rfl rfl rfl rfl rfl rfl ?_
            exact ⟨_, _, _, th2_124, sz, rfl, rfl, hW125, hF130, by omega, (e128), ((hF126.1 2 rfl).trans (fx_2)), by first | exact Or.inl (⟨by omega, by omega, by omega, by omega⟩) | exact Or.inr (Or.inl (⟨by omega, by omega, by omega, by omega, by omega⟩)) | exact Or.inr (Or.inr ((⟨by omega, by omega, by omega, by omega, by omega⟩)))⟩
        · have _q : True := trivial
          exfalso
          omega
        · have _q : True := trivial
          exfalso
          omega
  · have _q := h66
    exact absurd h66 (by omega)
set_option maxRecDepth 20000 in
set_option maxHeartbeats 4000000 in
theorem c_put_at_7_24 {X : jX} {d : Nat} {c0 c1 : jC} {G : Nat → Int} {A : Nat → Nat → Int} {T : jH} {sg : Int} {sz : Int} (hd : 3 ≤ d + 1) (hW : Wk G A) (e_sz : G 2 = sz) (h_sg : (-2147483648 : Int) ≤ sg ∧ sg ≤ 2147483647) : ∀ (L : jL) (Gx : Nat → Int) (Ax : Nat → Nat → Int) (bd n : Int), jGet L 0 = some (.ref 66) → jGet L 1 = some (.int (i32 (sg))) → jGet L 4 = some (.int (i32 (24))) → jGet L 2 = some (.int (i32 bd)) → jGet L 3 = some (.int (i32 n)) → Wk Gx Ax → Fr [0, 2] [0] G A Gx Ax → Gx 2 = sz → ((-2147483648 : Int) ≤ bd ∧ bd ≤ 2147483647) → ((-2147483648 : Int) ≤ n ∧ n ≤ 2147483647) → (0 ≤ bd ∧ bd ≤ 1) → (bd = 0 → 0 + snb (bt sg 0) + snb (bt sg 8) + snb (bt sg 16) = 0) → (bd = 1 → 1 ≤ 0 + snb (bt sg 0) + snb (bt sg 8) + snb (bt sg 16)) → (n = 0 + tz (bt sg 0) + tz (bt sg 8) + tz (bt sg 16)) → wj X d jm248 (7, L, [], rV c0 c1 Gx Ax T) (fun o V_q => ∃ (G_q : Nat → Int) (A_q : Nat → Nat → Int) (r : Int) (th2 : Int) (sz2 : Int), V_q = rV c0 c1 G_q A_q T ∧ o = .inl (some (.int (i32 r))) ∧ Wk G_q A_q ∧ Fr [0, 2] [0] G A G_q A_q ∧ ((-2147483648 : Int) ≤ r ∧ r ≤ 2147483647) ∧ G_q 0 = th2 ∧ G_q 2 = sz2 ∧ (((r = 0) ∧ (1 ≤ 0 + snb (bt sg 0) + snb (bt sg 8) + snb (bt sg 16) + snb (bt sg 24)) ∧ (th2 = 1) ∧ (sz2 = sz)) ∨ ((r = 0) ∧ (0 + snb (bt sg 0) + snb (bt sg 8) + snb (bt sg 16) + snb (bt sg 24) = 0) ∧ (3000 < sz + 0 + tz (bt sg 0) + tz (bt sg 8) + tz (bt sg 16) + tz (bt sg 24)) ∧ (th2 = 2) ∧ (sz2 = sz)) ∨ ((0 + snb (bt sg 0) + snb (bt sg 8) + snb (bt sg 16) + snb (bt sg 24) = 0) ∧ (sz2 = sz + 0 + tz (bt sg 0) + tz (bt sg 8) + tz (bt sg 16) + tz (bt sg 24)) ∧ (sz2 ≤ 3000) ∧ (r = sz2) ∧ (th2 = 0)))) := by
  have hF0 : Fr [0, 2] [0] G A G A := Fr_rf
  have b_sz : (0 : Int) ≤ sz ∧ sz ≤ 3000 := e_sz ▸ hW.1 2
  intro L Gx Ax bd n gL_0 gL_1 gL_4 gL_2 gL_3 hWx hFx fx_2 rx_bd rx_n iv_0 iv_1 iv_2 iv_3
  have ub0 := snb_b (bt sg 0)
  have ut0 := tz_b (bt sg 0)
  have ub8 := snb_b (bt sg 8)
  have ut8 := tz_b (bt sg 8)
  have ub16 := snb_b (bt sg 16)
  have ut16 := tz_b (bt sg 16)
  have ub24 := snb_b (bt sg 24)
  have ut24 := tz_b (bt sg 24)
  refine jx_ld (pc_q := 9) (l_q := L) (st_q := [.int (i32 (24))]) rfl (jl_iload gL_4) ?_
  refine jx_ar (pc_q := 11) (st_q := [.int (i32 (32)), .int (i32 (24))]) rfl rfl rfl rfl ?_
  refine jx_icmp_ge (pc_q := 14) (tg := 66) rfl rfl rfl (by decide) (by decide) (by decide) (by decide) (fun h146 => ?_) (fun h146 => ?_)
  · have _q := h146
    exact absurd h146 (by omega)
  · have _q := h146
    refine jx_ld (pc_q := 15) (l_q := L) (st_q := [.int (i32 (sg))]) rfl (jl_iloadn gL_1) ?_
    refine jx_ld (pc_q := 17) (l_q := L) (st_q := [.int (i32 (24)), .int (i32 (sg))]) rfl (jl_iload gL_4) ?_
    refine jx_shr (pc_q := 18) rfl rfl ?_
    obtain ⟨b147, eb147⟩ : ∃ z, z = (i32 (sg) >>> (i32 (24) &&& 31)).toInt := ⟨_, rfl⟩
    rw [← eb147]
    have rb147 : (-2147483648 : Int) ≤ b147 ∧ b147 ≤ 2147483647 := eb147 ▸ i32_rg _
    refine jx_ar (pc_q := 21) (st_q := [.int (i32 (255)), .int (i32 (b147))]) rfl rfl rfl rfl ?_
    refine jx_and (pc_q := 22) rfl rfl ?_
    obtain ⟨b148, eb148⟩ : ∃ z, z = (i32 (b147) &&& i32 (255)).toInt := ⟨_, rfl⟩
    rw [← eb148]
    have rb148 : (-2147483648 : Int) ≤ b148 ∧ b148 ≤ 2147483647 := eb148 ▸ i32_rg _
    have bq149 : bt sg 24 = b148 := by rw [eb148, eb147]; rfl
    have bq150 := snb_f (bt sg 24)
    have bq151 := tz_f (bt sg 24)
    refine jx_ld (pc_q := 24) (l_q := jSto1 L 5 (.int (i32 (b148)))) (st_q := []) rfl rfl ?_
    obtain ⟨L152, eL152⟩ : ∃ q, q = jSto1 L 5 (.int (i32 (b148))) := ⟨_, rfl⟩
    rw [← eL152]
    have gL152_0 : jGet L152 0 = some (.ref 66) := eL152 ▸ jg_ne (by decide) gL_0 rfl
    have gL152_1 : jGet L152 1 = some (.int (i32 (sg))) := eL152 ▸ jg_ne (by decide) gL_1 rfl
    have gL152_4 : jGet L152 4 = some (.int (i32 (24))) := eL152 ▸ jg_ne (by decide) gL_4 rfl
    have gL152_2 : jGet L152 2 = some (.int (i32 (bd))) := eL152 ▸ jg_ne (by decide) gL_2 rfl
    have gL152_3 : jGet L152 3 = some (.int (i32 (n))) := eL152 ▸ jg_ne (by decide) gL_3 rfl
    have gL152_5 : jGet L152 5 = some (.int (i32 (b148))) := eL152 ▸ jg_eq
    refine jx_ld (pc_q := 25) (l_q := L152) (st_q := [.int (i32 (bd))]) rfl (jl_iloadn gL152_2) ?_
    refine jx_if_ne (pc_q := 28) (tg := 41) rfl rfl rfl (Int.le_trans (by decide : (-2147483648 : Int) ≤ -2147483648) rx_bd.1) (Int.le_trans rx_bd.2 (by decide : (2147483647 : Int) ≤ 2147483647)) (fun h153 => ?_) (fun h153 => ?_)
    · have _q := h153
      refine jx_ar (pc_q := 42) (st_q := [.int (i32 (1))]) rfl rfl rfl rfl ?_
      refine jx_go (tg := 46) rfl rfl ?_
      refine jx_ld (pc_q := 47) (l_q := jSto1 L152 2 (.int (i32 (1)))) (st_q := []) rfl rfl ?_
      obtain ⟨L154, eL154⟩ : ∃ q, q = jSto1 L152 2 (.int (i32 (1))) := ⟨_, rfl⟩
      rw [← eL154]
      have gL154_0 : jGet L154 0 = some (.ref 66) := eL154 ▸ jg_ne (by decide) gL152_0 rfl
      have gL154_1 : jGet L154 1 = some (.int (i32 (sg))) := eL154 ▸ jg_ne (by decide) gL152_1 rfl
      have gL154_4 : jGet L154 4 = some (.int (i32 (24))) := eL154 ▸ jg_ne (by decide) gL152_4 rfl
      have gL154_3 : jGet L154 3 = some (.int (i32 (n))) := eL154 ▸ jg_ne (by decide) gL152_3 rfl
      have gL154_5 : jGet L154 5 = some (.int (i32 (b148))) := eL154 ▸ jg_ne (by decide) gL152_5 rfl
      have gL154_2 : jGet L154 2 = some (.int (i32 (1))) := eL154 ▸ jg_eq
      refine jx_ld (pc_q := 49) (l_q := L154) (st_q := [.int (i32 (b148))]) rfl (jl_iload gL154_5) ?_
      refine jx_if_eq (pc_q := 52) (tg := 58) rfl rfl rfl (Int.le_trans (by decide : (-2147483648 : Int) ≤ -2147483648) rb148.1) (Int.le_trans rb148.2 (by decide : (2147483647 : Int) ≤ 2147483647)) (fun h155 => ?_) (fun h155 => ?_)
      · have _q := h155
        refine jx_ld (pc_q := 59) (l_q := L154) (st_q := [.int (i32 (n))]) rfl (jl_iloadn gL154_3) ?_
        refine jx_ld (pc_q := 60) (l_q := jSto1 L154 3 (.int (i32 (n)))) (st_q := []) rfl rfl ?_
        obtain ⟨L156, eL156⟩ : ∃ q, q = jSto1 L154 3 (.int (i32 (n))) := ⟨_, rfl⟩
        rw [← eL156]
        have gL156_0 : jGet L156 0 = some (.ref 66) := eL156 ▸ jg_ne (by decide) gL154_0 rfl
        have gL156_1 : jGet L156 1 = some (.int (i32 (sg))) := eL156 ▸ jg_ne (by decide) gL154_1 rfl
        have gL156_4 : jGet L156 4 = some (.int (i32 (24))) := eL156 ▸ jg_ne (by decide) gL154_4 rfl
        have gL156_5 : jGet L156 5 = some (.int (i32 (b148))) := eL156 ▸ jg_ne (by decide) gL154_5 rfl
        have gL156_2 : jGet L156 2 = some (.int (i32 (1))) := eL156 ▸ jg_ne (by decide) gL154_2 rfl
        have gL156_3 : jGet L156 3 = some (.int (i32 (n))) := eL156 ▸ jg_eq
        refine jx_inc (pc_q := 63) (l_q := jSto1 L156 4 (.int (i32 ((24 + (8)))))) (x := 24) rfl gL156_4 (by decide) rfl rfl ?_
        obtain ⟨L157, eL157⟩ : ∃ q, q = jSto1 L156 4 (.int (i32 ((24 + (8))))) := ⟨_, rfl⟩
        rw [← eL157]
        have gL157_0 : jGet L157 0 = some (.ref 66) := eL157 ▸ jg_ne (by decide) gL156_0 rfl
        have gL157_1 : jGet L157 1 = some (.int (i32 (sg))) := eL157 ▸ jg_ne (by decide) gL156_1 rfl
        have gL157_5 : jGet L157 5 = some (.int (i32 (b148))) := eL157 ▸ jg_ne (by decide) gL156_5 rfl
        have gL157_2 : jGet L157 2 = some (.int (i32 (1))) := eL157 ▸ jg_ne (by decide) gL156_2 rfl
        have gL157_3 : jGet L157 3 = some (.int (i32 (n))) := eL157 ▸ jg_ne (by decide) gL156_3 rfl
        have gL157_4 : jGet L157 4 = some (.int (i32 ((24 + (8))))) := eL157 ▸ jg_eq
        refine jx_go (tg := 7) rfl rfl ?_
        exact c_put_at_7_32 (X := X) (d := d) (c0 := c0) (c1 := c1) (G := G) (A := A) (T := T) (sg := sg) (sz := sz) (hd := hd) (hW := hW) (e_sz := e_sz) (h_sg := h_sg) L157 Gx Ax (1) (n) gL157_0 gL157_1 gL157_4 gL157_2 gL157_3 hWx hFx ((fx_2)) (by omega) (by omega) (by omega) (by omega) (by omega) (by omega)
      · have _q := h155
        refine jx_ld (pc_q := 53) (l_q := L154) (st_q := [.int (i32 (n))]) rfl (jl_iloadn gL154_3) ?_
        refine jx_ar (pc_q := 54) (st_q := [.int (i32 (1)), .int (i32 (n))]) rfl rfl rfl rfl ?_
        refine jx_add (pc_q := 55) rfl rfl ?_
        refine jx_go (tg := 59) rfl rfl ?_
        refine jx_ld (pc_q := 60) (l_q := jSto1 L154 3 (.int (i32 ((n + 1))))) (st_q := []) rfl rfl ?_
        obtain ⟨L158, eL158⟩ : ∃ q, q = jSto1 L154 3 (.int (i32 ((n + 1)))) := ⟨_, rfl⟩
        rw [← eL158]
        have gL158_0 : jGet L158 0 = some (.ref 66) := eL158 ▸ jg_ne (by decide) gL154_0 rfl
        have gL158_1 : jGet L158 1 = some (.int (i32 (sg))) := eL158 ▸ jg_ne (by decide) gL154_1 rfl
        have gL158_4 : jGet L158 4 = some (.int (i32 (24))) := eL158 ▸ jg_ne (by decide) gL154_4 rfl
        have gL158_5 : jGet L158 5 = some (.int (i32 (b148))) := eL158 ▸ jg_ne (by decide) gL154_5 rfl
        have gL158_2 : jGet L158 2 = some (.int (i32 (1))) := eL158 ▸ jg_ne (by decide) gL154_2 rfl
        have gL158_3 : jGet L158 3 = some (.int (i32 ((n + 1)))) := eL158 ▸ jg_eq
        refine jx_inc (pc_q := 63) (l_q := jSto1 L158 4 (.int (i32 ((24 + (8)))))) (x := 24) rfl gL158_4 (by decide) rfl rfl ?_
        obtain ⟨L159, eL159⟩ : ∃ q, q = jSto1 L158 4 (.int (i32 ((24 + (8))))) := ⟨_, rfl⟩
        rw [← eL159]
        have gL159_0 : jGet L159 0 = some (.ref 66) := eL159 ▸ jg_ne (by decide) gL158_0 rfl
        have gL159_1 : jGet L159 1 = some (.int (i32 (sg))) := eL159 ▸ jg_ne (by decide) gL158_1 rfl
        have gL159_5 : jGet L159 5 = some (.int (i32 (b148))) := eL159 ▸ jg_ne (by decide) gL158_5 rfl
        have gL159_2 : jGet L159 2 = some (.int (i32 (1))) := eL159 ▸ jg_ne (by decide) gL158_2 rfl
        have gL159_3 : jGet L159 3 = some (.int (i32 ((n + 1)))) := eL159 ▸ jg_ne (by decide) gL158_3 rfl
        have gL159_4 : jGet L159 4 = some (.int (i32 ((24 + (8))))) := eL159 ▸ jg_eq
        refine jx_go (tg := 7) rfl rfl ?_
        exact c_put_at_7_32 (X := X) (d := d) (c0 := c0) (c1 := c1) (G := G) (A := A) (T := T) (sg := sg) (sz := sz) (hd := hd) (hW := hW) (e_sz := e_sz) (h_sg := h_sg) L159 Gx Ax (1) ((n + 1)) gL159_0 gL159_1 gL159_4 gL159_2 gL159_3 hWx hFx ((fx_2)) (by omega) (by omega) (by omega) (by omega) (by omega) (by omega)
    · have _q := h153
      refine jx_ld (pc_q := 30) (l_q := L152) (st_q := [.int (i32 (b148))]) rfl (jl_iload gL152_5) ?_
      refine jx_if_eq (pc_q := 33) (tg := 45) rfl rfl rfl (Int.le_trans (by decide : (-2147483648 : Int) ≤ -2147483648) rb148.1) (Int.le_trans rb148.2 (by decide : (2147483647 : Int) ≤ 2147483647)) (fun h160 => ?_) (fun h160 => ?_)
      · have _q := h160
        refine jx_ar (pc_q := 46) (st_q := [.int (i32 (0))]) rfl rfl rfl rfl ?_
        refine jx_ld (pc_q := 47) (l_q := jSto1 L152 2 (.int (i32 (0)))) (st_q := []) rfl rfl ?_
        obtain ⟨L161, eL161⟩ : ∃ q, q = jSto1 L152 2 (.int (i32 (0))) := ⟨_, rfl⟩
        rw [← eL161]
        have gL161_0 : jGet L161 0 = some (.ref 66) := eL161 ▸ jg_ne (by decide) gL152_0 rfl
        have gL161_1 : jGet L161 1 = some (.int (i32 (sg))) := eL161 ▸ jg_ne (by decide) gL152_1 rfl
        have gL161_4 : jGet L161 4 = some (.int (i32 (24))) := eL161 ▸ jg_ne (by decide) gL152_4 rfl
        have gL161_3 : jGet L161 3 = some (.int (i32 (n))) := eL161 ▸ jg_ne (by decide) gL152_3 rfl
        have gL161_5 : jGet L161 5 = some (.int (i32 (b148))) := eL161 ▸ jg_ne (by decide) gL152_5 rfl
        have gL161_2 : jGet L161 2 = some (.int (i32 (0))) := eL161 ▸ jg_eq
        refine jx_ld (pc_q := 49) (l_q := L161) (st_q := [.int (i32 (b148))]) rfl (jl_iload gL161_5) ?_
        refine jx_if_eq (pc_q := 52) (tg := 58) rfl rfl rfl (Int.le_trans (by decide : (-2147483648 : Int) ≤ -2147483648) rb148.1) (Int.le_trans rb148.2 (by decide : (2147483647 : Int) ≤ 2147483647)) (fun h162 => ?_) (fun h162 => ?_)
        · have _q := h162
          refine jx_ld (pc_q := 59) (l_q := L161) (st_q := [.int (i32 (n))]) rfl (jl_iloadn gL161_3) ?_
          refine jx_ld (pc_q := 60) (l_q := jSto1 L161 3 (.int (i32 (n)))) (st_q := []) rfl rfl ?_
          obtain ⟨L163, eL163⟩ : ∃ q, q = jSto1 L161 3 (.int (i32 (n))) := ⟨_, rfl⟩
          rw [← eL163]
          have gL163_0 : jGet L163 0 = some (.ref 66) := eL163 ▸ jg_ne (by decide) gL161_0 rfl
          have gL163_1 : jGet L163 1 = some (.int (i32 (sg))) := eL163 ▸ jg_ne (by decide) gL161_1 rfl
          have gL163_4 : jGet L163 4 = some (.int (i32 (24))) := eL163 ▸ jg_ne (by decide) gL161_4 rfl
          have gL163_5 : jGet L163 5 = some (.int (i32 (b148))) := eL163 ▸ jg_ne (by decide) gL161_5 rfl
          have gL163_2 : jGet L163 2 = some (.int (i32 (0))) := eL163 ▸ jg_ne (by decide) gL161_2 rfl
          have gL163_3 : jGet L163 3 = some (.int (i32 (n))) := eL163 ▸ jg_eq
          refine jx_inc (pc_q := 63) (l_q := jSto1 L163 4 (.int (i32 ((24 + (8)))))) (x := 24) rfl gL163_4 (by decide) rfl rfl ?_
          obtain ⟨L164, eL164⟩ : ∃ q, q = jSto1 L163 4 (.int (i32 ((24 + (8))))) := ⟨_, rfl⟩
          rw [← eL164]
          have gL164_0 : jGet L164 0 = some (.ref 66) := eL164 ▸ jg_ne (by decide) gL163_0 rfl
          have gL164_1 : jGet L164 1 = some (.int (i32 (sg))) := eL164 ▸ jg_ne (by decide) gL163_1 rfl
          have gL164_5 : jGet L164 5 = some (.int (i32 (b148))) := eL164 ▸ jg_ne (by decide) gL163_5 rfl
          have gL164_2 : jGet L164 2 = some (.int (i32 (0))) := eL164 ▸ jg_ne (by decide) gL163_2 rfl
          have gL164_3 : jGet L164 3 = some (.int (i32 (n))) := eL164 ▸ jg_ne (by decide) gL163_3 rfl
          have gL164_4 : jGet L164 4 = some (.int (i32 ((24 + (8))))) := eL164 ▸ jg_eq
          refine jx_go (tg := 7) rfl rfl ?_
          exact c_put_at_7_32 (X := X) (d := d) (c0 := c0) (c1 := c1) (G := G) (A := A) (T := T) (sg := sg) (sz := sz) (hd := hd) (hW := hW) (e_sz := e_sz) (h_sg := h_sg) L164 Gx Ax (0) (n) gL164_0 gL164_1 gL164_4 gL164_2 gL164_3 hWx hFx ((fx_2)) (by omega) (by omega) (by omega) (by omega) (by omega) (by omega)
        · have _q := h162
          refine jx_ld (pc_q := 53) (l_q := L161) (st_q := [.int (i32 (n))]) rfl (jl_iloadn gL161_3) ?_
          refine jx_ar (pc_q := 54) (st_q := [.int (i32 (1)), .int (i32 (n))]) rfl rfl rfl rfl ?_
          refine jx_add (pc_q := 55) rfl rfl ?_
          refine jx_go (tg := 59) rfl rfl ?_
          refine jx_ld (pc_q := 60) (l_q := jSto1 L161 3 (.int (i32 ((n + 1))))) (st_q := []) rfl rfl ?_
          obtain ⟨L165, eL165⟩ : ∃ q, q = jSto1 L161 3 (.int (i32 ((n + 1)))) := ⟨_, rfl⟩
          rw [← eL165]
          have gL165_0 : jGet L165 0 = some (.ref 66) := eL165 ▸ jg_ne (by decide) gL161_0 rfl
          have gL165_1 : jGet L165 1 = some (.int (i32 (sg))) := eL165 ▸ jg_ne (by decide) gL161_1 rfl
          have gL165_4 : jGet L165 4 = some (.int (i32 (24))) := eL165 ▸ jg_ne (by decide) gL161_4 rfl
          have gL165_5 : jGet L165 5 = some (.int (i32 (b148))) := eL165 ▸ jg_ne (by decide) gL161_5 rfl
          have gL165_2 : jGet L165 2 = some (.int (i32 (0))) := eL165 ▸ jg_ne (by decide) gL161_2 rfl
          have gL165_3 : jGet L165 3 = some (.int (i32 ((n + 1)))) := eL165 ▸ jg_eq
          refine jx_inc (pc_q := 63) (l_q := jSto1 L165 4 (.int (i32 ((24 + (8)))))) (x := 24) rfl gL165_4 (by decide) rfl rfl ?_
          obtain ⟨L166, eL166⟩ : ∃ q, q = jSto1 L165 4 (.int (i32 ((24 + (8))))) := ⟨_, rfl⟩
          rw [← eL166]
          have gL166_0 : jGet L166 0 = some (.ref 66) := eL166 ▸ jg_ne (by decide) gL165_0 rfl
          have gL166_1 : jGet L166 1 = some (.int (i32 (sg))) := eL166 ▸ jg_ne (by decide) gL165_1 rfl
          have gL166_5 : jGet L166 5 = some (.int (i32 (b148))) := eL166 ▸ jg_ne (by decide) gL165_5 rfl
          have gL166_2 : jGet L166 2 = some (.int (i32 (0))) := eL166 ▸ jg_ne (by decide) gL165_2 rfl
          have gL166_3 : jGet L166 3 = some (.int (i32 ((n + 1)))) := eL166 ▸ jg_ne (by decide) gL165_3 rfl
          have gL166_4 : jGet L166 4 = some (.int (i32 ((24 + (8))))) := eL166 ▸ jg_eq
          refine jx_go (tg := 7) rfl rfl ?_
          exact c_put_at_7_32 (X := X) (d := d) (c0 := c0) (c1 := c1) (G := G) (A := A) (T := T) (sg := sg) (sz := sz) (hd := hd) (hW := hW) (e_sz := e_sz) (h_sg := h_sg) L166 Gx Ax (0) ((n + 1)) gL166_0 gL166_1 gL166_4 gL166_2 gL166_3 hWx hFx ((fx_2)) (by omega) (by omega) (by omega) (by omega) (by omega) (by omega)
      · have _q := h160
        refine jx_ld (pc_q := 35) (l_q := L152) (st_q := [.int (i32 (b148))]) rfl (jl_iload gL152_5) ?_
        refine jx_st (pc_q := 38) (as := [.int (i32 (b148))]) (st := []) rfl rfl ⟨rfl, Nat.le_of_ble_eq_true rfl⟩ rfl rfl rfl (c_isSign (dd := d) (hd := by omega) (v := b148)   (h_v := ⟨(Int.le_trans (by decide : (-2147483648 : Int) ≤ -2147483648) rb148.1), (Int.le_trans rb148.2 (by decide : (2147483647 : Int) ≤ 2147483647))⟩)  ) (fun o V_q hq => ?_)
        obtain ⟨r167, rfl, rfl, b168, q169⟩ := hq
        refine .inr ⟨_, rfl, ?_⟩
        rcases q169 with ⟨rfl, a170, a171⟩ | ⟨rfl, a172, a173⟩
        · have _q : True := trivial
          refine jx_if_ne (pc_q := 41) (tg := 45) rfl rfl rfl (by decide) (by decide) (fun h174 => ?_) (fun h174 => ?_)
          · have _q := h174
            refine jx_ar (pc_q := 46) (st_q := [.int (i32 (0))]) rfl rfl rfl rfl ?_
            refine jx_ld (pc_q := 47) (l_q := jSto1 L152 2 (.int (i32 (0)))) (st_q := []) rfl rfl ?_
            obtain ⟨L175, eL175⟩ : ∃ q, q = jSto1 L152 2 (.int (i32 (0))) := ⟨_, rfl⟩
            rw [← eL175]
            have gL175_0 : jGet L175 0 = some (.ref 66) := eL175 ▸ jg_ne (by decide) gL152_0 rfl
            have gL175_1 : jGet L175 1 = some (.int (i32 (sg))) := eL175 ▸ jg_ne (by decide) gL152_1 rfl
            have gL175_4 : jGet L175 4 = some (.int (i32 (24))) := eL175 ▸ jg_ne (by decide) gL152_4 rfl
            have gL175_3 : jGet L175 3 = some (.int (i32 (n))) := eL175 ▸ jg_ne (by decide) gL152_3 rfl
            have gL175_5 : jGet L175 5 = some (.int (i32 (b148))) := eL175 ▸ jg_ne (by decide) gL152_5 rfl
            have gL175_2 : jGet L175 2 = some (.int (i32 (0))) := eL175 ▸ jg_eq
            refine jx_ld (pc_q := 49) (l_q := L175) (st_q := [.int (i32 (b148))]) rfl (jl_iload gL175_5) ?_
            refine jx_if_eq (pc_q := 52) (tg := 58) rfl rfl rfl (Int.le_trans (by decide : (-2147483648 : Int) ≤ -2147483648) rb148.1) (Int.le_trans rb148.2 (by decide : (2147483647 : Int) ≤ 2147483647)) (fun h176 => ?_) (fun h176 => ?_)
            · have _q := h176
              refine jx_ld (pc_q := 59) (l_q := L175) (st_q := [.int (i32 (n))]) rfl (jl_iloadn gL175_3) ?_
              refine jx_ld (pc_q := 60) (l_q := jSto1 L175 3 (.int (i32 (n)))) (st_q := []) rfl rfl ?_
              obtain ⟨L177, eL177⟩ : ∃ q, q = jSto1 L175 3 (.int (i32 (n))) := ⟨_, rfl⟩
              rw [← eL177]
              have gL177_0 : jGet L177 0 = some (.ref 66) := eL177 ▸ jg_ne (by decide) gL175_0 rfl
              have gL177_1 : jGet L177 1 = some (.int (i32 (sg))) := eL177 ▸ jg_ne (by decide) gL175_1 rfl
              have gL177_4 : jGet L177 4 = some (.int (i32 (24))) := eL177 ▸ jg_ne (by decide) gL175_4 rfl
              have gL177_5 : jGet L177 5 = some (.int (i32 (b148))) := eL177 ▸ jg_ne (by decide) gL175_5 rfl
              have gL177_2 : jGet L177 2 = some (.int (i32 (0))) := eL177 ▸ jg_ne (by decide) gL175_2 rfl
              have gL177_3 : jGet L177 3 = some (.int (i32 (n))) := eL177 ▸ jg_eq
              refine jx_inc (pc_q := 63) (l_q := jSto1 L177 4 (.int (i32 ((24 + (8)))))) (x := 24) rfl gL177_4 (by decide) rfl rfl ?_
              obtain ⟨L178, eL178⟩ : ∃ q, q = jSto1 L177 4 (.int (i32 ((24 + (8))))) := ⟨_, rfl⟩
              rw [← eL178]
              have gL178_0 : jGet L178 0 = some (.ref 66) := eL178 ▸ jg_ne (by decide) gL177_0 rfl
              have gL178_1 : jGet L178 1 = some (.int (i32 (sg))) := eL178 ▸ jg_ne (by decide) gL177_1 rfl
              have gL178_5 : jGet L178 5 = some (.int (i32 (b148))) := eL178 ▸ jg_ne (by decide) gL177_5 rfl
              have gL178_2 : jGet L178 2 = some (.int (i32 (0))) := eL178 ▸ jg_ne (by decide) gL177_2 rfl
              have gL178_3 : jGet L178 3 = some (.int (i32 (n))) := eL178 ▸ jg_ne (by decide) gL177_3 rfl
              have gL178_4 : jGet L178 4 = some (.int (i32 ((24 + (8))))) := eL178 ▸ jg_eq
              refine jx_go (tg := 7) rfl rfl ?_
              exact c_put_at_7_32 (X := X) (d := d) (c0 := c0) (c1 := c1) (G := G) (A := A) (T := T) (sg := sg) (sz := sz) (hd := hd) (hW := hW) (e_sz := e_sz) (h_sg := h_sg) L178 Gx Ax (0) (n) gL178_0 gL178_1 gL178_4 gL178_2 gL178_3 hWx hFx ((fx_2)) (by omega) (by omega) (by omega) (by omega) (by omega) (by omega)
            · have _q := h176
              refine jx_ld (pc_q := 53) (l_q := L175) (st_q := [.int (i32 (n))]) rfl (jl_iloadn gL175_3) ?_
              refine jx_ar (pc_q := 54) (st_q := [.int (i32 (1)), .int (i32 (n))]) rfl rfl rfl rfl ?_
              refine jx_add (pc_q := 55) rfl rfl ?_
              refine jx_go (tg := 59) rfl rfl ?_
              refine jx_ld (pc_q := 60) (l_q := jSto1 L175 3 (.int (i32 ((n + 1))))) (st_q := []) rfl rfl ?_
              obtain ⟨L179, eL179⟩ : ∃ q, q = jSto1 L175 3 (.int (i32 ((n + 1)))) := ⟨_, rfl⟩
              rw [← eL179]
              have gL179_0 : jGet L179 0 = some (.ref 66) := eL179 ▸ jg_ne (by decide) gL175_0 rfl
              have gL179_1 : jGet L179 1 = some (.int (i32 (sg))) := eL179 ▸ jg_ne (by decide) gL175_1 rfl
              have gL179_4 : jGet L179 4 = some (.int (i32 (24))) := eL179 ▸ jg_ne (by decide) gL175_4 rfl
              have gL179_5 : jGet L179 5 = some (.int (i32 (b148))) := eL179 ▸ jg_ne (by decide) gL175_5 rfl
              have gL179_2 : jGet L179 2 = some (.int (i32 (0))) := eL179 ▸ jg_ne (by decide) gL175_2 rfl
              have gL179_3 : jGet L179 3 = some (.int (i32 ((n + 1)))) := eL179 ▸ jg_eq
              refine jx_inc (pc_q := 63) (l_q := jSto1 L179 4 (.int (i32 ((24 + (8)))))) (x := 24) rfl gL179_4 (by decide) rfl rfl ?_
              obtain ⟨L180, eL180⟩ : ∃ q, q = jSto1 L179 4 (.int (i32 ((24 + (8))))) := ⟨_, rfl⟩
              rw [← eL180]
              have gL180_0 : jGet L180 0 = some (.ref 66) := eL180 ▸ jg_ne (by decide) gL179_0 rfl
              have gL180_1 : jGet L180 1 = some (.int (i32 (sg))) := eL180 ▸ jg_ne (by decide) gL179_1 rfl
              have gL180_5 : jGet L180 5 = some (.int (i32 (b148))) := eL180 ▸ jg_ne (by decide) gL179_5 rfl
              have gL180_2 : jGet L180 2 = some (.int (i32 (0))) := eL180 ▸ jg_ne (by decide) gL179_2 rfl
              have gL180_3 : jGet L180 3 = some (.int (i32 ((n + 1)))) := eL180 ▸ jg_ne (by decide) gL179_3 rfl
              have gL180_4 : jGet L180 4 = some (.int (i32 ((24 + (8))))) := eL180 ▸ jg_eq
              refine jx_go (tg := 7) rfl rfl ?_
              exact c_put_at_7_32 (X := X) (d := d) (c0 := c0) (c1 := c1) (G := G) (A := A) (T := T) (sg := sg) (sz := sz) (hd := hd) (hW := hW) (e_sz := e_sz) (h_sg := h_sg) L180 Gx Ax (0) ((n + 1)) gL180_0 gL180_1 gL180_4 gL180_2 gL180_3 hWx hFx ((fx_2)) (by omega) (by omega) (by omega) (by omega) (by omega) (by omega)
          · have _q := h174
            exact absurd h174 (by omega)
        · have _q : True := trivial
          refine jx_if_ne (pc_q := 41) (tg := 45) rfl rfl rfl (by decide) (by decide) (fun h181 => ?_) (fun h181 => ?_)
          · have _q := h181
            exact absurd h181 (by omega)
          · have _q := h181
            refine jx_ar (pc_q := 42) (st_q := [.int (i32 (1))]) rfl rfl rfl rfl ?_
            refine jx_go (tg := 46) rfl rfl ?_
            refine jx_ld (pc_q := 47) (l_q := jSto1 L152 2 (.int (i32 (1)))) (st_q := []) rfl rfl ?_
            obtain ⟨L182, eL182⟩ : ∃ q, q = jSto1 L152 2 (.int (i32 (1))) := ⟨_, rfl⟩
            rw [← eL182]
            have gL182_0 : jGet L182 0 = some (.ref 66) := eL182 ▸ jg_ne (by decide) gL152_0 rfl
            have gL182_1 : jGet L182 1 = some (.int (i32 (sg))) := eL182 ▸ jg_ne (by decide) gL152_1 rfl
            have gL182_4 : jGet L182 4 = some (.int (i32 (24))) := eL182 ▸ jg_ne (by decide) gL152_4 rfl
            have gL182_3 : jGet L182 3 = some (.int (i32 (n))) := eL182 ▸ jg_ne (by decide) gL152_3 rfl
            have gL182_5 : jGet L182 5 = some (.int (i32 (b148))) := eL182 ▸ jg_ne (by decide) gL152_5 rfl
            have gL182_2 : jGet L182 2 = some (.int (i32 (1))) := eL182 ▸ jg_eq
            refine jx_ld (pc_q := 49) (l_q := L182) (st_q := [.int (i32 (b148))]) rfl (jl_iload gL182_5) ?_
            refine jx_if_eq (pc_q := 52) (tg := 58) rfl rfl rfl (Int.le_trans (by decide : (-2147483648 : Int) ≤ -2147483648) rb148.1) (Int.le_trans rb148.2 (by decide : (2147483647 : Int) ≤ 2147483647)) (fun h183 => ?_) (fun h183 => ?_)
            · have _q := h183
              refine jx_ld (pc_q := 59) (l_q := L182) (st_q := [.int (i32 (n))]) rfl (jl_iloadn gL182_3) ?_
              refine jx_ld (pc_q := 60) (l_q := jSto1 L182 3 (.int (i32 (n)))) (st_q := []) rfl rfl ?_
              obtain ⟨L184, eL184⟩ : ∃ q, q = jSto1 L182 3 (.int (i32 (n))) := ⟨_, rfl⟩
              rw [← eL184]
              have gL184_0 : jGet L184 0 = some (.ref 66) := eL184 ▸ jg_ne (by decide) gL182_0 rfl
              have gL184_1 : jGet L184 1 = some (.int (i32 (sg))) := eL184 ▸ jg_ne (by decide) gL182_1 rfl
              have gL184_4 : jGet L184 4 = some (.int (i32 (24))) := eL184 ▸ jg_ne (by decide) gL182_4 rfl
              have gL184_5 : jGet L184 5 = some (.int (i32 (b148))) := eL184 ▸ jg_ne (by decide) gL182_5 rfl
              have gL184_2 : jGet L184 2 = some (.int (i32 (1))) := eL184 ▸ jg_ne (by decide) gL182_2 rfl
              have gL184_3 : jGet L184 3 = some (.int (i32 (n))) := eL184 ▸ jg_eq
              refine jx_inc (pc_q := 63) (l_q := jSto1 L184 4 (.int (i32 ((24 + (8)))))) (x := 24) rfl gL184_4 (by decide) rfl rfl ?_
              obtain ⟨L185, eL185⟩ : ∃ q, q = jSto1 L184 4 (.int (i32 ((24 + (8))))) := ⟨_, rfl⟩
              rw [← eL185]
              have gL185_0 : jGet L185 0 = some (.ref 66) := eL185 ▸ jg_ne (by decide) gL184_0 rfl
              have gL185_1 : jGet L185 1 = some (.int (i32 (sg))) := eL185 ▸ jg_ne (by decide) gL184_1 rfl
              have gL185_5 : jGet L185 5 = some (.int (i32 (b148))) := eL185 ▸ jg_ne (by decide) gL184_5 rfl
              have gL185_2 : jGet L185 2 = some (.int (i32 (1))) := eL185 ▸ jg_ne (by decide) gL184_2 rfl
              have gL185_3 : jGet L185 3 = some (.int (i32 (n))) := eL185 ▸ jg_ne (by decide) gL184_3 rfl
              have gL185_4 : jGet L185 4 = some (.int (i32 ((24 + (8))))) := eL185 ▸ jg_eq
              refine jx_go (tg := 7) rfl rfl ?_
              exact c_put_at_7_32 (X := X) (d := d) (c0 := c0) (c1 := c1) (G := G) (A := A) (T := T) (sg := sg) (sz := sz) (hd := hd) (hW := hW) (e_sz := e_sz) (h_sg := h_sg) L185 Gx Ax (1) (n) gL185_0 gL185_1 gL185_4 gL185_2 gL185_3 hWx hFx ((fx_2)) (by omega) (by omega) (by omega) (by omega) (by omega) (by omega)
            · have _q := h183
              refine jx_ld (pc_q := 53) (l_q := L182) (st_q := [.int (i32 (n))]) rfl (jl_iloadn gL182_3) ?_
              refine jx_ar (pc_q := 54) (st_q := [.int (i32 (1)), .int (i32 (n))]) rfl rfl rfl rfl ?_
              refine jx_add (pc_q := 55) rfl rfl ?_
              refine jx_go (tg := 59) rfl rfl ?_
              refine jx_ld (pc_q := 60) (l_q := jSto1 L182 3 (.int (i32 ((n + 1))))) (st_q := []) rfl rfl ?_
              obtain ⟨L186, eL186⟩ : ∃ q, q = jSto1 L182 3 (.int (i32 ((n + 1)))) := ⟨_, rfl⟩
              rw [← eL186]
              have gL186_0 : jGet L186 0 = some (.ref 66) := eL186 ▸ jg_ne (by decide) gL182_0 rfl
              have gL186_1 : jGet L186 1 = some (.int (i32 (sg))) := eL186 ▸ jg_ne (by decide) gL182_1 rfl
              have gL186_4 : jGet L186 4 = some (.int (i32 (24))) := eL186 ▸ jg_ne (by decide) gL182_4 rfl
              have gL186_5 : jGet L186 5 = some (.int (i32 (b148))) := eL186 ▸ jg_ne (by decide) gL182_5 rfl
              have gL186_2 : jGet L186 2 = some (.int (i32 (1))) := eL186 ▸ jg_ne (by decide) gL182_2 rfl
              have gL186_3 : jGet L186 3 = some (.int (i32 ((n + 1)))) := eL186 ▸ jg_eq
              refine jx_inc (pc_q := 63) (l_q := jSto1 L186 4 (.int (i32 ((24 + (8)))))) (x := 24) rfl gL186_4 (by decide) rfl rfl ?_
              obtain ⟨L187, eL187⟩ : ∃ q, q = jSto1 L186 4 (.int (i32 ((24 + (8))))) := ⟨_, rfl⟩
              rw [← eL187]
              have gL187_0 : jGet L187 0 = some (.ref 66) := eL187 ▸ jg_ne (by decide) gL186_0 rfl
              have gL187_1 : jGet L187 1 = some (.int (i32 (sg))) := eL187 ▸ jg_ne (by decide) gL186_1 rfl
              have gL187_5 : jGet L187 5 = some (.int (i32 (b148))) := eL187 ▸ jg_ne (by decide) gL186_5 rfl
              have gL187_2 : jGet L187 2 = some (.int (i32 (1))) := eL187 ▸ jg_ne (by decide) gL186_2 rfl
              have gL187_3 : jGet L187 3 = some (.int (i32 ((n + 1)))) := eL187 ▸ jg_ne (by decide) gL186_3 rfl
              have gL187_4 : jGet L187 4 = some (.int (i32 ((24 + (8))))) := eL187 ▸ jg_eq
              refine jx_go (tg := 7) rfl rfl ?_
              exact c_put_at_7_32 (X := X) (d := d) (c0 := c0) (c1 := c1) (G := G) (A := A) (T := T) (sg := sg) (sz := sz) (hd := hd) (hW := hW) (e_sz := e_sz) (h_sg := h_sg) L187 Gx Ax (1) ((n + 1)) gL187_0 gL187_1 gL187_4 gL187_2 gL187_3 hWx hFx ((fx_2)) (by omega) (by omega) (by omega) (by omega) (by omega) (by omega)
set_option maxRecDepth 20000 in
set_option maxHeartbeats 4000000 in
theorem c_put_at_7_16 {X : jX} {d : Nat} {c0 c1 : jC} {G : Nat → Int} {A : Nat → Nat → Int} {T : jH} {sg : Int} {sz : Int} (hd : 3 ≤ d + 1) (hW : Wk G A) (e_sz : G 2 = sz) (h_sg : (-2147483648 : Int) ≤ sg ∧ sg ≤ 2147483647) : ∀ (L : jL) (Gx : Nat → Int) (Ax : Nat → Nat → Int) (bd n : Int), jGet L 0 = some (.ref 66) → jGet L 1 = some (.int (i32 (sg))) → jGet L 4 = some (.int (i32 (16))) → jGet L 2 = some (.int (i32 bd)) → jGet L 3 = some (.int (i32 n)) → Wk Gx Ax → Fr [0, 2] [0] G A Gx Ax → Gx 2 = sz → ((-2147483648 : Int) ≤ bd ∧ bd ≤ 2147483647) → ((-2147483648 : Int) ≤ n ∧ n ≤ 2147483647) → (0 ≤ bd ∧ bd ≤ 1) → (bd = 0 → 0 + snb (bt sg 0) + snb (bt sg 8) = 0) → (bd = 1 → 1 ≤ 0 + snb (bt sg 0) + snb (bt sg 8)) → (n = 0 + tz (bt sg 0) + tz (bt sg 8)) → wj X d jm248 (7, L, [], rV c0 c1 Gx Ax T) (fun o V_q => ∃ (G_q : Nat → Int) (A_q : Nat → Nat → Int) (r : Int) (th2 : Int) (sz2 : Int), V_q = rV c0 c1 G_q A_q T ∧ o = .inl (some (.int (i32 r))) ∧ Wk G_q A_q ∧ Fr [0, 2] [0] G A G_q A_q ∧ ((-2147483648 : Int) ≤ r ∧ r ≤ 2147483647) ∧ G_q 0 = th2 ∧ G_q 2 = sz2 ∧ (((r = 0) ∧ (1 ≤ 0 + snb (bt sg 0) + snb (bt sg 8) + snb (bt sg 16) + snb (bt sg 24)) ∧ (th2 = 1) ∧ (sz2 = sz)) ∨ ((r = 0) ∧ (0 + snb (bt sg 0) + snb (bt sg 8) + snb (bt sg 16) + snb (bt sg 24) = 0) ∧ (3000 < sz + 0 + tz (bt sg 0) + tz (bt sg 8) + tz (bt sg 16) + tz (bt sg 24)) ∧ (th2 = 2) ∧ (sz2 = sz)) ∨ ((0 + snb (bt sg 0) + snb (bt sg 8) + snb (bt sg 16) + snb (bt sg 24) = 0) ∧ (sz2 = sz + 0 + tz (bt sg 0) + tz (bt sg 8) + tz (bt sg 16) + tz (bt sg 24)) ∧ (sz2 ≤ 3000) ∧ (r = sz2) ∧ (th2 = 0)))) := by
  have hF0 : Fr [0, 2] [0] G A G A := Fr_rf
  have b_sz : (0 : Int) ≤ sz ∧ sz ≤ 3000 := e_sz ▸ hW.1 2
  intro L Gx Ax bd n gL_0 gL_1 gL_4 gL_2 gL_3 hWx hFx fx_2 rx_bd rx_n iv_0 iv_1 iv_2 iv_3
  have ub0 := snb_b (bt sg 0)
  have ut0 := tz_b (bt sg 0)
  have ub8 := snb_b (bt sg 8)
  have ut8 := tz_b (bt sg 8)
  have ub16 := snb_b (bt sg 16)
  have ut16 := tz_b (bt sg 16)
  have ub24 := snb_b (bt sg 24)
  have ut24 := tz_b (bt sg 24)
  refine jx_ld (pc_q := 9) (l_q := L) (st_q := [.int (i32 (16))]) rfl (jl_iload gL_4) ?_
  refine jx_ar (pc_q := 11) (st_q := [.int (i32 (32)), .int (i32 (16))]) rfl rfl rfl rfl ?_
  refine jx_icmp_ge (pc_q := 14) (tg := 66) rfl rfl rfl (by decide) (by decide) (by decide) (by decide) (fun h188 => ?_) (fun h188 => ?_)
  · have _q := h188
    exact absurd h188 (by omega)
  · have _q := h188
    refine jx_ld (pc_q := 15) (l_q := L) (st_q := [.int (i32 (sg))]) rfl (jl_iloadn gL_1) ?_
    refine jx_ld (pc_q := 17) (l_q := L) (st_q := [.int (i32 (16)), .int (i32 (sg))]) rfl (jl_iload gL_4) ?_
    refine jx_shr (pc_q := 18) rfl rfl ?_
    obtain ⟨b189, eb189⟩ : ∃ z, z = (i32 (sg) >>> (i32 (16) &&& 31)).toInt := ⟨_, rfl⟩
    rw [← eb189]
    have rb189 : (-2147483648 : Int) ≤ b189 ∧ b189 ≤ 2147483647 := eb189 ▸ i32_rg _
    refine jx_ar (pc_q := 21) (st_q := [.int (i32 (255)), .int (i32 (b189))]) rfl rfl rfl rfl ?_
    refine jx_and (pc_q := 22) rfl rfl ?_
    obtain ⟨b190, eb190⟩ : ∃ z, z = (i32 (b189) &&& i32 (255)).toInt := ⟨_, rfl⟩
    rw [← eb190]
    have rb190 : (-2147483648 : Int) ≤ b190 ∧ b190 ≤ 2147483647 := eb190 ▸ i32_rg _
    have bq191 : bt sg 16 = b190 := by rw [eb190, eb189]; rfl
    have bq192 := snb_f (bt sg 16)
    have bq193 := tz_f (bt sg 16)
    refine jx_ld (pc_q := 24) (l_q := jSto1 L 5 (.int (i32 (b190)))) (st_q := []) rfl rfl ?_
    obtain ⟨L194, eL194⟩ : ∃ q, q = jSto1 L 5 (.int (i32 (b190))) := ⟨_, rfl⟩
    rw [← eL194]
    have gL194_0 : jGet L194 0 = some (.ref 66) := eL194 ▸ jg_ne (by decide) gL_0 rfl
    have gL194_1 : jGet L194 1 = some (.int (i32 (sg))) := eL194 ▸ jg_ne (by decide) gL_1 rfl
    have gL194_4 : jGet L194 4 = some (.int (i32 (16))) := eL194 ▸ jg_ne (by decide) gL_4 rfl
    have gL194_2 : jGet L194 2 = some (.int (i32 (bd))) := eL194 ▸ jg_ne (by decide) gL_2 rfl
    have gL194_3 : jGet L194 3 = some (.int (i32 (n))) := eL194 ▸ jg_ne (by decide) gL_3 rfl
    have gL194_5 : jGet L194 5 = some (.int (i32 (b190))) := eL194 ▸ jg_eq
    refine jx_ld (pc_q := 25) (l_q := L194) (st_q := [.int (i32 (bd))]) rfl (jl_iloadn gL194_2) ?_
    refine jx_if_ne (pc_q := 28) (tg := 41) rfl rfl rfl (Int.le_trans (by decide : (-2147483648 : Int) ≤ -2147483648) rx_bd.1) (Int.le_trans rx_bd.2 (by decide : (2147483647 : Int) ≤ 2147483647)) (fun h195 => ?_) (fun h195 => ?_)
    · have _q := h195
      refine jx_ar (pc_q := 42) (st_q := [.int (i32 (1))]) rfl rfl rfl rfl ?_
      refine jx_go (tg := 46) rfl rfl ?_
      refine jx_ld (pc_q := 47) (l_q := jSto1 L194 2 (.int (i32 (1)))) (st_q := []) rfl rfl ?_
      obtain ⟨L196, eL196⟩ : ∃ q, q = jSto1 L194 2 (.int (i32 (1))) := ⟨_, rfl⟩
      rw [← eL196]
      have gL196_0 : jGet L196 0 = some (.ref 66) := eL196 ▸ jg_ne (by decide) gL194_0 rfl
      have gL196_1 : jGet L196 1 = some (.int (i32 (sg))) := eL196 ▸ jg_ne (by decide) gL194_1 rfl
      have gL196_4 : jGet L196 4 = some (.int (i32 (16))) := eL196 ▸ jg_ne (by decide) gL194_4 rfl
      have gL196_3 : jGet L196 3 = some (.int (i32 (n))) := eL196 ▸ jg_ne (by decide) gL194_3 rfl
      have gL196_5 : jGet L196 5 = some (.int (i32 (b190))) := eL196 ▸ jg_ne (by decide) gL194_5 rfl
      have gL196_2 : jGet L196 2 = some (.int (i32 (1))) := eL196 ▸ jg_eq
      refine jx_ld (pc_q := 49) (l_q := L196) (st_q := [.int (i32 (b190))]) rfl (jl_iload gL196_5) ?_
      refine jx_if_eq (pc_q := 52) (tg := 58) rfl rfl rfl (Int.le_trans (by decide : (-2147483648 : Int) ≤ -2147483648) rb190.1) (Int.le_trans rb190.2 (by decide : (2147483647 : Int) ≤ 2147483647)) (fun h197 => ?_) (fun h197 => ?_)
      · have _q := h197
        refine jx_ld (pc_q := 59) (l_q := L196) (st_q := [.int (i32 (n))]) rfl (jl_iloadn gL196_3) ?_
        refine jx_ld (pc_q := 60) (l_q := jSto1 L196 3 (.int (i32 (n)))) (st_q := []) rfl rfl ?_
        obtain ⟨L198, eL198⟩ : ∃ q, q = jSto1 L196 3 (.int (i32 (n))) := ⟨_, rfl⟩
        rw [← eL198]
        have gL198_0 : jGet L198 0 = some (.ref 66) := eL198 ▸ jg_ne (by decide) gL196_0 rfl
        have gL198_1 : jGet L198 1 = some (.int (i32 (sg))) := eL198 ▸ jg_ne (by decide) gL196_1 rfl
        have gL198_4 : jGet L198 4 = some (.int (i32 (16))) := eL198 ▸ jg_ne (by decide) gL196_4 rfl
        have gL198_5 : jGet L198 5 = some (.int (i32 (b190))) := eL198 ▸ jg_ne (by decide) gL196_5 rfl
        have gL198_2 : jGet L198 2 = some (.int (i32 (1))) := eL198 ▸ jg_ne (by decide) gL196_2 rfl
        have gL198_3 : jGet L198 3 = some (.int (i32 (n))) := eL198 ▸ jg_eq
        refine jx_inc (pc_q := 63) (l_q := jSto1 L198 4 (.int (i32 ((16 + (8)))))) (x := 16) rfl gL198_4 (by decide) rfl rfl ?_
        obtain ⟨L199, eL199⟩ : ∃ q, q = jSto1 L198 4 (.int (i32 ((16 + (8))))) := ⟨_, rfl⟩
        rw [← eL199]
        have gL199_0 : jGet L199 0 = some (.ref 66) := eL199 ▸ jg_ne (by decide) gL198_0 rfl
        have gL199_1 : jGet L199 1 = some (.int (i32 (sg))) := eL199 ▸ jg_ne (by decide) gL198_1 rfl
        have gL199_5 : jGet L199 5 = some (.int (i32 (b190))) := eL199 ▸ jg_ne (by decide) gL198_5 rfl
        have gL199_2 : jGet L199 2 = some (.int (i32 (1))) := eL199 ▸ jg_ne (by decide) gL198_2 rfl
        have gL199_3 : jGet L199 3 = some (.int (i32 (n))) := eL199 ▸ jg_ne (by decide) gL198_3 rfl
        have gL199_4 : jGet L199 4 = some (.int (i32 ((16 + (8))))) := eL199 ▸ jg_eq
        refine jx_go (tg := 7) rfl rfl ?_
        exact c_put_at_7_24 (X := X) (d := d) (c0 := c0) (c1 := c1) (G := G) (A := A) (T := T) (sg := sg) (sz := sz) (hd := hd) (hW := hW) (e_sz := e_sz) (h_sg := h_sg) L199 Gx Ax (1) (n) gL199_0 gL199_1 gL199_4 gL199_2 gL199_3 hWx hFx ((fx_2)) (by omega) (by omega) (by omega) (by omega) (by omega) (by omega)
      · have _q := h197
        refine jx_ld (pc_q := 53) (l_q := L196) (st_q := [.int (i32 (n))]) rfl (jl_iloadn gL196_3) ?_
        refine jx_ar (pc_q := 54) (st_q := [.int (i32 (1)), .int (i32 (n))]) rfl rfl rfl rfl ?_
        refine jx_add (pc_q := 55) rfl rfl ?_
        refine jx_go (tg := 59) rfl rfl ?_
        refine jx_ld (pc_q := 60) (l_q := jSto1 L196 3 (.int (i32 ((n + 1))))) (st_q := []) rfl rfl ?_
        obtain ⟨L200, eL200⟩ : ∃ q, q = jSto1 L196 3 (.int (i32 ((n + 1)))) := ⟨_, rfl⟩
        rw [← eL200]
        have gL200_0 : jGet L200 0 = some (.ref 66) := eL200 ▸ jg_ne (by decide) gL196_0 rfl
        have gL200_1 : jGet L200 1 = some (.int (i32 (sg))) := eL200 ▸ jg_ne (by decide) gL196_1 rfl
        have gL200_4 : jGet L200 4 = some (.int (i32 (16))) := eL200 ▸ jg_ne (by decide) gL196_4 rfl
        have gL200_5 : jGet L200 5 = some (.int (i32 (b190))) := eL200 ▸ jg_ne (by decide) gL196_5 rfl
        have gL200_2 : jGet L200 2 = some (.int (i32 (1))) := eL200 ▸ jg_ne (by decide) gL196_2 rfl
        have gL200_3 : jGet L200 3 = some (.int (i32 ((n + 1)))) := eL200 ▸ jg_eq
        refine jx_inc (pc_q := 63) (l_q := jSto1 L200 4 (.int (i32 ((16 + (8)))))) (x := 16) rfl gL200_4 (by decide) rfl rfl ?_
        obtain ⟨L201, eL201⟩ : ∃ q, q = jSto1 L200 4 (.int (i32 ((16 + (8))))) := ⟨_, rfl⟩
        rw [← eL201]
        have gL201_0 : jGet L201 0 = some (.ref 66) := eL201 ▸ jg_ne (by decide) gL200_0 rfl
        have gL201_1 : jGet L201 1 = some (.int (i32 (sg))) := eL201 ▸ jg_ne (by decide) gL200_1 rfl
        have gL201_5 : jGet L201 5 = some (.int (i32 (b190))) := eL201 ▸ jg_ne (by decide) gL200_5 rfl
        have gL201_2 : jGet L201 2 = some (.int (i32 (1))) := eL201 ▸ jg_ne (by decide) gL200_2 rfl
        have gL201_3 : jGet L201 3 = some (.int (i32 ((n + 1)))) := eL201 ▸ jg_ne (by decide) gL200_3 rfl
        have gL201_4 : jGet L201 4 = some (.int (i32 ((16 + (8))))) := eL201 ▸ jg_eq
        refine jx_go (tg := 7) rfl rfl ?_
        exact c_put_at_7_24 (X := X) (d := d) (c0 := c0) (c1 := c1) (G := G) (A := A) (T := T) (sg := sg) (sz := sz) (hd := hd) (hW := hW) (e_sz := e_sz) (h_sg := h_sg) L201 Gx Ax (1) ((n + 1)) gL201_0 gL201_1 gL201_4 gL201_2 gL201_3 hWx hFx ((fx_2)) (by omega) (by omega) (by omega) (by omega) (by omega) (by omega)
    · have _q := h195
      refine jx_ld (pc_q := 30) (l_q := L194) (st_q := [.int (i32 (b190))]) rfl (jl_iload gL194_5) ?_
      refine jx_if_eq (pc_q := 33) (tg := 45) rfl rfl rfl (Int.le_trans (by decide : (-2147483648 : Int) ≤ -2147483648) rb190.1) (Int.le_trans rb190.2 (by decide : (2147483647 : Int) ≤ 2147483647)) (fun h202 => ?_) (fun h202 => ?_)
      · have _q := h202
        refine jx_ar (pc_q := 46) (st_q := [.int (i32 (0))]) rfl rfl rfl rfl ?_
        refine jx_ld (pc_q := 47) (l_q := jSto1 L194 2 (.int (i32 (0)))) (st_q := []) rfl rfl ?_
        obtain ⟨L203, eL203⟩ : ∃ q, q = jSto1 L194 2 (.int (i32 (0))) := ⟨_, rfl⟩
        rw [← eL203]
        have gL203_0 : jGet L203 0 = some (.ref 66) := eL203 ▸ jg_ne (by decide) gL194_0 rfl
        have gL203_1 : jGet L203 1 = some (.int (i32 (sg))) := eL203 ▸ jg_ne (by decide) gL194_1 rfl
        have gL203_4 : jGet L203 4 = some (.int (i32 (16))) := eL203 ▸ jg_ne (by decide) gL194_4 rfl
        have gL203_3 : jGet L203 3 = some (.int (i32 (n))) := eL203 ▸ jg_ne (by decide) gL194_3 rfl
        have gL203_5 : jGet L203 5 = some (.int (i32 (b190))) := eL203 ▸ jg_ne (by decide) gL194_5 rfl
        have gL203_2 : jGet L203 2 = some (.int (i32 (0))) := eL203 ▸ jg_eq
        refine jx_ld (pc_q := 49) (l_q := L203) (st_q := [.int (i32 (b190))]) rfl (jl_iload gL203_5) ?_
        refine jx_if_eq (pc_q := 52) (tg := 58) rfl rfl rfl (Int.le_trans (by decide : (-2147483648 : Int) ≤ -2147483648) rb190.1) (Int.le_trans rb190.2 (by decide : (2147483647 : Int) ≤ 2147483647)) (fun h204 => ?_) (fun h204 => ?_)
        · have _q := h204
          refine jx_ld (pc_q := 59) (l_q := L203) (st_q := [.int (i32 (n))]) rfl (jl_iloadn gL203_3) ?_
          refine jx_ld (pc_q := 60) (l_q := jSto1 L203 3 (.int (i32 (n)))) (st_q := []) rfl rfl ?_
          obtain ⟨L205, eL205⟩ : ∃ q, q = jSto1 L203 3 (.int (i32 (n))) := ⟨_, rfl⟩
          rw [← eL205]
          have gL205_0 : jGet L205 0 = some (.ref 66) := eL205 ▸ jg_ne (by decide) gL203_0 rfl
          have gL205_1 : jGet L205 1 = some (.int (i32 (sg))) := eL205 ▸ jg_ne (by decide) gL203_1 rfl
          have gL205_4 : jGet L205 4 = some (.int (i32 (16))) := eL205 ▸ jg_ne (by decide) gL203_4 rfl
          have gL205_5 : jGet L205 5 = some (.int (i32 (b190))) := eL205 ▸ jg_ne (by decide) gL203_5 rfl
          have gL205_2 : jGet L205 2 = some (.int (i32 (0))) := eL205 ▸ jg_ne (by decide) gL203_2 rfl
          have gL205_3 : jGet L205 3 = some (.int (i32 (n))) := eL205 ▸ jg_eq
          refine jx_inc (pc_q := 63) (l_q := jSto1 L205 4 (.int (i32 ((16 + (8)))))) (x := 16) rfl gL205_4 (by decide) rfl rfl ?_
          obtain ⟨L206, eL206⟩ : ∃ q, q = jSto1 L205 4 (.int (i32 ((16 + (8))))) := ⟨_, rfl⟩
          rw [← eL206]
          have gL206_0 : jGet L206 0 = some (.ref 66) := eL206 ▸ jg_ne (by decide) gL205_0 rfl
          have gL206_1 : jGet L206 1 = some (.int (i32 (sg))) := eL206 ▸ jg_ne (by decide) gL205_1 rfl
          have gL206_5 : jGet L206 5 = some (.int (i32 (b190))) := eL206 ▸ jg_ne (by decide) gL205_5 rfl
          have gL206_2 : jGet L206 2 = some (.int (i32 (0))) := eL206 ▸ jg_ne (by decide) gL205_2 rfl
          have gL206_3 : jGet L206 3 = some (.int (i32 (n))) := eL206 ▸ jg_ne (by decide) gL205_3 rfl
          have gL206_4 : jGet L206 4 = some (.int (i32 ((16 + (8))))) := eL206 ▸ jg_eq
          refine jx_go (tg := 7) rfl rfl ?_
          exact c_put_at_7_24 (X := X) (d := d) (c0 := c0) (c1 := c1) (G := G) (A := A) (T := T) (sg := sg) (sz := sz) (hd := hd) (hW := hW) (e_sz := e_sz) (h_sg := h_sg) L206 Gx Ax (0) (n) gL206_0 gL206_1 gL206_4 gL206_2 gL206_3 hWx hFx ((fx_2)) (by omega) (by omega) (by omega) (by omega) (by omega) (by omega)
        · have _q := h204
          refine jx_ld (pc_q := 53) (l_q := L203) (st_q := [.int (i32 (n))]) rfl (jl_iloadn gL203_3) ?_
          refine jx_ar (pc_q := 54) (st_q := [.int (i32 (1)), .int (i32 (n))]) rfl rfl rfl rfl ?_
          refine jx_add (pc_q := 55) rfl rfl ?_
          refine jx_go (tg := 59) rfl rfl ?_
          refine jx_ld (pc_q := 60) (l_q := jSto1 L203 3 (.int (i32 ((n + 1))))) (st_q := []) rfl rfl ?_
          obtain ⟨L207, eL207⟩ : ∃ q, q = jSto1 L203 3 (.int (i32 ((n + 1)))) := ⟨_, rfl⟩
          rw [← eL207]
          have gL207_0 : jGet L207 0 = some (.ref 66) := eL207 ▸ jg_ne (by decide) gL203_0 rfl
          have gL207_1 : jGet L207 1 = some (.int (i32 (sg))) := eL207 ▸ jg_ne (by decide) gL203_1 rfl
          have gL207_4 : jGet L207 4 = some (.int (i32 (16))) := eL207 ▸ jg_ne (by decide) gL203_4 rfl
          have gL207_5 : jGet L207 5 = some (.int (i32 (b190))) := eL207 ▸ jg_ne (by decide) gL203_5 rfl
          have gL207_2 : jGet L207 2 = some (.int (i32 (0))) := eL207 ▸ jg_ne (by decide) gL203_2 rfl
          have gL207_3 : jGet L207 3 = some (.int (i32 ((n + 1)))) := eL207 ▸ jg_eq
          refine jx_inc (pc_q := 63) (l_q := jSto1 L207 4 (.int (i32 ((16 + (8)))))) (x := 16) rfl gL207_4 (by decide) rfl rfl ?_
          obtain ⟨L208, eL208⟩ : ∃ q, q = jSto1 L207 4 (.int (i32 ((16 + (8))))) := ⟨_, rfl⟩
          rw [← eL208]
          have gL208_0 : jGet L208 0 = some (.ref 66) := eL208 ▸ jg_ne (by decide) gL207_0 rfl
          have gL208_1 : jGet L208 1 = some (.int (i32 (sg))) := eL208 ▸ jg_ne (by decide) gL207_1 rfl
          have gL208_5 : jGet L208 5 = some (.int (i32 (b190))) := eL208 ▸ jg_ne (by decide) gL207_5 rfl
          have gL208_2 : jGet L208 2 = some (.int (i32 (0))) := eL208 ▸ jg_ne (by decide) gL207_2 rfl
          have gL208_3 : jGet L208 3 = some (.int (i32 ((n + 1)))) := eL208 ▸ jg_ne (by decide) gL207_3 rfl
          have gL208_4 : jGet L208 4 = some (.int (i32 ((16 + (8))))) := eL208 ▸ jg_eq
          refine jx_go (tg := 7) rfl rfl ?_
          exact c_put_at_7_24 (X := X) (d := d) (c0 := c0) (c1 := c1) (G := G) (A := A) (T := T) (sg := sg) (sz := sz) (hd := hd) (hW := hW) (e_sz := e_sz) (h_sg := h_sg) L208 Gx Ax (0) ((n + 1)) gL208_0 gL208_1 gL208_4 gL208_2 gL208_3 hWx hFx ((fx_2)) (by omega) (by omega) (by omega) (by omega) (by omega) (by omega)
      · have _q := h202
        refine jx_ld (pc_q := 35) (l_q := L194) (st_q := [.int (i32 (b190))]) rfl (jl_iload gL194_5) ?_
        refine jx_st (pc_q := 38) (as := [.int (i32 (b190))]) (st := []) rfl rfl ⟨rfl, Nat.le_of_ble_eq_true rfl⟩ rfl rfl rfl (c_isSign (dd := d) (hd := by omega) (v := b190)   (h_v := ⟨(Int.le_trans (by decide : (-2147483648 : Int) ≤ -2147483648) rb190.1), (Int.le_trans rb190.2 (by decide : (2147483647 : Int) ≤ 2147483647))⟩)  ) (fun o V_q hq => ?_)
        obtain ⟨r209, rfl, rfl, b210, q211⟩ := hq
        refine .inr ⟨_, rfl, ?_⟩
        rcases q211 with ⟨rfl, a212, a213⟩ | ⟨rfl, a214, a215⟩
        · have _q : True := trivial
          refine jx_if_ne (pc_q := 41) (tg := 45) rfl rfl rfl (by decide) (by decide) (fun h216 => ?_) (fun h216 => ?_)
          · have _q := h216
            refine jx_ar (pc_q := 46) (st_q := [.int (i32 (0))]) rfl rfl rfl rfl ?_
            refine jx_ld (pc_q := 47) (l_q := jSto1 L194 2 (.int (i32 (0)))) (st_q := []) rfl rfl ?_
            obtain ⟨L217, eL217⟩ : ∃ q, q = jSto1 L194 2 (.int (i32 (0))) := ⟨_, rfl⟩
            rw [← eL217]
            have gL217_0 : jGet L217 0 = some (.ref 66) := eL217 ▸ jg_ne (by decide) gL194_0 rfl
            have gL217_1 : jGet L217 1 = some (.int (i32 (sg))) := eL217 ▸ jg_ne (by decide) gL194_1 rfl
            have gL217_4 : jGet L217 4 = some (.int (i32 (16))) := eL217 ▸ jg_ne (by decide) gL194_4 rfl
            have gL217_3 : jGet L217 3 = some (.int (i32 (n))) := eL217 ▸ jg_ne (by decide) gL194_3 rfl
            have gL217_5 : jGet L217 5 = some (.int (i32 (b190))) := eL217 ▸ jg_ne (by decide) gL194_5 rfl
            have gL217_2 : jGet L217 2 = some (.int (i32 (0))) := eL217 ▸ jg_eq
            refine jx_ld (pc_q := 49) (l_q := L217) (st_q := [.int (i32 (b190))]) rfl (jl_iload gL217_5) ?_
            refine jx_if_eq (pc_q := 52) (tg := 58) rfl rfl rfl (Int.le_trans (by decide : (-2147483648 : Int) ≤ -2147483648) rb190.1) (Int.le_trans rb190.2 (by decide : (2147483647 : Int) ≤ 2147483647)) (fun h218 => ?_) (fun h218 => ?_)
            · have _q := h218
              refine jx_ld (pc_q := 59) (l_q := L217) (st_q := [.int (i32 (n))]) rfl (jl_iloadn gL217_3) ?_
              refine jx_ld (pc_q := 60) (l_q := jSto1 L217 3 (.int (i32 (n)))) (st_q := []) rfl rfl ?_
              obtain ⟨L219, eL219⟩ : ∃ q, q = jSto1 L217 3 (.int (i32 (n))) := ⟨_, rfl⟩
              rw [← eL219]
              have gL219_0 : jGet L219 0 = some (.ref 66) := eL219 ▸ jg_ne (by decide) gL217_0 rfl
              have gL219_1 : jGet L219 1 = some (.int (i32 (sg))) := eL219 ▸ jg_ne (by decide) gL217_1 rfl
              have gL219_4 : jGet L219 4 = some (.int (i32 (16))) := eL219 ▸ jg_ne (by decide) gL217_4 rfl
              have gL219_5 : jGet L219 5 = some (.int (i32 (b190))) := eL219 ▸ jg_ne (by decide) gL217_5 rfl
              have gL219_2 : jGet L219 2 = some (.int (i32 (0))) := eL219 ▸ jg_ne (by decide) gL217_2 rfl
              have gL219_3 : jGet L219 3 = some (.int (i32 (n))) := eL219 ▸ jg_eq
              refine jx_inc (pc_q := 63) (l_q := jSto1 L219 4 (.int (i32 ((16 + (8)))))) (x := 16) rfl gL219_4 (by decide) rfl rfl ?_
              obtain ⟨L220, eL220⟩ : ∃ q, q = jSto1 L219 4 (.int (i32 ((16 + (8))))) := ⟨_, rfl⟩
              rw [← eL220]
              have gL220_0 : jGet L220 0 = some (.ref 66) := eL220 ▸ jg_ne (by decide) gL219_0 rfl
              have gL220_1 : jGet L220 1 = some (.int (i32 (sg))) := eL220 ▸ jg_ne (by decide) gL219_1 rfl
              have gL220_5 : jGet L220 5 = some (.int (i32 (b190))) := eL220 ▸ jg_ne (by decide) gL219_5 rfl
              have gL220_2 : jGet L220 2 = some (.int (i32 (0))) := eL220 ▸ jg_ne (by decide) gL219_2 rfl
              have gL220_3 : jGet L220 3 = some (.int (i32 (n))) := eL220 ▸ jg_ne (by decide) gL219_3 rfl
              have gL220_4 : jGet L220 4 = some (.int (i32 ((16 + (8))))) := eL220 ▸ jg_eq
              refine jx_go (tg := 7) rfl rfl ?_
              exact c_put_at_7_24 (X := X) (d := d) (c0 := c0) (c1 := c1) (G := G) (A := A) (T := T) (sg := sg) (sz := sz) (hd := hd) (hW := hW) (e_sz := e_sz) (h_sg := h_sg) L220 Gx Ax (0) (n) gL220_0 gL220_1 gL220_4 gL220_2 gL220_3 hWx hFx ((fx_2)) (by omega) (by omega) (by omega) (by omega) (by omega) (by omega)
            · have _q := h218
              refine jx_ld (pc_q := 53) (l_q := L217) (st_q := [.int (i32 (n))]) rfl (jl_iloadn gL217_3) ?_
              refine jx_ar (pc_q := 54) (st_q := [.int (i32 (1)), .int (i32 (n))]) rfl rfl rfl rfl ?_
              refine jx_add (pc_q := 55) rfl rfl ?_
              refine jx_go (tg := 59) rfl rfl ?_
              refine jx_ld (pc_q := 60) (l_q := jSto1 L217 3 (.int (i32 ((n + 1))))) (st_q := []) rfl rfl ?_
              obtain ⟨L221, eL221⟩ : ∃ q, q = jSto1 L217 3 (.int (i32 ((n + 1)))) := ⟨_, rfl⟩
              rw [← eL221]
              have gL221_0 : jGet L221 0 = some (.ref 66) := eL221 ▸ jg_ne (by decide) gL217_0 rfl
              have gL221_1 : jGet L221 1 = some (.int (i32 (sg))) := eL221 ▸ jg_ne (by decide) gL217_1 rfl
              have gL221_4 : jGet L221 4 = some (.int (i32 (16))) := eL221 ▸ jg_ne (by decide) gL217_4 rfl
              have gL221_5 : jGet L221 5 = some (.int (i32 (b190))) := eL221 ▸ jg_ne (by decide) gL217_5 rfl
              have gL221_2 : jGet L221 2 = some (.int (i32 (0))) := eL221 ▸ jg_ne (by decide) gL217_2 rfl
              have gL221_3 : jGet L221 3 = some (.int (i32 ((n + 1)))) := eL221 ▸ jg_eq
              refine jx_inc (pc_q := 63) (l_q := jSto1 L221 4 (.int (i32 ((16 + (8)))))) (x := 16) rfl gL221_4 (by decide) rfl rfl ?_
              obtain ⟨L222, eL222⟩ : ∃ q, q = jSto1 L221 4 (.int (i32 ((16 + (8))))) := ⟨_, rfl⟩
              rw [← eL222]
              have gL222_0 : jGet L222 0 = some (.ref 66) := eL222 ▸ jg_ne (by decide) gL221_0 rfl
              have gL222_1 : jGet L222 1 = some (.int (i32 (sg))) := eL222 ▸ jg_ne (by decide) gL221_1 rfl
              have gL222_5 : jGet L222 5 = some (.int (i32 (b190))) := eL222 ▸ jg_ne (by decide) gL221_5 rfl
              have gL222_2 : jGet L222 2 = some (.int (i32 (0))) := eL222 ▸ jg_ne (by decide) gL221_2 rfl
              have gL222_3 : jGet L222 3 = some (.int (i32 ((n + 1)))) := eL222 ▸ jg_ne (by decide) gL221_3 rfl
              have gL222_4 : jGet L222 4 = some (.int (i32 ((16 + (8))))) := eL222 ▸ jg_eq
              refine jx_go (tg := 7) rfl rfl ?_
              exact c_put_at_7_24 (X := X) (d := d) (c0 := c0) (c1 := c1) (G := G) (A := A) (T := T) (sg := sg) (sz := sz) (hd := hd) (hW := hW) (e_sz := e_sz) (h_sg := h_sg) L222 Gx Ax (0) ((n + 1)) gL222_0 gL222_1 gL222_4 gL222_2 gL222_3 hWx hFx ((fx_2)) (by omega) (by omega) (by omega) (by omega) (by omega) (by omega)
          · have _q := h216
            exact absurd h216 (by omega)
        · have _q : True := trivial
          refine jx_if_ne (pc_q := 41) (tg := 45) rfl rfl rfl (by decide) (by decide) (fun h223 => ?_) (fun h223 => ?_)
          · have _q := h223
            exact absurd h223 (by omega)
          · have _q := h223
            refine jx_ar (pc_q := 42) (st_q := [.int (i32 (1))]) rfl rfl rfl rfl ?_
            refine jx_go (tg := 46) rfl rfl ?_
            refine jx_ld (pc_q := 47) (l_q := jSto1 L194 2 (.int (i32 (1)))) (st_q := []) rfl rfl ?_
            obtain ⟨L224, eL224⟩ : ∃ q, q = jSto1 L194 2 (.int (i32 (1))) := ⟨_, rfl⟩
            rw [← eL224]
            have gL224_0 : jGet L224 0 = some (.ref 66) := eL224 ▸ jg_ne (by decide) gL194_0 rfl
            have gL224_1 : jGet L224 1 = some (.int (i32 (sg))) := eL224 ▸ jg_ne (by decide) gL194_1 rfl
            have gL224_4 : jGet L224 4 = some (.int (i32 (16))) := eL224 ▸ jg_ne (by decide) gL194_4 rfl
            have gL224_3 : jGet L224 3 = some (.int (i32 (n))) := eL224 ▸ jg_ne (by decide) gL194_3 rfl
            have gL224_5 : jGet L224 5 = some (.int (i32 (b190))) := eL224 ▸ jg_ne (by decide) gL194_5 rfl
            have gL224_2 : jGet L224 2 = some (.int (i32 (1))) := eL224 ▸ jg_eq
            refine jx_ld (pc_q := 49) (l_q := L224) (st_q := [.int (i32 (b190))]) rfl (jl_iload gL224_5) ?_
            refine jx_if_eq (pc_q := 52) (tg := 58) rfl rfl rfl (Int.le_trans (by decide : (-2147483648 : Int) ≤ -2147483648) rb190.1) (Int.le_trans rb190.2 (by decide : (2147483647 : Int) ≤ 2147483647)) (fun h225 => ?_) (fun h225 => ?_)
            · have _q := h225
              refine jx_ld (pc_q := 59) (l_q := L224) (st_q := [.int (i32 (n))]) rfl (jl_iloadn gL224_3) ?_
              refine jx_ld (pc_q := 60) (l_q := jSto1 L224 3 (.int (i32 (n)))) (st_q := []) rfl rfl ?_
              obtain ⟨L226, eL226⟩ : ∃ q, q = jSto1 L224 3 (.int (i32 (n))) := ⟨_, rfl⟩
              rw [← eL226]
              have gL226_0 : jGet L226 0 = some (.ref 66) := eL226 ▸ jg_ne (by decide) gL224_0 rfl
              have gL226_1 : jGet L226 1 = some (.int (i32 (sg))) := eL226 ▸ jg_ne (by decide) gL224_1 rfl
              have gL226_4 : jGet L226 4 = some (.int (i32 (16))) := eL226 ▸ jg_ne (by decide) gL224_4 rfl
              have gL226_5 : jGet L226 5 = some (.int (i32 (b190))) := eL226 ▸ jg_ne (by decide) gL224_5 rfl
              have gL226_2 : jGet L226 2 = some (.int (i32 (1))) := eL226 ▸ jg_ne (by decide) gL224_2 rfl
              have gL226_3 : jGet L226 3 = some (.int (i32 (n))) := eL226 ▸ jg_eq
              refine jx_inc (pc_q := 63) (l_q := jSto1 L226 4 (.int (i32 ((16 + (8)))))) (x := 16) rfl gL226_4 (by decide) rfl rfl ?_
              obtain ⟨L227, eL227⟩ : ∃ q, q = jSto1 L226 4 (.int (i32 ((16 + (8))))) := ⟨_, rfl⟩
              rw [← eL227]
              have gL227_0 : jGet L227 0 = some (.ref 66) := eL227 ▸ jg_ne (by decide) gL226_0 rfl
              have gL227_1 : jGet L227 1 = some (.int (i32 (sg))) := eL227 ▸ jg_ne (by decide) gL226_1 rfl
              have gL227_5 : jGet L227 5 = some (.int (i32 (b190))) := eL227 ▸ jg_ne (by decide) gL226_5 rfl
              have gL227_2 : jGet L227 2 = some (.int (i32 (1))) := eL227 ▸ jg_ne (by decide) gL226_2 rfl
              have gL227_3 : jGet L227 3 = some (.int (i32 (n))) := eL227 ▸ jg_ne (by decide) gL226_3 rfl
              have gL227_4 : jGet L227 4 = some (.int (i32 ((16 + (8))))) := eL227 ▸ jg_eq
              refine jx_go (tg := 7) rfl rfl ?_
              exact c_put_at_7_24 (X := X) (d := d) (c0 := c0) (c1 := c1) (G := G) (A := A) (T := T) (sg := sg) (sz := sz) (hd := hd) (hW := hW) (e_sz := e_sz) (h_sg := h_sg) L227 Gx Ax (1) (n) gL227_0 gL227_1 gL227_4 gL227_2 gL227_3 hWx hFx ((fx_2)) (by omega) (by omega) (by omega) (by omega) (by omega) (by omega)
            · have _q := h225
              refine jx_ld (pc_q := 53) (l_q := L224) (st_q := [.int (i32 (n))]) rfl (jl_iloadn gL224_3) ?_
              refine jx_ar (pc_q := 54) (st_q := [.int (i32 (1)), .int (i32 (n))]) rfl rfl rfl rfl ?_
              refine jx_add (pc_q := 55) rfl rfl ?_
              refine jx_go (tg := 59) rfl rfl ?_
              refine jx_ld (pc_q := 60) (l_q := jSto1 L224 3 (.int (i32 ((n + 1))))) (st_q := []) rfl rfl ?_
              obtain ⟨L228, eL228⟩ : ∃ q, q = jSto1 L224 3 (.int (i32 ((n + 1)))) := ⟨_, rfl⟩
              rw [← eL228]
              have gL228_0 : jGet L228 0 = some (.ref 66) := eL228 ▸ jg_ne (by decide) gL224_0 rfl
              have gL228_1 : jGet L228 1 = some (.int (i32 (sg))) := eL228 ▸ jg_ne (by decide) gL224_1 rfl
              have gL228_4 : jGet L228 4 = some (.int (i32 (16))) := eL228 ▸ jg_ne (by decide) gL224_4 rfl
              have gL228_5 : jGet L228 5 = some (.int (i32 (b190))) := eL228 ▸ jg_ne (by decide) gL224_5 rfl
              have gL228_2 : jGet L228 2 = some (.int (i32 (1))) := eL228 ▸ jg_ne (by decide) gL224_2 rfl
              have gL228_3 : jGet L228 3 = some (.int (i32 ((n + 1)))) := eL228 ▸ jg_eq
              refine jx_inc (pc_q := 63) (l_q := jSto1 L228 4 (.int (i32 ((16 + (8)))))) (x := 16) rfl gL228_4 (by decide) rfl rfl ?_
              obtain ⟨L229, eL229⟩ : ∃ q, q = jSto1 L228 4 (.int (i32 ((16 + (8))))) := ⟨_, rfl⟩
              rw [← eL229]
              have gL229_0 : jGet L229 0 = some (.ref 66) := eL229 ▸ jg_ne (by decide) gL228_0 rfl
              have gL229_1 : jGet L229 1 = some (.int (i32 (sg))) := eL229 ▸ jg_ne (by decide) gL228_1 rfl
              have gL229_5 : jGet L229 5 = some (.int (i32 (b190))) := eL229 ▸ jg_ne (by decide) gL228_5 rfl
              have gL229_2 : jGet L229 2 = some (.int (i32 (1))) := eL229 ▸ jg_ne (by decide) gL228_2 rfl
              have gL229_3 : jGet L229 3 = some (.int (i32 ((n + 1)))) := eL229 ▸ jg_ne (by decide) gL228_3 rfl
              have gL229_4 : jGet L229 4 = some (.int (i32 ((16 + (8))))) := eL229 ▸ jg_eq
              refine jx_go (tg := 7) rfl rfl ?_
              exact c_put_at_7_24 (X := X) (d := d) (c0 := c0) (c1 := c1) (G := G) (A := A) (T := T) (sg := sg) (sz := sz) (hd := hd) (hW := hW) (e_sz := e_sz) (h_sg := h_sg) L229 Gx Ax (1) ((n + 1)) gL229_0 gL229_1 gL229_4 gL229_2 gL229_3 hWx hFx ((fx_2)) (by omega) (by omega) (by omega) (by omega) (by omega) (by omega)
set_option maxRecDepth 20000 in
set_option maxHeartbeats 4000000 in
theorem c_put_at_7_8 {X : jX} {d : Nat} {c0 c1 : jC} {G : Nat → Int} {A : Nat → Nat → Int} {T : jH} {sg : Int} {sz : Int} (hd : 3 ≤ d + 1) (hW : Wk G A) (e_sz : G 2 = sz) (h_sg : (-2147483648 : Int) ≤ sg ∧ sg ≤ 2147483647) : ∀ (L : jL) (Gx : Nat → Int) (Ax : Nat → Nat → Int) (bd n : Int), jGet L 0 = some (.ref 66) → jGet L 1 = some (.int (i32 (sg))) → jGet L 4 = some (.int (i32 (8))) → jGet L 2 = some (.int (i32 bd)) → jGet L 3 = some (.int (i32 n)) → Wk Gx Ax → Fr [0, 2] [0] G A Gx Ax → Gx 2 = sz → ((-2147483648 : Int) ≤ bd ∧ bd ≤ 2147483647) → ((-2147483648 : Int) ≤ n ∧ n ≤ 2147483647) → (0 ≤ bd ∧ bd ≤ 1) → (bd = 0 → 0 + snb (bt sg 0) = 0) → (bd = 1 → 1 ≤ 0 + snb (bt sg 0)) → (n = 0 + tz (bt sg 0)) → wj X d jm248 (7, L, [], rV c0 c1 Gx Ax T) (fun o V_q => ∃ (G_q : Nat → Int) (A_q : Nat → Nat → Int) (r : Int) (th2 : Int) (sz2 : Int), V_q = rV c0 c1 G_q A_q T ∧ o = .inl (some (.int (i32 r))) ∧ Wk G_q A_q ∧ Fr [0, 2] [0] G A G_q A_q ∧ ((-2147483648 : Int) ≤ r ∧ r ≤ 2147483647) ∧ G_q 0 = th2 ∧ G_q 2 = sz2 ∧ (((r = 0) ∧ (1 ≤ 0 + snb (bt sg 0) + snb (bt sg 8) + snb (bt sg 16) + snb (bt sg 24)) ∧ (th2 = 1) ∧ (sz2 = sz)) ∨ ((r = 0) ∧ (0 + snb (bt sg 0) + snb (bt sg 8) + snb (bt sg 16) + snb (bt sg 24) = 0) ∧ (3000 < sz + 0 + tz (bt sg 0) + tz (bt sg 8) + tz (bt sg 16) + tz (bt sg 24)) ∧ (th2 = 2) ∧ (sz2 = sz)) ∨ ((0 + snb (bt sg 0) + snb (bt sg 8) + snb (bt sg 16) + snb (bt sg 24) = 0) ∧ (sz2 = sz + 0 + tz (bt sg 0) + tz (bt sg 8) + tz (bt sg 16) + tz (bt sg 24)) ∧ (sz2 ≤ 3000) ∧ (r = sz2) ∧ (th2 = 0)))) := by
  have hF0 : Fr [0, 2] [0] G A G A := Fr_rf
  have b_sz : (0 : Int) ≤ sz ∧ sz ≤ 3000 := e_sz ▸ hW.1 2
  intro L Gx Ax bd n gL_0 gL_1 gL_4 gL_2 gL_3 hWx hFx fx_2 rx_bd rx_n iv_0 iv_1 iv_2 iv_3
  have ub0 := snb_b (bt sg 0)
  have ut0 := tz_b (bt sg 0)
  have ub8 := snb_b (bt sg 8)
  have ut8 := tz_b (bt sg 8)
  have ub16 := snb_b (bt sg 16)
  have ut16 := tz_b (bt sg 16)
  have ub24 := snb_b (bt sg 24)
  have ut24 := tz_b (bt sg 24)
  refine jx_ld (pc_q := 9) (l_q := L) (st_q := [.int (i32 (8))]) rfl (jl_iload gL_4) ?_
  refine jx_ar (pc_q := 11) (st_q := [.int (i32 (32)), .int (i32 (8))]) rfl rfl rfl rfl ?_
  refine jx_icmp_ge (pc_q := 14) (tg := 66) rfl rfl rfl (by decide) (by decide) (by decide) (by decide) (fun h230 => ?_) (fun h230 => ?_)
  · have _q := h230
    exact absurd h230 (by omega)
  · have _q := h230
    refine jx_ld (pc_q := 15) (l_q := L) (st_q := [.int (i32 (sg))]) rfl (jl_iloadn gL_1) ?_
    refine jx_ld (pc_q := 17) (l_q := L) (st_q := [.int (i32 (8)), .int (i32 (sg))]) rfl (jl_iload gL_4) ?_
    refine jx_shr (pc_q := 18) rfl rfl ?_
    obtain ⟨b231, eb231⟩ : ∃ z, z = (i32 (sg) >>> (i32 (8) &&& 31)).toInt := ⟨_, rfl⟩
    rw [← eb231]
    have rb231 : (-2147483648 : Int) ≤ b231 ∧ b231 ≤ 2147483647 := eb231 ▸ i32_rg _
    refine jx_ar (pc_q := 21) (st_q := [.int (i32 (255)), .int (i32 (b231))]) rfl rfl rfl rfl ?_
    refine jx_and (pc_q := 22) rfl rfl ?_
    obtain ⟨b232, eb232⟩ : ∃ z, z = (i32 (b231) &&& i32 (255)).toInt := ⟨_, rfl⟩
    rw [← eb232]
    have rb232 : (-2147483648 : Int) ≤ b232 ∧ b232 ≤ 2147483647 := eb232 ▸ i32_rg _
    have bq233 : bt sg 8 = b232 := by rw [eb232, eb231]; rfl
    have bq234 := snb_f (bt sg 8)
    have bq235 := tz_f (bt sg 8)
    refine jx_ld (pc_q := 24) (l_q := jSto1 L 5 (.int (i32 (b232)))) (st_q := []) rfl rfl ?_
    obtain ⟨L236, eL236⟩ : ∃ q, q = jSto1 L 5 (.int (i32 (b232))) := ⟨_, rfl⟩
    rw [← eL236]
    have gL236_0 : jGet L236 0 = some (.ref 66) := eL236 ▸ jg_ne (by decide) gL_0 rfl
    have gL236_1 : jGet L236 1 = some (.int (i32 (sg))) := eL236 ▸ jg_ne (by decide) gL_1 rfl
    have gL236_4 : jGet L236 4 = some (.int (i32 (8))) := eL236 ▸ jg_ne (by decide) gL_4 rfl
    have gL236_2 : jGet L236 2 = some (.int (i32 (bd))) := eL236 ▸ jg_ne (by decide) gL_2 rfl
    have gL236_3 : jGet L236 3 = some (.int (i32 (n))) := eL236 ▸ jg_ne (by decide) gL_3 rfl
    have gL236_5 : jGet L236 5 = some (.int (i32 (b232))) := eL236 ▸ jg_eq
    refine jx_ld (pc_q := 25) (l_q := L236) (st_q := [.int (i32 (bd))]) rfl (jl_iloadn gL236_2) ?_
    refine jx_if_ne (pc_q := 28) (tg := 41) rfl rfl rfl (Int.le_trans (by decide : (-2147483648 : Int) ≤ -2147483648) rx_bd.1) (Int.le_trans rx_bd.2 (by decide : (2147483647 : Int) ≤ 2147483647)) (fun h237 => ?_) (fun h237 => ?_)
    · have _q := h237
      refine jx_ar (pc_q := 42) (st_q := [.int (i32 (1))]) rfl rfl rfl rfl ?_
      refine jx_go (tg := 46) rfl rfl ?_
      refine jx_ld (pc_q := 47) (l_q := jSto1 L236 2 (.int (i32 (1)))) (st_q := []) rfl rfl ?_
      obtain ⟨L238, eL238⟩ : ∃ q, q = jSto1 L236 2 (.int (i32 (1))) := ⟨_, rfl⟩
      rw [← eL238]
      have gL238_0 : jGet L238 0 = some (.ref 66) := eL238 ▸ jg_ne (by decide) gL236_0 rfl
      have gL238_1 : jGet L238 1 = some (.int (i32 (sg))) := eL238 ▸ jg_ne (by decide) gL236_1 rfl
      have gL238_4 : jGet L238 4 = some (.int (i32 (8))) := eL238 ▸ jg_ne (by decide) gL236_4 rfl
      have gL238_3 : jGet L238 3 = some (.int (i32 (n))) := eL238 ▸ jg_ne (by decide) gL236_3 rfl
      have gL238_5 : jGet L238 5 = some (.int (i32 (b232))) := eL238 ▸ jg_ne (by decide) gL236_5 rfl
      have gL238_2 : jGet L238 2 = some (.int (i32 (1))) := eL238 ▸ jg_eq
      refine jx_ld (pc_q := 49) (l_q := L238) (st_q := [.int (i32 (b232))]) rfl (jl_iload gL238_5) ?_
      refine jx_if_eq (pc_q := 52) (tg := 58) rfl rfl rfl (Int.le_trans (by decide : (-2147483648 : Int) ≤ -2147483648) rb232.1) (Int.le_trans rb232.2 (by decide : (2147483647 : Int) ≤ 2147483647)) (fun h239 => ?_) (fun h239 => ?_)
      · have _q := h239
        refine jx_ld (pc_q := 59) (l_q := L238) (st_q := [.int (i32 (n))]) rfl (jl_iloadn gL238_3) ?_
        refine jx_ld (pc_q := 60) (l_q := jSto1 L238 3 (.int (i32 (n)))) (st_q := []) rfl rfl ?_
        obtain ⟨L240, eL240⟩ : ∃ q, q = jSto1 L238 3 (.int (i32 (n))) := ⟨_, rfl⟩
        rw [← eL240]
        have gL240_0 : jGet L240 0 = some (.ref 66) := eL240 ▸ jg_ne (by decide) gL238_0 rfl
        have gL240_1 : jGet L240 1 = some (.int (i32 (sg))) := eL240 ▸ jg_ne (by decide) gL238_1 rfl
        have gL240_4 : jGet L240 4 = some (.int (i32 (8))) := eL240 ▸ jg_ne (by decide) gL238_4 rfl
        have gL240_5 : jGet L240 5 = some (.int (i32 (b232))) := eL240 ▸ jg_ne (by decide) gL238_5 rfl
        have gL240_2 : jGet L240 2 = some (.int (i32 (1))) := eL240 ▸ jg_ne (by decide) gL238_2 rfl
        have gL240_3 : jGet L240 3 = some (.int (i32 (n))) := eL240 ▸ jg_eq
        refine jx_inc (pc_q := 63) (l_q := jSto1 L240 4 (.int (i32 ((8 + (8)))))) (x := 8) rfl gL240_4 (by decide) rfl rfl ?_
        obtain ⟨L241, eL241⟩ : ∃ q, q = jSto1 L240 4 (.int (i32 ((8 + (8))))) := ⟨_, rfl⟩
        rw [← eL241]
        have gL241_0 : jGet L241 0 = some (.ref 66) := eL241 ▸ jg_ne (by decide) gL240_0 rfl
        have gL241_1 : jGet L241 1 = some (.int (i32 (sg))) := eL241 ▸ jg_ne (by decide) gL240_1 rfl
        have gL241_5 : jGet L241 5 = some (.int (i32 (b232))) := eL241 ▸ jg_ne (by decide) gL240_5 rfl
        have gL241_2 : jGet L241 2 = some (.int (i32 (1))) := eL241 ▸ jg_ne (by decide) gL240_2 rfl
        have gL241_3 : jGet L241 3 = some (.int (i32 (n))) := eL241 ▸ jg_ne (by decide) gL240_3 rfl
        have gL241_4 : jGet L241 4 = some (.int (i32 ((8 + (8))))) := eL241 ▸ jg_eq
        refine jx_go (tg := 7) rfl rfl ?_
        exact c_put_at_7_16 (X := X) (d := d) (c0 := c0) (c1 := c1) (G := G) (A := A) (T := T) (sg := sg) (sz := sz) (hd := hd) (hW := hW) (e_sz := e_sz) (h_sg := h_sg) L241 Gx Ax (1) (n) gL241_0 gL241_1 gL241_4 gL241_2 gL241_3 hWx hFx ((fx_2)) (by omega) (by omega) (by omega) (by omega) (by omega) (by omega)
      · have _q := h239
        refine jx_ld (pc_q := 53) (l_q := L238) (st_q := [.int (i32 (n))]) rfl (jl_iloadn gL238_3) ?_
        refine jx_ar (pc_q := 54) (st_q := [.int (i32 (1)), .int (i32 (n))]) rfl rfl rfl rfl ?_
        refine jx_add (pc_q := 55) rfl rfl ?_
        refine jx_go (tg := 59) rfl rfl ?_
        refine jx_ld (pc_q := 60) (l_q := jSto1 L238 3 (.int (i32 ((n + 1))))) (st_q := []) rfl rfl ?_
        obtain ⟨L242, eL242⟩ : ∃ q, q = jSto1 L238 3 (.int (i32 ((n + 1)))) := ⟨_, rfl⟩
        rw [← eL242]
        have gL242_0 : jGet L242 0 = some (.ref 66) := eL242 ▸ jg_ne (by decide) gL238_0 rfl
        have gL242_1 : jGet L242 1 = some (.int (i32 (sg))) := eL242 ▸ jg_ne (by decide) gL238_1 rfl
        have gL242_4 : jGet L242 4 = some (.int (i32 (8))) := eL242 ▸ jg_ne (by decide) gL238_4 rfl
        have gL242_5 : jGet L242 5 = some (.int (i32 (b232))) := eL242 ▸ jg_ne (by decide) gL238_5 rfl
        have gL242_2 : jGet L242 2 = some (.int (i32 (1))) := eL242 ▸ jg_ne (by decide) gL238_2 rfl
        have gL242_3 : jGet L242 3 = some (.int (i32 ((n + 1)))) := eL242 ▸ jg_eq
        refine jx_inc (pc_q := 63) (l_q := jSto1 L242 4 (.int (i32 ((8 + (8)))))) (x := 8) rfl gL242_4 (by decide) rfl rfl ?_
        obtain ⟨L243, eL243⟩ : ∃ q, q = jSto1 L242 4 (.int (i32 ((8 + (8))))) := ⟨_, rfl⟩
        rw [← eL243]
        have gL243_0 : jGet L243 0 = some (.ref 66) := eL243 ▸ jg_ne (by decide) gL242_0 rfl
        have gL243_1 : jGet L243 1 = some (.int (i32 (sg))) := eL243 ▸ jg_ne (by decide) gL242_1 rfl
        have gL243_5 : jGet L243 5 = some (.int (i32 (b232))) := eL243 ▸ jg_ne (by decide) gL242_5 rfl
        have gL243_2 : jGet L243 2 = some (.int (i32 (1))) := eL243 ▸ jg_ne (by decide) gL242_2 rfl
        have gL243_3 : jGet L243 3 = some (.int (i32 ((n + 1)))) := eL243 ▸ jg_ne (by decide) gL242_3 rfl
        have gL243_4 : jGet L243 4 = some (.int (i32 ((8 + (8))))) := eL243 ▸ jg_eq
        refine jx_go (tg := 7) rfl rfl ?_
        exact c_put_at_7_16 (X := X) (d := d) (c0 := c0) (c1 := c1) (G := G) (A := A) (T := T) (sg := sg) (sz := sz) (hd := hd) (hW := hW) (e_sz := e_sz) (h_sg := h_sg) L243 Gx Ax (1) ((n + 1)) gL243_0 gL243_1 gL243_4 gL243_2 gL243_3 hWx hFx ((fx_2)) (by omega) (by omega) (by omega) (by omega) (by omega) (by omega)
    · have _q := h237
      refine jx_ld (pc_q := 30) (l_q := L236) (st_q := [.int (i32 (b232))]) rfl (jl_iload gL236_5) ?_
      refine jx_if_eq (pc_q := 33) (tg := 45) rfl rfl rfl (Int.le_trans (by decide : (-2147483648 : Int) ≤ -2147483648) rb232.1) (Int.le_trans rb232.2 (by decide : (2147483647 : Int) ≤ 2147483647)) (fun h244 => ?_) (fun h244 => ?_)
      · have _q := h244
        refine jx_ar (pc_q := 46) (st_q := [.int (i32 (0))]) rfl rfl rfl rfl ?_
        refine jx_ld (pc_q := 47) (l_q := jSto1 L236 2 (.int (i32 (0)))) (st_q := []) rfl rfl ?_
        obtain ⟨L245, eL245⟩ : ∃ q, q = jSto1 L236 2 (.int (i32 (0))) := ⟨_, rfl⟩
        rw [← eL245]
        have gL245_0 : jGet L245 0 = some (.ref 66) := eL245 ▸ jg_ne (by decide) gL236_0 rfl
        have gL245_1 : jGet L245 1 = some (.int (i32 (sg))) := eL245 ▸ jg_ne (by decide) gL236_1 rfl
        have gL245_4 : jGet L245 4 = some (.int (i32 (8))) := eL245 ▸ jg_ne (by decide) gL236_4 rfl
        have gL245_3 : jGet L245 3 = some (.int (i32 (n))) := eL245 ▸ jg_ne (by decide) gL236_3 rfl
        have gL245_5 : jGet L245 5 = some (.int (i32 (b232))) := eL245 ▸ jg_ne (by decide) gL236_5 rfl
        have gL245_2 : jGet L245 2 = some (.int (i32 (0))) := eL245 ▸ jg_eq
        refine jx_ld (pc_q := 49) (l_q := L245) (st_q := [.int (i32 (b232))]) rfl (jl_iload gL245_5) ?_
        refine jx_if_eq (pc_q := 52) (tg := 58) rfl rfl rfl (Int.le_trans (by decide : (-2147483648 : Int) ≤ -2147483648) rb232.1) (Int.le_trans rb232.2 (by decide : (2147483647 : Int) ≤ 2147483647)) (fun h246 => ?_) (fun h246 => ?_)
        · have _q := h246
          refine jx_ld (pc_q := 59) (l_q := L245) (st_q := [.int (i32 (n))]) rfl (jl_iloadn gL245_3) ?_
          refine jx_ld (pc_q := 60) (l_q := jSto1 L245 3 (.int (i32 (n)))) (st_q := []) rfl rfl ?_
          obtain ⟨L247, eL247⟩ : ∃ q, q = jSto1 L245 3 (.int (i32 (n))) := ⟨_, rfl⟩
          rw [← eL247]
          have gL247_0 : jGet L247 0 = some (.ref 66) := eL247 ▸ jg_ne (by decide) gL245_0 rfl
          have gL247_1 : jGet L247 1 = some (.int (i32 (sg))) := eL247 ▸ jg_ne (by decide) gL245_1 rfl
          have gL247_4 : jGet L247 4 = some (.int (i32 (8))) := eL247 ▸ jg_ne (by decide) gL245_4 rfl
          have gL247_5 : jGet L247 5 = some (.int (i32 (b232))) := eL247 ▸ jg_ne (by decide) gL245_5 rfl
          have gL247_2 : jGet L247 2 = some (.int (i32 (0))) := eL247 ▸ jg_ne (by decide) gL245_2 rfl
          have gL247_3 : jGet L247 3 = some (.int (i32 (n))) := eL247 ▸ jg_eq
          refine jx_inc (pc_q := 63) (l_q := jSto1 L247 4 (.int (i32 ((8 + (8)))))) (x := 8) rfl gL247_4 (by decide) rfl rfl ?_
          obtain ⟨L248, eL248⟩ : ∃ q, q = jSto1 L247 4 (.int (i32 ((8 + (8))))) := ⟨_, rfl⟩
          rw [← eL248]
          have gL248_0 : jGet L248 0 = some (.ref 66) := eL248 ▸ jg_ne (by decide) gL247_0 rfl
          have gL248_1 : jGet L248 1 = some (.int (i32 (sg))) := eL248 ▸ jg_ne (by decide) gL247_1 rfl
          have gL248_5 : jGet L248 5 = some (.int (i32 (b232))) := eL248 ▸ jg_ne (by decide) gL247_5 rfl
          have gL248_2 : jGet L248 2 = some (.int (i32 (0))) := eL248 ▸ jg_ne (by decide) gL247_2 rfl
          have gL248_3 : jGet L248 3 = some (.int (i32 (n))) := eL248 ▸ jg_ne (by decide) gL247_3 rfl
          have gL248_4 : jGet L248 4 = some (.int (i32 ((8 + (8))))) := eL248 ▸ jg_eq
          refine jx_go (tg := 7) rfl rfl ?_
          exact c_put_at_7_16 (X := X) (d := d) (c0 := c0) (c1 := c1) (G := G) (A := A) (T := T) (sg := sg) (sz := sz) (hd := hd) (hW := hW) (e_sz := e_sz) (h_sg := h_sg) L248 Gx Ax (0) (n) gL248_0 gL248_1 gL248_4 gL248_2 gL248_3 hWx hFx ((fx_2)) (by omega) (by omega) (by omega) (by omega) (by omega) (by omega)
        · have _q := h246
          refine jx_ld (pc_q := 53) (l_q := L245) (st_q := [.int (i32 (n))]) rfl (jl_iloadn gL245_3) ?_
          refine jx_ar (pc_q := 54) (st_q := [.int (i32 (1)), .int (i32 (n))]) rfl rfl rfl rfl ?_
          refine jx_add (pc_q := 55) rfl rfl ?_
          refine jx_go (tg := 59) rfl rfl ?_
          refine jx_ld (pc_q := 60) (l_q := jSto1 L245 3 (.int (i32 ((n + 1))))) (st_q := []) rfl rfl ?_
          obtain ⟨L249, eL249⟩ : ∃ q, q = jSto1 L245 3 (.int (i32 ((n + 1)))) := ⟨_, rfl⟩
          rw [← eL249]
          have gL249_0 : jGet L249 0 = some (.ref 66) := eL249 ▸ jg_ne (by decide) gL245_0 rfl
          have gL249_1 : jGet L249 1 = some (.int (i32 (sg))) := eL249 ▸ jg_ne (by decide) gL245_1 rfl
          have gL249_4 : jGet L249 4 = some (.int (i32 (8))) := eL249 ▸ jg_ne (by decide) gL245_4 rfl
          have gL249_5 : jGet L249 5 = some (.int (i32 (b232))) := eL249 ▸ jg_ne (by decide) gL245_5 rfl
          have gL249_2 : jGet L249 2 = some (.int (i32 (0))) := eL249 ▸ jg_ne (by decide) gL245_2 rfl
          have gL249_3 : jGet L249 3 = some (.int (i32 ((n + 1)))) := eL249 ▸ jg_eq
          refine jx_inc (pc_q := 63) (l_q := jSto1 L249 4 (.int (i32 ((8 + (8)))))) (x := 8) rfl gL249_4 (by decide) rfl rfl ?_
          obtain ⟨L250, eL250⟩ : ∃ q, q = jSto1 L249 4 (.int (i32 ((8 + (8))))) := ⟨_, rfl⟩
          rw [← eL250]
          have gL250_0 : jGet L250 0 = some (.ref 66) := eL250 ▸ jg_ne (by decide) gL249_0 rfl
          have gL250_1 : jGet L250 1 = some (.int (i32 (sg))) := eL250 ▸ jg_ne (by decide) gL249_1 rfl
          have gL250_5 : jGet L250 5 = some (.int (i32 (b232))) := eL250 ▸ jg_ne (by decide) gL249_5 rfl
          have gL250_2 : jGet L250 2 = some (.int (i32 (0))) := eL250 ▸ jg_ne (by decide) gL249_2 rfl
          have gL250_3 : jGet L250 3 = some (.int (i32 ((n + 1)))) := eL250 ▸ jg_ne (by decide) gL249_3 rfl
          have gL250_4 : jGet L250 4 = some (.int (i32 ((8 + (8))))) := eL250 ▸ jg_eq
          refine jx_go (tg := 7) rfl rfl ?_
          exact c_put_at_7_16 (X := X) (d := d) (c0 := c0) (c1 := c1) (G := G) (A := A) (T := T) (sg := sg) (sz := sz) (hd := hd) (hW := hW) (e_sz := e_sz) (h_sg := h_sg) L250 Gx Ax (0) ((n + 1)) gL250_0 gL250_1 gL250_4 gL250_2 gL250_3 hWx hFx ((fx_2)) (by omega) (by omega) (by omega) (by omega) (by omega) (by omega)
      · have _q := h244
        refine jx_ld (pc_q := 35) (l_q := L236) (st_q := [.int (i32 (b232))]) rfl (jl_iload gL236_5) ?_
        refine jx_st (pc_q := 38) (as := [.int (i32 (b232))]) (st := []) rfl rfl ⟨rfl, Nat.le_of_ble_eq_true rfl⟩ rfl rfl rfl (c_isSign (dd := d) (hd := by omega) (v := b232)   (h_v := ⟨(Int.le_trans (by decide : (-2147483648 : Int) ≤ -2147483648) rb232.1), (Int.le_trans rb232.2 (by decide : (2147483647 : Int) ≤ 2147483647))⟩)  ) (fun o V_q hq => ?_)
        obtain ⟨r251, rfl, rfl, b252, q253⟩ := hq
        refine .inr ⟨_, rfl, ?_⟩
        rcases q253 with ⟨rfl, a254, a255⟩ | ⟨rfl, a256, a257⟩
        · have _q : True := trivial
          refine jx_if_ne (pc_q := 41) (tg := 45) rfl rfl rfl (by decide) (by decide) (fun h258 => ?_) (fun h258 => ?_)
          · have _q := h258
            refine jx_ar (pc_q := 46) (st_q := [.int (i32 (0))]) rfl rfl rfl rfl ?_
            refine jx_ld (pc_q := 47) (l_q := jSto1 L236 2 (.int (i32 (0)))) (st_q := []) rfl rfl ?_
            obtain ⟨L259, eL259⟩ : ∃ q, q = jSto1 L236 2 (.int (i32 (0))) := ⟨_, rfl⟩
            rw [← eL259]
            have gL259_0 : jGet L259 0 = some (.ref 66) := eL259 ▸ jg_ne (by decide) gL236_0 rfl
            have gL259_1 : jGet L259 1 = some (.int (i32 (sg))) := eL259 ▸ jg_ne (by decide) gL236_1 rfl
            have gL259_4 : jGet L259 4 = some (.int (i32 (8))) := eL259 ▸ jg_ne (by decide) gL236_4 rfl
            have gL259_3 : jGet L259 3 = some (.int (i32 (n))) := eL259 ▸ jg_ne (by decide) gL236_3 rfl
            have gL259_5 : jGet L259 5 = some (.int (i32 (b232))) := eL259 ▸ jg_ne (by decide) gL236_5 rfl
            have gL259_2 : jGet L259 2 = some (.int (i32 (0))) := eL259 ▸ jg_eq
            refine jx_ld (pc_q := 49) (l_q := L259) (st_q := [.int (i32 (b232))]) rfl (jl_iload gL259_5) ?_
            refine jx_if_eq (pc_q := 52) (tg := 58) rfl rfl rfl (Int.le_trans (by decide : (-2147483648 : Int) ≤ -2147483648) rb232.1) (Int.le_trans rb232.2 (by decide : (2147483647 : Int) ≤ 2147483647)) (fun h260 => ?_) (fun h260 => ?_)
            · have _q := h260
              refine jx_ld (pc_q := 59) (l_q := L259) (st_q := [.int (i32 (n))]) rfl (jl_iloadn gL259_3) ?_
              refine jx_ld (pc_q := 60) (l_q := jSto1 L259 3 (.int (i32 (n)))) (st_q := []) rfl rfl ?_
              obtain ⟨L261, eL261⟩ : ∃ q, q = jSto1 L259 3 (.int (i32 (n))) := ⟨_, rfl⟩
              rw [← eL261]
              have gL261_0 : jGet L261 0 = some (.ref 66) := eL261 ▸ jg_ne (by decide) gL259_0 rfl
              have gL261_1 : jGet L261 1 = some (.int (i32 (sg))) := eL261 ▸ jg_ne (by decide) gL259_1 rfl
              have gL261_4 : jGet L261 4 = some (.int (i32 (8))) := eL261 ▸ jg_ne (by decide) gL259_4 rfl
              have gL261_5 : jGet L261 5 = some (.int (i32 (b232))) := eL261 ▸ jg_ne (by decide) gL259_5 rfl
              have gL261_2 : jGet L261 2 = some (.int (i32 (0))) := eL261 ▸ jg_ne (by decide) gL259_2 rfl
              have gL261_3 : jGet L261 3 = some (.int (i32 (n))) := eL261 ▸ jg_eq
              refine jx_inc (pc_q := 63) (l_q := jSto1 L261 4 (.int (i32 ((8 + (8)))))) (x := 8) rfl gL261_4 (by decide) rfl rfl ?_
              obtain ⟨L262, eL262⟩ : ∃ q, q = jSto1 L261 4 (.int (i32 ((8 + (8))))) := ⟨_, rfl⟩
              rw [← eL262]
              have gL262_0 : jGet L262 0 = some (.ref 66) := eL262 ▸ jg_ne (by decide) gL261_0 rfl
              have gL262_1 : jGet L262 1 = some (.int (i32 (sg))) := eL262 ▸ jg_ne (by decide) gL261_1 rfl
              have gL262_5 : jGet L262 5 = some (.int (i32 (b232))) := eL262 ▸ jg_ne (by decide) gL261_5 rfl
              have gL262_2 : jGet L262 2 = some (.int (i32 (0))) := eL262 ▸ jg_ne (by decide) gL261_2 rfl
              have gL262_3 : jGet L262 3 = some (.int (i32 (n))) := eL262 ▸ jg_ne (by decide) gL261_3 rfl
              have gL262_4 : jGet L262 4 = some (.int (i32 ((8 + (8))))) := eL262 ▸ jg_eq
              refine jx_go (tg := 7) rfl rfl ?_
              exact c_put_at_7_16 (X := X) (d := d) (c0 := c0) (c1 := c1) (G := G) (A := A) (T := T) (sg := sg) (sz := sz) (hd := hd) (hW := hW) (e_sz := e_sz) (h_sg := h_sg) L262 Gx Ax (0) (n) gL262_0 gL262_1 gL262_4 gL262_2 gL262_3 hWx hFx ((fx_2)) (by omega) (by omega) (by omega) (by omega) (by omega) (by omega)
            · have _q := h260
              refine jx_ld (pc_q := 53) (l_q := L259) (st_q := [.int (i32 (n))]) rfl (jl_iloadn gL259_3) ?_
              refine jx_ar (pc_q := 54) (st_q := [.int (i32 (1)), .int (i32 (n))]) rfl rfl rfl rfl ?_
              refine jx_add (pc_q := 55) rfl rfl ?_
              refine jx_go (tg := 59) rfl rfl ?_
              refine jx_ld (pc_q := 60) (l_q := jSto1 L259 3 (.int (i32 ((n + 1))))) (st_q := []) rfl rfl ?_
              obtain ⟨L263, eL263⟩ : ∃ q, q = jSto1 L259 3 (.int (i32 ((n + 1)))) := ⟨_, rfl⟩
              rw [← eL263]
              have gL263_0 : jGet L263 0 = some (.ref 66) := eL263 ▸ jg_ne (by decide) gL259_0 rfl
              have gL263_1 : jGet L263 1 = some (.int (i32 (sg))) := eL263 ▸ jg_ne (by decide) gL259_1 rfl
              have gL263_4 : jGet L263 4 = some (.int (i32 (8))) := eL263 ▸ jg_ne (by decide) gL259_4 rfl
              have gL263_5 : jGet L263 5 = some (.int (i32 (b232))) := eL263 ▸ jg_ne (by decide) gL259_5 rfl
              have gL263_2 : jGet L263 2 = some (.int (i32 (0))) := eL263 ▸ jg_ne (by decide) gL259_2 rfl
              have gL263_3 : jGet L263 3 = some (.int (i32 ((n + 1)))) := eL263 ▸ jg_eq
              refine jx_inc (pc_q := 63) (l_q := jSto1 L263 4 (.int (i32 ((8 + (8)))))) (x := 8) rfl gL263_4 (by decide) rfl rfl ?_
              obtain ⟨L264, eL264⟩ : ∃ q, q = jSto1 L263 4 (.int (i32 ((8 + (8))))) := ⟨_, rfl⟩
              rw [← eL264]
              have gL264_0 : jGet L264 0 = some (.ref 66) := eL264 ▸ jg_ne (by decide) gL263_0 rfl
              have gL264_1 : jGet L264 1 = some (.int (i32 (sg))) := eL264 ▸ jg_ne (by decide) gL263_1 rfl
              have gL264_5 : jGet L264 5 = some (.int (i32 (b232))) := eL264 ▸ jg_ne (by decide) gL263_5 rfl
              have gL264_2 : jGet L264 2 = some (.int (i32 (0))) := eL264 ▸ jg_ne (by decide) gL263_2 rfl
              have gL264_3 : jGet L264 3 = some (.int (i32 ((n + 1)))) := eL264 ▸ jg_ne (by decide) gL263_3 rfl
              have gL264_4 : jGet L264 4 = some (.int (i32 ((8 + (8))))) := eL264 ▸ jg_eq
              refine jx_go (tg := 7) rfl rfl ?_
              exact c_put_at_7_16 (X := X) (d := d) (c0 := c0) (c1 := c1) (G := G) (A := A) (T := T) (sg := sg) (sz := sz) (hd := hd) (hW := hW) (e_sz := e_sz) (h_sg := h_sg) L264 Gx Ax (0) ((n + 1)) gL264_0 gL264_1 gL264_4 gL264_2 gL264_3 hWx hFx ((fx_2)) (by omega) (by omega) (by omega) (by omega) (by omega) (by omega)
          · have _q := h258
            exact absurd h258 (by omega)
        · have _q : True := trivial
          refine jx_if_ne (pc_q := 41) (tg := 45) rfl rfl rfl (by decide) (by decide) (fun h265 => ?_) (fun h265 => ?_)
          · have _q := h265
            exact absurd h265 (by omega)
          · have _q := h265
            refine jx_ar (pc_q := 42) (st_q := [.int (i32 (1))]) rfl rfl rfl rfl ?_
            refine jx_go (tg := 46) rfl rfl ?_
            refine jx_ld (pc_q := 47) (l_q := jSto1 L236 2 (.int (i32 (1)))) (st_q := []) rfl rfl ?_
            obtain ⟨L266, eL266⟩ : ∃ q, q = jSto1 L236 2 (.int (i32 (1))) := ⟨_, rfl⟩
            rw [← eL266]
            have gL266_0 : jGet L266 0 = some (.ref 66) := eL266 ▸ jg_ne (by decide) gL236_0 rfl
            have gL266_1 : jGet L266 1 = some (.int (i32 (sg))) := eL266 ▸ jg_ne (by decide) gL236_1 rfl
            have gL266_4 : jGet L266 4 = some (.int (i32 (8))) := eL266 ▸ jg_ne (by decide) gL236_4 rfl
            have gL266_3 : jGet L266 3 = some (.int (i32 (n))) := eL266 ▸ jg_ne (by decide) gL236_3 rfl
            have gL266_5 : jGet L266 5 = some (.int (i32 (b232))) := eL266 ▸ jg_ne (by decide) gL236_5 rfl
            have gL266_2 : jGet L266 2 = some (.int (i32 (1))) := eL266 ▸ jg_eq
            refine jx_ld (pc_q := 49) (l_q := L266) (st_q := [.int (i32 (b232))]) rfl (jl_iload gL266_5) ?_
            refine jx_if_eq (pc_q := 52) (tg := 58) rfl rfl rfl (Int.le_trans (by decide : (-2147483648 : Int) ≤ -2147483648) rb232.1) (Int.le_trans rb232.2 (by decide : (2147483647 : Int) ≤ 2147483647)) (fun h267 => ?_) (fun h267 => ?_)
            · have _q := h267
              refine jx_ld (pc_q := 59) (l_q := L266) (st_q := [.int (i32 (n))]) rfl (jl_iloadn gL266_3) ?_
              refine jx_ld (pc_q := 60) (l_q := jSto1 L266 3 (.int (i32 (n)))) (st_q := []) rfl rfl ?_
              obtain ⟨L268, eL268⟩ : ∃ q, q = jSto1 L266 3 (.int (i32 (n))) := ⟨_, rfl⟩
              rw [← eL268]
              have gL268_0 : jGet L268 0 = some (.ref 66) := eL268 ▸ jg_ne (by decide) gL266_0 rfl
              have gL268_1 : jGet L268 1 = some (.int (i32 (sg))) := eL268 ▸ jg_ne (by decide) gL266_1 rfl
              have gL268_4 : jGet L268 4 = some (.int (i32 (8))) := eL268 ▸ jg_ne (by decide) gL266_4 rfl
              have gL268_5 : jGet L268 5 = some (.int (i32 (b232))) := eL268 ▸ jg_ne (by decide) gL266_5 rfl
              have gL268_2 : jGet L268 2 = some (.int (i32 (1))) := eL268 ▸ jg_ne (by decide) gL266_2 rfl
              have gL268_3 : jGet L268 3 = some (.int (i32 (n))) := eL268 ▸ jg_eq
              refine jx_inc (pc_q := 63) (l_q := jSto1 L268 4 (.int (i32 ((8 + (8)))))) (x := 8) rfl gL268_4 (by decide) rfl rfl ?_
              obtain ⟨L269, eL269⟩ : ∃ q, q = jSto1 L268 4 (.int (i32 ((8 + (8))))) := ⟨_, rfl⟩
              rw [← eL269]
              have gL269_0 : jGet L269 0 = some (.ref 66) := eL269 ▸ jg_ne (by decide) gL268_0 rfl
              have gL269_1 : jGet L269 1 = some (.int (i32 (sg))) := eL269 ▸ jg_ne (by decide) gL268_1 rfl
              have gL269_5 : jGet L269 5 = some (.int (i32 (b232))) := eL269 ▸ jg_ne (by decide) gL268_5 rfl
              have gL269_2 : jGet L269 2 = some (.int (i32 (1))) := eL269 ▸ jg_ne (by decide) gL268_2 rfl
              have gL269_3 : jGet L269 3 = some (.int (i32 (n))) := eL269 ▸ jg_ne (by decide) gL268_3 rfl
              have gL269_4 : jGet L269 4 = some (.int (i32 ((8 + (8))))) := eL269 ▸ jg_eq
              refine jx_go (tg := 7) rfl rfl ?_
              exact c_put_at_7_16 (X := X) (d := d) (c0 := c0) (c1 := c1) (G := G) (A := A) (T := T) (sg := sg) (sz := sz) (hd := hd) (hW := hW) (e_sz := e_sz) (h_sg := h_sg) L269 Gx Ax (1) (n) gL269_0 gL269_1 gL269_4 gL269_2 gL269_3 hWx hFx ((fx_2)) (by omega) (by omega) (by omega) (by omega) (by omega) (by omega)
            · have _q := h267
              refine jx_ld (pc_q := 53) (l_q := L266) (st_q := [.int (i32 (n))]) rfl (jl_iloadn gL266_3) ?_
              refine jx_ar (pc_q := 54) (st_q := [.int (i32 (1)), .int (i32 (n))]) rfl rfl rfl rfl ?_
              refine jx_add (pc_q := 55) rfl rfl ?_
              refine jx_go (tg := 59) rfl rfl ?_
              refine jx_ld (pc_q := 60) (l_q := jSto1 L266 3 (.int (i32 ((n + 1))))) (st_q := []) rfl rfl ?_
              obtain ⟨L270, eL270⟩ : ∃ q, q = jSto1 L266 3 (.int (i32 ((n + 1)))) := ⟨_, rfl⟩
              rw [← eL270]
              have gL270_0 : jGet L270 0 = some (.ref 66) := eL270 ▸ jg_ne (by decide) gL266_0 rfl
              have gL270_1 : jGet L270 1 = some (.int (i32 (sg))) := eL270 ▸ jg_ne (by decide) gL266_1 rfl
              have gL270_4 : jGet L270 4 = some (.int (i32 (8))) := eL270 ▸ jg_ne (by decide) gL266_4 rfl
              have gL270_5 : jGet L270 5 = some (.int (i32 (b232))) := eL270 ▸ jg_ne (by decide) gL266_5 rfl
              have gL270_2 : jGet L270 2 = some (.int (i32 (1))) := eL270 ▸ jg_ne (by decide) gL266_2 rfl
              have gL270_3 : jGet L270 3 = some (.int (i32 ((n + 1)))) := eL270 ▸ jg_eq
              refine jx_inc (pc_q := 63) (l_q := jSto1 L270 4 (.int (i32 ((8 + (8)))))) (x := 8) rfl gL270_4 (by decide) rfl rfl ?_
              obtain ⟨L271, eL271⟩ : ∃ q, q = jSto1 L270 4 (.int (i32 ((8 + (8))))) := ⟨_, rfl⟩
              rw [← eL271]
              have gL271_0 : jGet L271 0 = some (.ref 66) := eL271 ▸ jg_ne (by decide) gL270_0 rfl
              have gL271_1 : jGet L271 1 = some (.int (i32 (sg))) := eL271 ▸ jg_ne (by decide) gL270_1 rfl
              have gL271_5 : jGet L271 5 = some (.int (i32 (b232))) := eL271 ▸ jg_ne (by decide) gL270_5 rfl
              have gL271_2 : jGet L271 2 = some (.int (i32 (1))) := eL271 ▸ jg_ne (by decide) gL270_2 rfl
              have gL271_3 : jGet L271 3 = some (.int (i32 ((n + 1)))) := eL271 ▸ jg_ne (by decide) gL270_3 rfl
              have gL271_4 : jGet L271 4 = some (.int (i32 ((8 + (8))))) := eL271 ▸ jg_eq
              refine jx_go (tg := 7) rfl rfl ?_
              exact c_put_at_7_16 (X := X) (d := d) (c0 := c0) (c1 := c1) (G := G) (A := A) (T := T) (sg := sg) (sz := sz) (hd := hd) (hW := hW) (e_sz := e_sz) (h_sg := h_sg) L271 Gx Ax (1) ((n + 1)) gL271_0 gL271_1 gL271_4 gL271_2 gL271_3 hWx hFx ((fx_2)) (by omega) (by omega) (by omega) (by omega) (by omega) (by omega)
set_option maxRecDepth 20000 in
set_option maxHeartbeats 4000000 in
theorem c_put_at_7_0 {X : jX} {d : Nat} {c0 c1 : jC} {G : Nat → Int} {A : Nat → Nat → Int} {T : jH} {sg : Int} {sz : Int} (hd : 3 ≤ d + 1) (hW : Wk G A) (e_sz : G 2 = sz) (h_sg : (-2147483648 : Int) ≤ sg ∧ sg ≤ 2147483647) : ∀ (L : jL) (Gx : Nat → Int) (Ax : Nat → Nat → Int) (bd n : Int), jGet L 0 = some (.ref 66) → jGet L 1 = some (.int (i32 (sg))) → jGet L 4 = some (.int (i32 (0))) → jGet L 2 = some (.int (i32 bd)) → jGet L 3 = some (.int (i32 n)) → Wk Gx Ax → Fr [0, 2] [0] G A Gx Ax → Gx 2 = sz → ((-2147483648 : Int) ≤ bd ∧ bd ≤ 2147483647) → ((-2147483648 : Int) ≤ n ∧ n ≤ 2147483647) → (0 ≤ bd ∧ bd ≤ 1) → (bd = 0 → 0 = 0) → (bd = 1 → 1 ≤ 0) → (n = 0) → wj X d jm248 (7, L, [], rV c0 c1 Gx Ax T) (fun o V_q => ∃ (G_q : Nat → Int) (A_q : Nat → Nat → Int) (r : Int) (th2 : Int) (sz2 : Int), V_q = rV c0 c1 G_q A_q T ∧ o = .inl (some (.int (i32 r))) ∧ Wk G_q A_q ∧ Fr [0, 2] [0] G A G_q A_q ∧ ((-2147483648 : Int) ≤ r ∧ r ≤ 2147483647) ∧ G_q 0 = th2 ∧ G_q 2 = sz2 ∧ (((r = 0) ∧ (1 ≤ 0 + snb (bt sg 0) + snb (bt sg 8) + snb (bt sg 16) + snb (bt sg 24)) ∧ (th2 = 1) ∧ (sz2 = sz)) ∨ ((r = 0) ∧ (0 + snb (bt sg 0) + snb (bt sg 8) + snb (bt sg 16) + snb (bt sg 24) = 0) ∧ (3000 < sz + 0 + tz (bt sg 0) + tz (bt sg 8) + tz (bt sg 16) + tz (bt sg 24)) ∧ (th2 = 2) ∧ (sz2 = sz)) ∨ ((0 + snb (bt sg 0) + snb (bt sg 8) + snb (bt sg 16) + snb (bt sg 24) = 0) ∧ (sz2 = sz + 0 + tz (bt sg 0) + tz (bt sg 8) + tz (bt sg 16) + tz (bt sg 24)) ∧ (sz2 ≤ 3000) ∧ (r = sz2) ∧ (th2 = 0)))) := by
  have hF0 : Fr [0, 2] [0] G A G A := Fr_rf
  have b_sz : (0 : Int) ≤ sz ∧ sz ≤ 3000 := e_sz ▸ hW.1 2
  intro L Gx Ax bd n gL_0 gL_1 gL_4 gL_2 gL_3 hWx hFx fx_2 rx_bd rx_n iv_0 iv_1 iv_2 iv_3
  have ub0 := snb_b (bt sg 0)
  have ut0 := tz_b (bt sg 0)
  have ub8 := snb_b (bt sg 8)
  have ut8 := tz_b (bt sg 8)
  have ub16 := snb_b (bt sg 16)
  have ut16 := tz_b (bt sg 16)
  have ub24 := snb_b (bt sg 24)
  have ut24 := tz_b (bt sg 24)
  refine jx_ld (pc_q := 9) (l_q := L) (st_q := [.int (i32 (0))]) rfl (jl_iload gL_4) ?_
  refine jx_ar (pc_q := 11) (st_q := [.int (i32 (32)), .int (i32 (0))]) rfl rfl rfl rfl ?_
  refine jx_icmp_ge (pc_q := 14) (tg := 66) rfl rfl rfl (by decide) (by decide) (by decide) (by decide) (fun h272 => ?_) (fun h272 => ?_)
  · have _q := h272
    exact absurd h272 (by omega)
  · have _q := h272
    refine jx_ld (pc_q := 15) (l_q := L) (st_q := [.int (i32 (sg))]) rfl (jl_iloadn gL_1) ?_
    refine jx_ld (pc_q := 17) (l_q := L) (st_q := [.int (i32 (0)), .int (i32 (sg))]) rfl (jl_iload gL_4) ?_
    refine jx_shr (pc_q := 18) rfl rfl ?_
    obtain ⟨b273, eb273⟩ : ∃ z, z = (i32 (sg) >>> (i32 (0) &&& 31)).toInt := ⟨_, rfl⟩
    rw [← eb273]
    have rb273 : (-2147483648 : Int) ≤ b273 ∧ b273 ≤ 2147483647 := eb273 ▸ i32_rg _
    refine jx_ar (pc_q := 21) (st_q := [.int (i32 (255)), .int (i32 (b273))]) rfl rfl rfl rfl ?_
    refine jx_and (pc_q := 22) rfl rfl ?_
    obtain ⟨b274, eb274⟩ : ∃ z, z = (i32 (b273) &&& i32 (255)).toInt := ⟨_, rfl⟩
    rw [← eb274]
    have rb274 : (-2147483648 : Int) ≤ b274 ∧ b274 ≤ 2147483647 := eb274 ▸ i32_rg _
    have bq275 : bt sg 0 = b274 := by rw [eb274, eb273]; rfl
    have bq276 := snb_f (bt sg 0)
    have bq277 := tz_f (bt sg 0)
    refine jx_ld (pc_q := 24) (l_q := jSto1 L 5 (.int (i32 (b274)))) (st_q := []) rfl rfl ?_
    obtain ⟨L278, eL278⟩ : ∃ q, q = jSto1 L 5 (.int (i32 (b274))) := ⟨_, rfl⟩
    rw [← eL278]
    have gL278_0 : jGet L278 0 = some (.ref 66) := eL278 ▸ jg_ne (by decide) gL_0 rfl
    have gL278_1 : jGet L278 1 = some (.int (i32 (sg))) := eL278 ▸ jg_ne (by decide) gL_1 rfl
    have gL278_4 : jGet L278 4 = some (.int (i32 (0))) := eL278 ▸ jg_ne (by decide) gL_4 rfl
    have gL278_2 : jGet L278 2 = some (.int (i32 (bd))) := eL278 ▸ jg_ne (by decide) gL_2 rfl
    have gL278_3 : jGet L278 3 = some (.int (i32 (n))) := eL278 ▸ jg_ne (by decide) gL_3 rfl
    have gL278_5 : jGet L278 5 = some (.int (i32 (b274))) := eL278 ▸ jg_eq
    refine jx_ld (pc_q := 25) (l_q := L278) (st_q := [.int (i32 (bd))]) rfl (jl_iloadn gL278_2) ?_
    refine jx_if_ne (pc_q := 28) (tg := 41) rfl rfl rfl (Int.le_trans (by decide : (-2147483648 : Int) ≤ -2147483648) rx_bd.1) (Int.le_trans rx_bd.2 (by decide : (2147483647 : Int) ≤ 2147483647)) (fun h279 => ?_) (fun h279 => ?_)
    · have _q := h279
      refine jx_ar (pc_q := 42) (st_q := [.int (i32 (1))]) rfl rfl rfl rfl ?_
      refine jx_go (tg := 46) rfl rfl ?_
      refine jx_ld (pc_q := 47) (l_q := jSto1 L278 2 (.int (i32 (1)))) (st_q := []) rfl rfl ?_
      obtain ⟨L280, eL280⟩ : ∃ q, q = jSto1 L278 2 (.int (i32 (1))) := ⟨_, rfl⟩
      rw [← eL280]
      have gL280_0 : jGet L280 0 = some (.ref 66) := eL280 ▸ jg_ne (by decide) gL278_0 rfl
      have gL280_1 : jGet L280 1 = some (.int (i32 (sg))) := eL280 ▸ jg_ne (by decide) gL278_1 rfl
      have gL280_4 : jGet L280 4 = some (.int (i32 (0))) := eL280 ▸ jg_ne (by decide) gL278_4 rfl
      have gL280_3 : jGet L280 3 = some (.int (i32 (n))) := eL280 ▸ jg_ne (by decide) gL278_3 rfl
      have gL280_5 : jGet L280 5 = some (.int (i32 (b274))) := eL280 ▸ jg_ne (by decide) gL278_5 rfl
      have gL280_2 : jGet L280 2 = some (.int (i32 (1))) := eL280 ▸ jg_eq
      refine jx_ld (pc_q := 49) (l_q := L280) (st_q := [.int (i32 (b274))]) rfl (jl_iload gL280_5) ?_
      refine jx_if_eq (pc_q := 52) (tg := 58) rfl rfl rfl (Int.le_trans (by decide : (-2147483648 : Int) ≤ -2147483648) rb274.1) (Int.le_trans rb274.2 (by decide : (2147483647 : Int) ≤ 2147483647)) (fun h281 => ?_) (fun h281 => ?_)
      · have _q := h281
        refine jx_ld (pc_q := 59) (l_q := L280) (st_q := [.int (i32 (n))]) rfl (jl_iloadn gL280_3) ?_
        refine jx_ld (pc_q := 60) (l_q := jSto1 L280 3 (.int (i32 (n)))) (st_q := []) rfl rfl ?_
        obtain ⟨L282, eL282⟩ : ∃ q, q = jSto1 L280 3 (.int (i32 (n))) := ⟨_, rfl⟩
        rw [← eL282]
        have gL282_0 : jGet L282 0 = some (.ref 66) := eL282 ▸ jg_ne (by decide) gL280_0 rfl
        have gL282_1 : jGet L282 1 = some (.int (i32 (sg))) := eL282 ▸ jg_ne (by decide) gL280_1 rfl
        have gL282_4 : jGet L282 4 = some (.int (i32 (0))) := eL282 ▸ jg_ne (by decide) gL280_4 rfl
        have gL282_5 : jGet L282 5 = some (.int (i32 (b274))) := eL282 ▸ jg_ne (by decide) gL280_5 rfl
        have gL282_2 : jGet L282 2 = some (.int (i32 (1))) := eL282 ▸ jg_ne (by decide) gL280_2 rfl
        have gL282_3 : jGet L282 3 = some (.int (i32 (n))) := eL282 ▸ jg_eq
        refine jx_inc (pc_q := 63) (l_q := jSto1 L282 4 (.int (i32 ((0 + (8)))))) (x := 0) rfl gL282_4 (by decide) rfl rfl ?_
        obtain ⟨L283, eL283⟩ : ∃ q, q = jSto1 L282 4 (.int (i32 ((0 + (8))))) := ⟨_, rfl⟩
        rw [← eL283]
        have gL283_0 : jGet L283 0 = some (.ref 66) := eL283 ▸ jg_ne (by decide) gL282_0 rfl
        have gL283_1 : jGet L283 1 = some (.int (i32 (sg))) := eL283 ▸ jg_ne (by decide) gL282_1 rfl
        have gL283_5 : jGet L283 5 = some (.int (i32 (b274))) := eL283 ▸ jg_ne (by decide) gL282_5 rfl
        have gL283_2 : jGet L283 2 = some (.int (i32 (1))) := eL283 ▸ jg_ne (by decide) gL282_2 rfl
        have gL283_3 : jGet L283 3 = some (.int (i32 (n))) := eL283 ▸ jg_ne (by decide) gL282_3 rfl
        have gL283_4 : jGet L283 4 = some (.int (i32 ((0 + (8))))) := eL283 ▸ jg_eq
        refine jx_go (tg := 7) rfl rfl ?_
        exact c_put_at_7_8 (X := X) (d := d) (c0 := c0) (c1 := c1) (G := G) (A := A) (T := T) (sg := sg) (sz := sz) (hd := hd) (hW := hW) (e_sz := e_sz) (h_sg := h_sg) L283 Gx Ax (1) (n) gL283_0 gL283_1 gL283_4 gL283_2 gL283_3 hWx hFx ((fx_2)) (by omega) (by omega) (by omega) (by omega) (by omega) (by omega)
      · have _q := h281
        refine jx_ld (pc_q := 53) (l_q := L280) (st_q := [.int (i32 (n))]) rfl (jl_iloadn gL280_3) ?_
        refine jx_ar (pc_q := 54) (st_q := [.int (i32 (1)), .int (i32 (n))]) rfl rfl rfl rfl ?_
        refine jx_add (pc_q := 55) rfl rfl ?_
        refine jx_go (tg := 59) rfl rfl ?_
        refine jx_ld (pc_q := 60) (l_q := jSto1 L280 3 (.int (i32 ((n + 1))))) (st_q := []) rfl rfl ?_
        obtain ⟨L284, eL284⟩ : ∃ q, q = jSto1 L280 3 (.int (i32 ((n + 1)))) := ⟨_, rfl⟩
        rw [← eL284]
        have gL284_0 : jGet L284 0 = some (.ref 66) := eL284 ▸ jg_ne (by decide) gL280_0 rfl
        have gL284_1 : jGet L284 1 = some (.int (i32 (sg))) := eL284 ▸ jg_ne (by decide) gL280_1 rfl
        have gL284_4 : jGet L284 4 = some (.int (i32 (0))) := eL284 ▸ jg_ne (by decide) gL280_4 rfl
        have gL284_5 : jGet L284 5 = some (.int (i32 (b274))) := eL284 ▸ jg_ne (by decide) gL280_5 rfl
        have gL284_2 : jGet L284 2 = some (.int (i32 (1))) := eL284 ▸ jg_ne (by decide) gL280_2 rfl
        have gL284_3 : jGet L284 3 = some (.int (i32 ((n + 1)))) := eL284 ▸ jg_eq
        refine jx_inc (pc_q := 63) (l_q := jSto1 L284 4 (.int (i32 ((0 + (8)))))) (x := 0) rfl gL284_4 (by decide) rfl rfl ?_
        obtain ⟨L285, eL285⟩ : ∃ q, q = jSto1 L284 4 (.int (i32 ((0 + (8))))) := ⟨_, rfl⟩
        rw [← eL285]
        have gL285_0 : jGet L285 0 = some (.ref 66) := eL285 ▸ jg_ne (by decide) gL284_0 rfl
        have gL285_1 : jGet L285 1 = some (.int (i32 (sg))) := eL285 ▸ jg_ne (by decide) gL284_1 rfl
        have gL285_5 : jGet L285 5 = some (.int (i32 (b274))) := eL285 ▸ jg_ne (by decide) gL284_5 rfl
        have gL285_2 : jGet L285 2 = some (.int (i32 (1))) := eL285 ▸ jg_ne (by decide) gL284_2 rfl
        have gL285_3 : jGet L285 3 = some (.int (i32 ((n + 1)))) := eL285 ▸ jg_ne (by decide) gL284_3 rfl
        have gL285_4 : jGet L285 4 = some (.int (i32 ((0 + (8))))) := eL285 ▸ jg_eq
        refine jx_go (tg := 7) rfl rfl ?_
        exact c_put_at_7_8 (X := X) (d := d) (c0 := c0) (c1 := c1) (G := G) (A := A) (T := T) (sg := sg) (sz := sz) (hd := hd) (hW := hW) (e_sz := e_sz) (h_sg := h_sg) L285 Gx Ax (1) ((n + 1)) gL285_0 gL285_1 gL285_4 gL285_2 gL285_3 hWx hFx ((fx_2)) (by omega) (by omega) (by omega) (by omega) (by omega) (by omega)
    · have _q := h279
      refine jx_ld (pc_q := 30) (l_q := L278) (st_q := [.int (i32 (b274))]) rfl (jl_iload gL278_5) ?_
      refine jx_if_eq (pc_q := 33) (tg := 45) rfl rfl rfl (Int.le_trans (by decide : (-2147483648 : Int) ≤ -2147483648) rb274.1) (Int.le_trans rb274.2 (by decide : (2147483647 : Int) ≤ 2147483647)) (fun h286 => ?_) (fun h286 => ?_)
      · have _q := h286
        refine jx_ar (pc_q := 46) (st_q := [.int (i32 (0))]) rfl rfl rfl rfl ?_
        refine jx_ld (pc_q := 47) (l_q := jSto1 L278 2 (.int (i32 (0)))) (st_q := []) rfl rfl ?_
        obtain ⟨L287, eL287⟩ : ∃ q, q = jSto1 L278 2 (.int (i32 (0))) := ⟨_, rfl⟩
        rw [← eL287]
        have gL287_0 : jGet L287 0 = some (.ref 66) := eL287 ▸ jg_ne (by decide) gL278_0 rfl
        have gL287_1 : jGet L287 1 = some (.int (i32 (sg))) := eL287 ▸ jg_ne (by decide) gL278_1 rfl
        have gL287_4 : jGet L287 4 = some (.int (i32 (0))) := eL287 ▸ jg_ne (by decide) gL278_4 rfl
        have gL287_3 : jGet L287 3 = some (.int (i32 (n))) := eL287 ▸ jg_ne (by decide) gL278_3 rfl
        have gL287_5 : jGet L287 5 = some (.int (i32 (b274))) := eL287 ▸ jg_ne (by decide) gL278_5 rfl
        have gL287_2 : jGet L287 2 = some (.int (i32 (0))) := eL287 ▸ jg_eq
        refine jx_ld (pc_q := 49) (l_q := L287) (st_q := [.int (i32 (b274))]) rfl (jl_iload gL287_5) ?_
        refine jx_if_eq (pc_q := 52) (tg := 58) rfl rfl rfl (Int.le_trans (by decide : (-2147483648 : Int) ≤ -2147483648) rb274.1) (Int.le_trans rb274.2 (by decide : (2147483647 : Int) ≤ 2147483647)) (fun h288 => ?_) (fun h288 => ?_)
        · have _q := h288
          refine jx_ld (pc_q := 59) (l_q := L287) (st_q := [.int (i32 (n))]) rfl (jl_iloadn gL287_3) ?_
          refine jx_ld (pc_q := 60) (l_q := jSto1 L287 3 (.int (i32 (n)))) (st_q := []) rfl rfl ?_
          obtain ⟨L289, eL289⟩ : ∃ q, q = jSto1 L287 3 (.int (i32 (n))) := ⟨_, rfl⟩
          rw [← eL289]
          have gL289_0 : jGet L289 0 = some (.ref 66) := eL289 ▸ jg_ne (by decide) gL287_0 rfl
          have gL289_1 : jGet L289 1 = some (.int (i32 (sg))) := eL289 ▸ jg_ne (by decide) gL287_1 rfl
          have gL289_4 : jGet L289 4 = some (.int (i32 (0))) := eL289 ▸ jg_ne (by decide) gL287_4 rfl
          have gL289_5 : jGet L289 5 = some (.int (i32 (b274))) := eL289 ▸ jg_ne (by decide) gL287_5 rfl
          have gL289_2 : jGet L289 2 = some (.int (i32 (0))) := eL289 ▸ jg_ne (by decide) gL287_2 rfl
          have gL289_3 : jGet L289 3 = some (.int (i32 (n))) := eL289 ▸ jg_eq
          refine jx_inc (pc_q := 63) (l_q := jSto1 L289 4 (.int (i32 ((0 + (8)))))) (x := 0) rfl gL289_4 (by decide) rfl rfl ?_
          obtain ⟨L290, eL290⟩ : ∃ q, q = jSto1 L289 4 (.int (i32 ((0 + (8))))) := ⟨_, rfl⟩
          rw [← eL290]
          have gL290_0 : jGet L290 0 = some (.ref 66) := eL290 ▸ jg_ne (by decide) gL289_0 rfl
          have gL290_1 : jGet L290 1 = some (.int (i32 (sg))) := eL290 ▸ jg_ne (by decide) gL289_1 rfl
          have gL290_5 : jGet L290 5 = some (.int (i32 (b274))) := eL290 ▸ jg_ne (by decide) gL289_5 rfl
          have gL290_2 : jGet L290 2 = some (.int (i32 (0))) := eL290 ▸ jg_ne (by decide) gL289_2 rfl
          have gL290_3 : jGet L290 3 = some (.int (i32 (n))) := eL290 ▸ jg_ne (by decide) gL289_3 rfl
          have gL290_4 : jGet L290 4 = some (.int (i32 ((0 + (8))))) := eL290 ▸ jg_eq
          refine jx_go (tg := 7) rfl rfl ?_
          exact c_put_at_7_8 (X := X) (d := d) (c0 := c0) (c1 := c1) (G := G) (A := A) (T := T) (sg := sg) (sz := sz) (hd := hd) (hW := hW) (e_sz := e_sz) (h_sg := h_sg) L290 Gx Ax (0) (n) gL290_0 gL290_1 gL290_4 gL290_2 gL290_3 hWx hFx ((fx_2)) (by omega) (by omega) (by omega) (by omega) (by omega) (by omega)
        · have _q := h288
          refine jx_ld (pc_q := 53) (l_q := L287) (st_q := [.int (i32 (n))]) rfl (jl_iloadn gL287_3) ?_
          refine jx_ar (pc_q := 54) (st_q := [.int (i32 (1)), .int (i32 (n))]) rfl rfl rfl rfl ?_
          refine jx_add (pc_q := 55) rfl rfl ?_
          refine jx_go (tg := 59) rfl rfl ?_
          refine jx_ld (pc_q := 60) (l_q := jSto1 L287 3 (.int (i32 ((n + 1))))) (st_q := []) rfl rfl ?_
          obtain ⟨L291, eL291⟩ : ∃ q, q = jSto1 L287 3 (.int (i32 ((n + 1)))) := ⟨_, rfl⟩
          rw [← eL291]
          have gL291_0 : jGet L291 0 = some (.ref 66) := eL291 ▸ jg_ne (by decide) gL287_0 rfl
          have gL291_1 : jGet L291 1 = some (.int (i32 (sg))) := eL291 ▸ jg_ne (by decide) gL287_1 rfl
          have gL291_4 : jGet L291 4 = some (.int (i32 (0))) := eL291 ▸ jg_ne (by decide) gL287_4 rfl
          have gL291_5 : jGet L291 5 = some (.int (i32 (b274))) := eL291 ▸ jg_ne (by decide) gL287_5 rfl
          have gL291_2 : jGet L291 2 = some (.int (i32 (0))) := eL291 ▸ jg_ne (by decide) gL287_2 rfl
          have gL291_3 : jGet L291 3 = some (.int (i32 ((n + 1)))) := eL291 ▸ jg_eq
          refine jx_inc (pc_q := 63) (l_q := jSto1 L291 4 (.int (i32 ((0 + (8)))))) (x := 0) rfl gL291_4 (by decide) rfl rfl ?_
          obtain ⟨L292, eL292⟩ : ∃ q, q = jSto1 L291 4 (.int (i32 ((0 + (8))))) := ⟨_, rfl⟩
          rw [← eL292]
          have gL292_0 : jGet L292 0 = some (.ref 66) := eL292 ▸ jg_ne (by decide) gL291_0 rfl
          have gL292_1 : jGet L292 1 = some (.int (i32 (sg))) := eL292 ▸ jg_ne (by decide) gL291_1 rfl
          have gL292_5 : jGet L292 5 = some (.int (i32 (b274))) := eL292 ▸ jg_ne (by decide) gL291_5 rfl
          have gL292_2 : jGet L292 2 = some (.int (i32 (0))) := eL292 ▸ jg_ne (by decide) gL291_2 rfl
          have gL292_3 : jGet L292 3 = some (.int (i32 ((n + 1)))) := eL292 ▸ jg_ne (by decide) gL291_3 rfl
          have gL292_4 : jGet L292 4 = some (.int (i32 ((0 + (8))))) := eL292 ▸ jg_eq
          refine jx_go (tg := 7) rfl rfl ?_
          exact c_put_at_7_8 (X := X) (d := d) (c0 := c0) (c1 := c1) (G := G) (A := A) (T := T) (sg := sg) (sz := sz) (hd := hd) (hW := hW) (e_sz := e_sz) (h_sg := h_sg) L292 Gx Ax (0) ((n + 1)) gL292_0 gL292_1 gL292_4 gL292_2 gL292_3 hWx hFx ((fx_2)) (by omega) (by omega) (by omega) (by omega) (by omega) (by omega)
      · have _q := h286
        refine jx_ld (pc_q := 35) (l_q := L278) (st_q := [.int (i32 (b274))]) rfl (jl_iload gL278_5) ?_
        refine jx_st (pc_q := 38) (as := [.int (i32 (b274))]) (st := []) rfl rfl ⟨rfl, Nat.le_of_ble_eq_true rfl⟩ rfl rfl rfl (c_isSign (dd := d) (hd := by omega) (v := b274)   (h_v := ⟨(Int.le_trans (by decide : (-2147483648 : Int) ≤ -2147483648) rb274.1), (Int.le_trans rb274.2 (by decide : (2147483647 : Int) ≤ 2147483647))⟩)  ) (fun o V_q hq => ?_)
        obtain ⟨r293, rfl, rfl, b294, q295⟩ := hq
        refine .inr ⟨_, rfl, ?_⟩
        rcases q295 with ⟨rfl, a296, a297⟩ | ⟨rfl, a298, a299⟩
        · have _q : True := trivial
          refine jx_if_ne (pc_q := 41) (tg := 45) rfl rfl rfl (by decide) (by decide) (fun h300 => ?_) (fun h300 => ?_)
          · have _q := h300
            refine jx_ar (pc_q := 46) (st_q := [.int (i32 (0))]) rfl rfl rfl rfl ?_
            refine jx_ld (pc_q := 47) (l_q := jSto1 L278 2 (.int (i32 (0)))) (st_q := []) rfl rfl ?_
            obtain ⟨L301, eL301⟩ : ∃ q, q = jSto1 L278 2 (.int (i32 (0))) := ⟨_, rfl⟩
            rw [← eL301]
            have gL301_0 : jGet L301 0 = some (.ref 66) := eL301 ▸ jg_ne (by decide) gL278_0 rfl
            have gL301_1 : jGet L301 1 = some (.int (i32 (sg))) := eL301 ▸ jg_ne (by decide) gL278_1 rfl
            have gL301_4 : jGet L301 4 = some (.int (i32 (0))) := eL301 ▸ jg_ne (by decide) gL278_4 rfl
            have gL301_3 : jGet L301 3 = some (.int (i32 (n))) := eL301 ▸ jg_ne (by decide) gL278_3 rfl
            have gL301_5 : jGet L301 5 = some (.int (i32 (b274))) := eL301 ▸ jg_ne (by decide) gL278_5 rfl
            have gL301_2 : jGet L301 2 = some (.int (i32 (0))) := eL301 ▸ jg_eq
            refine jx_ld (pc_q := 49) (l_q := L301) (st_q := [.int (i32 (b274))]) rfl (jl_iload gL301_5) ?_
            refine jx_if_eq (pc_q := 52) (tg := 58) rfl rfl rfl (Int.le_trans (by decide : (-2147483648 : Int) ≤ -2147483648) rb274.1) (Int.le_trans rb274.2 (by decide : (2147483647 : Int) ≤ 2147483647)) (fun h302 => ?_) (fun h302 => ?_)
            · have _q := h302
              refine jx_ld (pc_q := 59) (l_q := L301) (st_q := [.int (i32 (n))]) rfl (jl_iloadn gL301_3) ?_
              refine jx_ld (pc_q := 60) (l_q := jSto1 L301 3 (.int (i32 (n)))) (st_q := []) rfl rfl ?_
              obtain ⟨L303, eL303⟩ : ∃ q, q = jSto1 L301 3 (.int (i32 (n))) := ⟨_, rfl⟩
              rw [← eL303]
              have gL303_0 : jGet L303 0 = some (.ref 66) := eL303 ▸ jg_ne (by decide) gL301_0 rfl
              have gL303_1 : jGet L303 1 = some (.int (i32 (sg))) := eL303 ▸ jg_ne (by decide) gL301_1 rfl
              have gL303_4 : jGet L303 4 = some (.int (i32 (0))) := eL303 ▸ jg_ne (by decide) gL301_4 rfl
              have gL303_5 : jGet L303 5 = some (.int (i32 (b274))) := eL303 ▸ jg_ne (by decide) gL301_5 rfl
              have gL303_2 : jGet L303 2 = some (.int (i32 (0))) := eL303 ▸ jg_ne (by decide) gL301_2 rfl
              have gL303_3 : jGet L303 3 = some (.int (i32 (n))) := eL303 ▸ jg_eq
              refine jx_inc (pc_q := 63) (l_q := jSto1 L303 4 (.int (i32 ((0 + (8)))))) (x := 0) rfl gL303_4 (by decide) rfl rfl ?_
              obtain ⟨L304, eL304⟩ : ∃ q, q = jSto1 L303 4 (.int (i32 ((0 + (8))))) := ⟨_, rfl⟩
              rw [← eL304]
              have gL304_0 : jGet L304 0 = some (.ref 66) := eL304 ▸ jg_ne (by decide) gL303_0 rfl
              have gL304_1 : jGet L304 1 = some (.int (i32 (sg))) := eL304 ▸ jg_ne (by decide) gL303_1 rfl
              have gL304_5 : jGet L304 5 = some (.int (i32 (b274))) := eL304 ▸ jg_ne (by decide) gL303_5 rfl
              have gL304_2 : jGet L304 2 = some (.int (i32 (0))) := eL304 ▸ jg_ne (by decide) gL303_2 rfl
              have gL304_3 : jGet L304 3 = some (.int (i32 (n))) := eL304 ▸ jg_ne (by decide) gL303_3 rfl
              have gL304_4 : jGet L304 4 = some (.int (i32 ((0 + (8))))) := eL304 ▸ jg_eq
              refine jx_go (tg := 7) rfl rfl ?_
              exact c_put_at_7_8 (X := X) (d := d) (c0 := c0) (c1 := c1) (G := G) (A := A) (T := T) (sg := sg) (sz := sz) (hd := hd) (hW := hW) (e_sz := e_sz) (h_sg := h_sg) L304 Gx Ax (0) (n) gL304_0 gL304_1 gL304_4 gL304_2 gL304_3 hWx hFx ((fx_2)) (by omega) (by omega) (by omega) (by omega) (by omega) (by omega)
            · have _q := h302
              refine jx_ld (pc_q := 53) (l_q := L301) (st_q := [.int (i32 (n))]) rfl (jl_iloadn gL301_3) ?_
              refine jx_ar (pc_q := 54) (st_q := [.int (i32 (1)), .int (i32 (n))]) rfl rfl rfl rfl ?_
              refine jx_add (pc_q := 55) rfl rfl ?_
              refine jx_go (tg := 59) rfl rfl ?_
              refine jx_ld (pc_q := 60) (l_q := jSto1 L301 3 (.int (i32 ((n + 1))))) (st_q := []) rfl rfl ?_
              obtain ⟨L305, eL305⟩ : ∃ q, q = jSto1 L301 3 (.int (i32 ((n + 1)))) := ⟨_, rfl⟩
              rw [← eL305]
              have gL305_0 : jGet L305 0 = some (.ref 66) := eL305 ▸ jg_ne (by decide) gL301_0 rfl
              have gL305_1 : jGet L305 1 = some (.int (i32 (sg))) := eL305 ▸ jg_ne (by decide) gL301_1 rfl
              have gL305_4 : jGet L305 4 = some (.int (i32 (0))) := eL305 ▸ jg_ne (by decide) gL301_4 rfl
              have gL305_5 : jGet L305 5 = some (.int (i32 (b274))) := eL305 ▸ jg_ne (by decide) gL301_5 rfl
              have gL305_2 : jGet L305 2 = some (.int (i32 (0))) := eL305 ▸ jg_ne (by decide) gL301_2 rfl
              have gL305_3 : jGet L305 3 = some (.int (i32 ((n + 1)))) := eL305 ▸ jg_eq
              refine jx_inc (pc_q := 63) (l_q := jSto1 L305 4 (.int (i32 ((0 + (8)))))) (x := 0) rfl gL305_4 (by decide) rfl rfl ?_
              obtain ⟨L306, eL306⟩ : ∃ q, q = jSto1 L305 4 (.int (i32 ((0 + (8))))) := ⟨_, rfl⟩
              rw [← eL306]
              have gL306_0 : jGet L306 0 = some (.ref 66) := eL306 ▸ jg_ne (by decide) gL305_0 rfl
              have gL306_1 : jGet L306 1 = some (.int (i32 (sg))) := eL306 ▸ jg_ne (by decide) gL305_1 rfl
              have gL306_5 : jGet L306 5 = some (.int (i32 (b274))) := eL306 ▸ jg_ne (by decide) gL305_5 rfl
              have gL306_2 : jGet L306 2 = some (.int (i32 (0))) := eL306 ▸ jg_ne (by decide) gL305_2 rfl
              have gL306_3 : jGet L306 3 = some (.int (i32 ((n + 1)))) := eL306 ▸ jg_ne (by decide) gL305_3 rfl
              have gL306_4 : jGet L306 4 = some (.int (i32 ((0 + (8))))) := eL306 ▸ jg_eq
              refine jx_go (tg := 7) rfl rfl ?_
              exact c_put_at_7_8 (X := X) (d := d) (c0 := c0) (c1 := c1) (G := G) (A := A) (T := T) (sg := sg) (sz := sz) (hd := hd) (hW := hW) (e_sz := e_sz) (h_sg := h_sg) L306 Gx Ax (0) ((n + 1)) gL306_0 gL306_1 gL306_4 gL306_2 gL306_3 hWx hFx ((fx_2)) (by omega) (by omega) (by omega) (by omega) (by omega) (by omega)
          · have _q := h300
            exact absurd h300 (by omega)
        · have _q : True := trivial
          refine jx_if_ne (pc_q := 41) (tg := 45) rfl rfl rfl (by decide) (by decide) (fun h307 => ?_) (fun h307 => ?_)
          · have _q := h307
            exact absurd h307 (by omega)
          · have _q := h307
            refine jx_ar (pc_q := 42) (st_q := [.int (i32 (1))]) rfl rfl rfl rfl ?_
            refine jx_go (tg := 46) rfl rfl ?_
            refine jx_ld (pc_q := 47) (l_q := jSto1 L278 2 (.int (i32 (1)))) (st_q := []) rfl rfl ?_
            obtain ⟨L308, eL308⟩ : ∃ q, q = jSto1 L278 2 (.int (i32 (1))) := ⟨_, rfl⟩
            rw [← eL308]
            have gL308_0 : jGet L308 0 = some (.ref 66) := eL308 ▸ jg_ne (by decide) gL278_0 rfl
            have gL308_1 : jGet L308 1 = some (.int (i32 (sg))) := eL308 ▸ jg_ne (by decide) gL278_1 rfl
            have gL308_4 : jGet L308 4 = some (.int (i32 (0))) := eL308 ▸ jg_ne (by decide) gL278_4 rfl
            have gL308_3 : jGet L308 3 = some (.int (i32 (n))) := eL308 ▸ jg_ne (by decide) gL278_3 rfl
            have gL308_5 : jGet L308 5 = some (.int (i32 (b274))) := eL308 ▸ jg_ne (by decide) gL278_5 rfl
            have gL308_2 : jGet L308 2 = some (.int (i32 (1))) := eL308 ▸ jg_eq
            refine jx_ld (pc_q := 49) (l_q := L308) (st_q := [.int (i32 (b274))]) rfl (jl_iload gL308_5) ?_
            refine jx_if_eq (pc_q := 52) (tg := 58) rfl rfl rfl (Int.le_trans (by decide : (-2147483648 : Int) ≤ -2147483648) rb274.1) (Int.le_trans rb274.2 (by decide : (2147483647 : Int) ≤ 2147483647)) (fun h309 => ?_) (fun h309 => ?_)
            · have _q := h309
              refine jx_ld (pc_q := 59) (l_q := L308) (st_q := [.int (i32 (n))]) rfl (jl_iloadn gL308_3) ?_
              refine jx_ld (pc_q := 60) (l_q := jSto1 L308 3 (.int (i32 (n)))) (st_q := []) rfl rfl ?_
              obtain ⟨L310, eL310⟩ : ∃ q, q = jSto1 L308 3 (.int (i32 (n))) := ⟨_, rfl⟩
              rw [← eL310]
              have gL310_0 : jGet L310 0 = some (.ref 66) := eL310 ▸ jg_ne (by decide) gL308_0 rfl
              have gL310_1 : jGet L310 1 = some (.int (i32 (sg))) := eL310 ▸ jg_ne (by decide) gL308_1 rfl
              have gL310_4 : jGet L310 4 = some (.int (i32 (0))) := eL310 ▸ jg_ne (by decide) gL308_4 rfl
              have gL310_5 : jGet L310 5 = some (.int (i32 (b274))) := eL310 ▸ jg_ne (by decide) gL308_5 rfl
              have gL310_2 : jGet L310 2 = some (.int (i32 (1))) := eL310 ▸ jg_ne (by decide) gL308_2 rfl
              have gL310_3 : jGet L310 3 = some (.int (i32 (n))) := eL310 ▸ jg_eq
              refine jx_inc (pc_q := 63) (l_q := jSto1 L310 4 (.int (i32 ((0 + (8)))))) (x := 0) rfl gL310_4 (by decide) rfl rfl ?_
              obtain ⟨L311, eL311⟩ : ∃ q, q = jSto1 L310 4 (.int (i32 ((0 + (8))))) := ⟨_, rfl⟩
              rw [← eL311]
              have gL311_0 : jGet L311 0 = some (.ref 66) := eL311 ▸ jg_ne (by decide) gL310_0 rfl
              have gL311_1 : jGet L311 1 = some (.int (i32 (sg))) := eL311 ▸ jg_ne (by decide) gL310_1 rfl
              have gL311_5 : jGet L311 5 = some (.int (i32 (b274))) := eL311 ▸ jg_ne (by decide) gL310_5 rfl
              have gL311_2 : jGet L311 2 = some (.int (i32 (1))) := eL311 ▸ jg_ne (by decide) gL310_2 rfl
              have gL311_3 : jGet L311 3 = some (.int (i32 (n))) := eL311 ▸ jg_ne (by decide) gL310_3 rfl
              have gL311_4 : jGet L311 4 = some (.int (i32 ((0 + (8))))) := eL311 ▸ jg_eq
              refine jx_go (tg := 7) rfl rfl ?_
              exact c_put_at_7_8 (X := X) (d := d) (c0 := c0) (c1 := c1) (G := G) (A := A) (T := T) (sg := sg) (sz := sz) (hd := hd) (hW := hW) (e_sz := e_sz) (h_sg := h_sg) L311 Gx Ax (1) (n) gL311_0 gL311_1 gL311_4 gL311_2 gL311_3 hWx hFx ((fx_2)) (by omega) (by omega) (by omega) (by omega) (by omega) (by omega)
            · have _q := h309
              refine jx_ld (pc_q := 53) (l_q := L308) (st_q := [.int (i32 (n))]) rfl (jl_iloadn gL308_3) ?_
              refine jx_ar (pc_q := 54) (st_q := [.int (i32 (1)), .int (i32 (n))]) rfl rfl rfl rfl ?_
              refine jx_add (pc_q := 55) rfl rfl ?_
              refine jx_go (tg := 59) rfl rfl ?_
              refine jx_ld (pc_q := 60) (l_q := jSto1 L308 3 (.int (i32 ((n + 1))))) (st_q := []) rfl rfl ?_
              obtain ⟨L312, eL312⟩ : ∃ q, q = jSto1 L308 3 (.int (i32 ((n + 1)))) := ⟨_, rfl⟩
              rw [← eL312]
              have gL312_0 : jGet L312 0 = some (.ref 66) := eL312 ▸ jg_ne (by decide) gL308_0 rfl
              have gL312_1 : jGet L312 1 = some (.int (i32 (sg))) := eL312 ▸ jg_ne (by decide) gL308_1 rfl
              have gL312_4 : jGet L312 4 = some (.int (i32 (0))) := eL312 ▸ jg_ne (by decide) gL308_4 rfl
              have gL312_5 : jGet L312 5 = some (.int (i32 (b274))) := eL312 ▸ jg_ne (by decide) gL308_5 rfl
              have gL312_2 : jGet L312 2 = some (.int (i32 (1))) := eL312 ▸ jg_ne (by decide) gL308_2 rfl
              have gL312_3 : jGet L312 3 = some (.int (i32 ((n + 1)))) := eL312 ▸ jg_eq
              refine jx_inc (pc_q := 63) (l_q := jSto1 L312 4 (.int (i32 ((0 + (8)))))) (x := 0) rfl gL312_4 (by decide) rfl rfl ?_
              obtain ⟨L313, eL313⟩ : ∃ q, q = jSto1 L312 4 (.int (i32 ((0 + (8))))) := ⟨_, rfl⟩
              rw [← eL313]
              have gL313_0 : jGet L313 0 = some (.ref 66) := eL313 ▸ jg_ne (by decide) gL312_0 rfl
              have gL313_1 : jGet L313 1 = some (.int (i32 (sg))) := eL313 ▸ jg_ne (by decide) gL312_1 rfl
              have gL313_5 : jGet L313 5 = some (.int (i32 (b274))) := eL313 ▸ jg_ne (by decide) gL312_5 rfl
              have gL313_2 : jGet L313 2 = some (.int (i32 (1))) := eL313 ▸ jg_ne (by decide) gL312_2 rfl
              have gL313_3 : jGet L313 3 = some (.int (i32 ((n + 1)))) := eL313 ▸ jg_ne (by decide) gL312_3 rfl
              have gL313_4 : jGet L313 4 = some (.int (i32 ((0 + (8))))) := eL313 ▸ jg_eq
              refine jx_go (tg := 7) rfl rfl ?_
              exact c_put_at_7_8 (X := X) (d := d) (c0 := c0) (c1 := c1) (G := G) (A := A) (T := T) (sg := sg) (sz := sz) (hd := hd) (hW := hW) (e_sz := e_sz) (h_sg := h_sg) L313 Gx Ax (1) ((n + 1)) gL313_0 gL313_1 gL313_4 gL313_2 gL313_3 hWx hFx ((fx_2)) (by omega) (by omega) (by omega) (by omega) (by omega) (by omega)
set_option maxRecDepth 20000 in
set_option maxHeartbeats 4000000 in
theorem c_put {X : jX} {dd : Nat} {c0 c1 : jC} {G : Nat → Int} {A : Nat → Nat → Int} {T : jH} {sg : Int} {sz : Int} (hd : 3 ≤ dd) (hW : Wk G A) (e_sz : G 2 = sz) (h_sg : (-2147483648 : Int) ≤ sg ∧ sg ≤ 2147483647) : wk X dd 248 [.ref 66, .int (i32 sg)] (rV c0 c1 G A T) (fun o V_q => ∃ (G_q : Nat → Int) (A_q : Nat → Nat → Int) (r : Int) (th2 : Int) (sz2 : Int), V_q = rV c0 c1 G_q A_q T ∧ o = .inl (some (.int (i32 r))) ∧ Wk G_q A_q ∧ Fr [0, 2] [0] G A G_q A_q ∧ ((-2147483648 : Int) ≤ r ∧ r ≤ 2147483647) ∧ G_q 0 = th2 ∧ G_q 2 = sz2 ∧ (((r = 0) ∧ (1 ≤ 0 + snb (bt sg 0) + snb (bt sg 8) + snb (bt sg 16) + snb (bt sg 24)) ∧ (th2 = 1) ∧ (sz2 = sz)) ∨ ((r = 0) ∧ (0 + snb (bt sg 0) + snb (bt sg 8) + snb (bt sg 16) + snb (bt sg 24) = 0) ∧ (3000 < sz + 0 + tz (bt sg 0) + tz (bt sg 8) + tz (bt sg 16) + tz (bt sg 24)) ∧ (th2 = 2) ∧ (sz2 = sz)) ∨ ((0 + snb (bt sg 0) + snb (bt sg 8) + snb (bt sg 16) + snb (bt sg 24) = 0) ∧ (sz2 = sz + 0 + tz (bt sg 0) + tz (bt sg 8) + tz (bt sg 16) + tz (bt sg 24)) ∧ (sz2 ≤ 3000) ∧ (r = sz2) ∧ (th2 = 0)))) := by
  obtain ⟨d, rfl⟩ : ∃ d, dd = d + 1 := ⟨dd - 1, by omega⟩
  refine wk_of (e := jm248) rfl (Nat.le_of_ble_eq_true rfl) ?_
  show wj X d jm248 (0, [(0, .ref 66), (1, .int (i32 (sg)))], [], rV c0 c1 G A T) _
  have hF0 : Fr [0, 2] [0] G A G A := Fr_rf
  have b_sz : (0 : Int) ≤ sz ∧ sz ≤ 3000 := e_sz ▸ hW.1 2
  refine jx_ar (pc_q := 1) (st_q := [.int (i32 (0))]) rfl rfl rfl rfl ?_
  refine jx_ld (pc_q := 2) (l_q := jSto1 [(0, .ref 66), (1, .int (i32 (sg)))] 2 (.int (i32 (0)))) (st_q := []) rfl rfl ?_
  obtain ⟨L314, eL314⟩ : ∃ q, q = jSto1 [(0, .ref 66), (1, .int (i32 (sg)))] 2 (.int (i32 (0))) := ⟨_, rfl⟩
  rw [← eL314]
  have gL314_0 : jGet L314 0 = some (.ref 66) := eL314 ▸ jg_ne (by decide) (rfl : jGet [(0, .ref 66), (1, .int (i32 (sg)))] 0 = some (.ref 66)) rfl
  have gL314_1 : jGet L314 1 = some (.int (i32 (sg))) := eL314 ▸ jg_ne (by decide) (rfl : jGet [(0, .ref 66), (1, .int (i32 (sg)))] 1 = some (.int (i32 (sg)))) rfl
  have gL314_2 : jGet L314 2 = some (.int (i32 (0))) := eL314 ▸ jg_eq
  refine jx_ar (pc_q := 3) (st_q := [.int (i32 (0))]) rfl rfl rfl rfl ?_
  refine jx_ld (pc_q := 4) (l_q := jSto1 L314 3 (.int (i32 (0)))) (st_q := []) rfl rfl ?_
  obtain ⟨L315, eL315⟩ : ∃ q, q = jSto1 L314 3 (.int (i32 (0))) := ⟨_, rfl⟩
  rw [← eL315]
  have gL315_0 : jGet L315 0 = some (.ref 66) := eL315 ▸ jg_ne (by decide) gL314_0 rfl
  have gL315_1 : jGet L315 1 = some (.int (i32 (sg))) := eL315 ▸ jg_ne (by decide) gL314_1 rfl
  have gL315_2 : jGet L315 2 = some (.int (i32 (0))) := eL315 ▸ jg_ne (by decide) gL314_2 rfl
  have gL315_3 : jGet L315 3 = some (.int (i32 (0))) := eL315 ▸ jg_eq
  refine jx_ar (pc_q := 5) (st_q := [.int (i32 (0))]) rfl rfl rfl rfl ?_
  refine jx_ld (pc_q := 7) (l_q := jSto1 L315 4 (.int (i32 (0)))) (st_q := []) rfl rfl ?_
  obtain ⟨L316, eL316⟩ : ∃ q, q = jSto1 L315 4 (.int (i32 (0))) := ⟨_, rfl⟩
  rw [← eL316]
  have gL316_0 : jGet L316 0 = some (.ref 66) := eL316 ▸ jg_ne (by decide) gL315_0 rfl
  have gL316_1 : jGet L316 1 = some (.int (i32 (sg))) := eL316 ▸ jg_ne (by decide) gL315_1 rfl
  have gL316_2 : jGet L316 2 = some (.int (i32 (0))) := eL316 ▸ jg_ne (by decide) gL315_2 rfl
  have gL316_3 : jGet L316 3 = some (.int (i32 (0))) := eL316 ▸ jg_ne (by decide) gL315_3 rfl
  have gL316_4 : jGet L316 4 = some (.int (i32 (0))) := eL316 ▸ jg_eq
  exact c_put_at_7_0 (X := X) (d := d) (c0 := c0) (c1 := c1) (G := G) (A := A) (T := T) (sg := sg) (sz := sz) (hd := hd) (hW := hW) (e_sz := e_sz) (h_sg := h_sg) L316 G A (0) (0) gL316_0 gL316_1 gL316_4 gL316_2 gL316_3 hW hF0 ((e_sz)) (by omega) (by omega) (by omega) (by omega) (by omega) (by omega)
set_option maxRecDepth 20000 in
set_option maxHeartbeats 4000000 in
theorem c_fault__I {X : jX} {dd : Nat} {c0 c1 : jC} {G : Nat → Int} {A : Nat → Nat → Int} {T : jH} {what : Int} {fk fl fp : Int} (hd : 2 ≤ dd) (hW : Wk G A) (e_fk : G 16 = fk) (e_fl : G 17 = fl) (e_fp : G 18 = fp) (h_what : (-2147483648 : Int) ≤ what ∧ what ≤ 2147483647) : wk X dd 367 [.ref 66, .int (i32 what)] (rV c0 c1 G A T) (fun o V_q => ∃ (G_q : Nat → Int) (A_q : Nat → Nat → Int) (r : Int) (th2 : Int), V_q = rV c0 c1 G_q A_q T ∧ o = .inl (some (.int (i32 r))) ∧ Wk G_q A_q ∧ Fr [0] [] G A G_q A_q ∧ ((-2147483648 : Int) ≤ r ∧ r ≤ 2147483647) ∧ G_q 0 = th2 ∧ True) := by
  obtain ⟨d, rfl⟩ : ∃ d, dd = d + 1 := ⟨dd - 1, by omega⟩
  refine wk_of (e := jm367) rfl (Nat.le_of_ble_eq_true rfl) ?_
  show wj X d jm367 (0, [(0, .ref 66), (1, .int (i32 (what)))], [], rV c0 c1 G A T) _
  have hF0 : Fr [0] [] G A G A := Fr_rf
  have b_fk : (0 : Int) ≤ fk ∧ fk ≤ 6 := e_fk ▸ hW.1 16
  have b_fl : (-1 : Int) ≤ fl ∧ fl ≤ 3000 := e_fl ▸ hW.1 17
  have b_fp : (-3000 : Int) ≤ fp ∧ fp ≤ 3002 := e_fp ▸ hW.1 18
  refine jx_ld (pc_q := 1) (l_q := [(0, .ref 66), (1, .int (i32 (what)))]) (st_q := [.ref 66]) rfl (jl_aloadn rfl) ?_
  refine jx_ld (pc_q := 2) (l_q := [(0, .ref 66), (1, .int (i32 (what)))]) (st_q := [.int (i32 (what)), .ref 66]) rfl (jl_iloadn rfl) ?_
  refine jx_ar (pc_q := 3) (st_q := [.int (i32 (0)), .int (i32 (what)), .ref 66]) rfl rfl rfl rfl ?_
  refine jx_ar (pc_q := 4) (st_q := [.int (i32 (2)), .int (i32 (0)), .int (i32 (what)), .ref 66]) rfl rfl rfl rfl ?_
  refine jx_st (pc_q := 7) (as := [.int (i32 (what)), .int (i32 (0)), .int (i32 (2))]) (st := [.ref 66]) rfl rfl ⟨rfl, Nat.le_of_ble_eq_true rfl⟩ rfl rfl rfl (c_in (dd := d) (hd := by omega) (v := what) (a := 0) (b := 2)   (h_v := ⟨(Int.le_trans (by decide : (-2147483648 : Int) ≤ -2147483648) h_what.1), (Int.le_trans h_what.2 (by decide : (2147483647 : Int) ≤ 2147483647))⟩) (h_a := ⟨(by decide), (by decide)⟩) (h_b := ⟨(by decide), (by decide)⟩)  ) (fun o V_q hq => ?_)
  obtain ⟨r1, rfl, rfl, b2, q3⟩ := hq
  refine .inr ⟨_, rfl, ?_⟩
  rcases q3 with ⟨rfl, a4, a5⟩ | ⟨rfl, a6⟩
  · have _q : True := trivial
    refine jx_if_ne (pc_q := 10) (tg := 14) rfl rfl rfl (by decide) (by decide) (fun h7 => ?_) (fun h7 => ?_)
    · have _q := h7
      refine jx_ar (pc_q := 15) (st_q := [.int (i32 (0)), .ref 66]) rfl rfl rfl rfl ?_
      refine jx_ar (pc_q := 16) (st_q := [.int (i32 (0)), .int (i32 (0)), .ref 66]) rfl rfl rfl rfl ?_
      refine jx_ar (pc_q := 17) (st_q := [.int (i32 (0)), .int (i32 (0)), .int (i32 (0)), .ref 66]) rfl rfl rfl rfl ?_
      refine jx_vr (pc_q := 20) (as := [.int (i32 (0)), .int (i32 (0)), .int (i32 (0))]) (st := []) rfl rfl rfl rfl ⟨rfl, rfl, Nat.le_of_ble_eq_true rfl⟩ rfl rfl (c_refuse (dd := d) (hd := by omega) (hW := hW) (a := 0) (b := 0) (c := 0)   (h_a := ⟨(by decide), (by decide)⟩) (h_b := ⟨(by decide), (by decide)⟩) (h_c := ⟨(by decide), (by decide)⟩)  ) (fun o V_q hq => ?_)
      obtain ⟨G8, A9, r10, th2_11, rfl, rfl, hW12, hF13, b14, e15, q16⟩ := hq
      have hF17 := Fr_tr hF0 hF13 (Fr_sub (by decide)) (Fr_sub (by decide))
      have bth2_11 : (0 : Int) ≤ th2_11 ∧ th2_11 ≤ 4 := e15 ▸ hW12.1 0
      refine .inr ⟨_, rfl, ?_⟩
      rcases q16 with ⟨rfl, a18, a19⟩ | ⟨rfl, a20, a21, a22⟩ | ⟨rfl, a23, a24, a25, a26⟩ | ⟨rfl, a27, a28, a29, a30⟩
      · have _q : True := trivial
        exfalso
        omega
      · have _q : True := trivial
        exfalso
        omega
      · have _q : True := trivial
        exfalso
        omega
      · have _q : True := trivial
        refine jx_if_eq (pc_q := 23) (tg := 25) rfl rfl rfl (by decide) (by decide) (fun h31 => ?_) (fun h31 => ?_)
        · have _q := h31
          refine jx_ld (pc_q := 26) (l_q := [(0, .ref 66), (1, .int (i32 (what)))]) (st_q := [.int (i32 (what))]) rfl (jl_iloadn rfl) ?_
          refine jx_if_ne (pc_q := 29) (tg := 36) rfl rfl rfl (Int.le_trans (by decide : (-2147483648 : Int) ≤ -2147483648) h_what.1) (Int.le_trans h_what.2 (by decide : (2147483647 : Int) ≤ 2147483647)) (fun h32 => ?_) (fun h32 => ?_)
          · have _q := h32
            refine jx_ld (pc_q := 37) (l_q := [(0, .ref 66), (1, .int (i32 (what)))]) (st_q := [.int (i32 (what))]) rfl (jl_iloadn rfl) ?_
            refine jx_ar (pc_q := 38) (st_q := [.int (i32 (1)), .int (i32 (what))]) rfl rfl rfl rfl ?_
            refine jx_icmp_ne (pc_q := 41) (tg := 48) rfl rfl rfl (Int.le_trans (by decide : (-2147483648 : Int) ≤ -2147483648) h_what.1) (Int.le_trans h_what.2 (by decide : (2147483647 : Int) ≤ 2147483647)) (by decide) (by decide) (fun h33 => ?_) (fun h33 => ?_)
            · have _q := h33
              refine jx_ld (pc_q := 49) (l_q := [(0, .ref 66), (1, .int (i32 (what)))]) (st_q := [.ref 66]) rfl (jl_aloadn rfl) ?_
              refine jr_get (pc_q := 52) (i := 18) (v := .int (i32 (fp))) rfl rfl (by decide) (rFv_eq (by decide) (show G8 18 = fp from ((hF13.1 18 rfl).trans (e_fp)))) rfl ?_
              refine jx_rt (v := some (.int (i32 (fp)))) rfl rfl rfl rfl rfl rfl ?_
              exact ⟨_, _, _, th2_11, rfl, rfl, hW12, hF17, by omega, (e15), trivial⟩
            · have _q := h33
              refine jx_ld (pc_q := 42) (l_q := [(0, .ref 66), (1, .int (i32 (what)))]) (st_q := [.ref 66]) rfl (jl_aloadn rfl) ?_
              refine jr_get (pc_q := 45) (i := 17) (v := .int (i32 (fl))) rfl rfl (by decide) (rFv_eq (by decide) (show G8 17 = fl from ((hF13.1 17 rfl).trans (e_fl)))) rfl ?_
              refine jx_go (tg := 52) rfl rfl ?_
              refine jx_rt (v := some (.int (i32 (fl)))) rfl rfl rfl rfl rfl rfl ?_
              exact ⟨_, _, _, th2_11, rfl, rfl, hW12, hF17, by omega, (e15), trivial⟩
          · have _q := h32
            refine jx_ld (pc_q := 30) (l_q := [(0, .ref 66), (1, .int (i32 (what)))]) (st_q := [.ref 66]) rfl (jl_aloadn rfl) ?_
            refine jr_get (pc_q := 33) (i := 16) (v := .int (i32 (fk))) rfl rfl (by decide) (rFv_eq (by decide) (show G8 16 = fk from ((hF13.1 16 rfl).trans (e_fk)))) rfl ?_
            refine jx_go (tg := 52) rfl rfl ?_
            refine jx_rt (v := some (.int (i32 (fk)))) rfl rfl rfl rfl rfl rfl ?_
            exact ⟨_, _, _, th2_11, rfl, rfl, hW12, hF17, by omega, (e15), trivial⟩
        · have _q := h31
          exact absurd h31 (by omega)
    · have _q := h7
      exact absurd h7 (by omega)
  · have _q : True := trivial
    refine jx_if_ne (pc_q := 10) (tg := 14) rfl rfl rfl (by decide) (by decide) (fun h34 => ?_) (fun h34 => ?_)
    · have _q := h34
      exact absurd h34 (by omega)
    · have _q := h34
      refine jx_ar (pc_q := 11) (st_q := [.int (i32 (1)), .ref 66]) rfl rfl rfl rfl ?_
      refine jx_go (tg := 15) rfl rfl ?_
      refine jx_ar (pc_q := 16) (st_q := [.int (i32 (0)), .int (i32 (1)), .ref 66]) rfl rfl rfl rfl ?_
      refine jx_ar (pc_q := 17) (st_q := [.int (i32 (0)), .int (i32 (0)), .int (i32 (1)), .ref 66]) rfl rfl rfl rfl ?_
      refine jx_vr (pc_q := 20) (as := [.int (i32 (1)), .int (i32 (0)), .int (i32 (0))]) (st := []) rfl rfl rfl rfl ⟨rfl, rfl, Nat.le_of_ble_eq_true rfl⟩ rfl rfl (c_refuse (dd := d) (hd := by omega) (hW := hW) (a := 1) (b := 0) (c := 0)   (h_a := ⟨(by decide), (by decide)⟩) (h_b := ⟨(by decide), (by decide)⟩) (h_c := ⟨(by decide), (by decide)⟩)  ) (fun o V_q hq => ?_)
      obtain ⟨G35, A36, r37, th2_38, rfl, rfl, hW39, hF40, b41, e42, q43⟩ := hq
      have hF44 := Fr_tr hF0 hF40 (Fr_sub (by decide)) (Fr_sub (by decide))
      have bth2_38 : (0 : Int) ≤ th2_38 ∧ th2_38 ≤ 4 := e42 ▸ hW39.1 0
      refine .inr ⟨_, rfl, ?_⟩
      rcases q43 with ⟨rfl, a45, a46⟩ | ⟨rfl, a47, a48, a49⟩ | ⟨rfl, a50, a51, a52, a53⟩ | ⟨rfl, a54, a55, a56, a57⟩
      · have _q : True := trivial
        refine jx_if_eq (pc_q := 23) (tg := 25) rfl rfl rfl (by decide) (by decide) (fun h58 => ?_) (fun h58 => ?_)
        · have _q := h58
          exact absurd h58 (by omega)
        · have _q := h58
          refine jx_ar (pc_q := 24) (st_q := [.int (i32 (0))]) rfl rfl rfl rfl ?_
          refine jx_rt (v := some (.int (i32 (0)))) rfl rfl rfl rfl rfl rfl ?_
          exact ⟨_, _, _, th2_38, rfl, rfl, hW39, hF44, by omega, (e42), trivial⟩
      · have _q : True := trivial
        exfalso
        omega
      · have _q : True := trivial
        exfalso
        omega
      · have _q : True := trivial
        exfalso
        omega
