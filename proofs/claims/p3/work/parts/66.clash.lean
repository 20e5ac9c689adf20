/-- the value of a constant (R: the values of indices) -/
def cP (T : Nat → Nat → Int) (R : Nat → Int) (e : Int) : Int := if T 15 e.toNat = 1 then T 17 e.toNat else R (T 17 e.toNat).toNat
def cv (T : Nat → Nat → Int) (R : Nat → Int) (e : Int) : Int := if T 15 (bK T 30 e).toNat = 4 then (if T 17 (bK T 30 e).toNat = 43 then (i32 (cP T R (bK T 30 (T 18 (bK T 30 e).toNat)) + cP T R (bK T 30 (T 19 (bK T 30 e).toNat)))).toInt else (i32 (cP T R (bK T 30 (T 18 (bK T 30 e).toNat)) - cP T R (bK T 30 (T 19 (bK T 30 e).toNat)))).toInt) else cP T R (bK T 30 e)
theorem cP_1 {T : Nat → Nat → Int} {R : Nat → Int} {e b x : Int} (hb : b = bK T 30 e) (h1 : T 15 b.toNat = 1) (hx : x = T 17 b.toNat) : x = cP T R (bK T 30 e) := by
  subst hb hx
  exact (if_pos h1).symm
theorem cP_2 {T : Nat → Nat → Int} {R : Nat → Int} {e b x : Int} (hb : b = bK T 30 e) (h1 : T 15 b.toNat ≠ 1) (hx : x = R (T 17 b.toNat).toNat) : x = cP T R (bK T 30 e) := by
  subst hb hx
  exact (if_neg h1).symm
theorem cv_p {T : Nat → Nat → Int} {R : Nat → Int} {e b x : Int} (hb : b = bK T 30 e) (h4 : T 15 b.toNat ≠ 4) (hx : x = cP T R (bK T 30 e)) : x = cv T R e := by
  subst hb hx
  exact (if_neg h4).symm
theorem cv_a {T : Nat → Nat → Int} {R : Nat → Int} {e b x y v : Int} (hb : b = bK T 30 e) (h4 : T 15 b.toNat = 4) (ho : T 17 b.toNat = 43) (hx : x = cP T R (bK T 30 (T 18 b.toNat))) (hy : y = cP T R (bK T 30 (T 19 b.toNat))) (hv : v = (i32 (x + y)).toInt) : v = cv T R e := by
  subst hb hx hy hv
  unfold cv
  rw [if_pos h4, if_pos ho]
theorem cv_s {T : Nat → Nat → Int} {R : Nat → Int} {e b x y v : Int} (hb : b = bK T 30 e) (h4 : T 15 b.toNat = 4) (ho : T 17 b.toNat ≠ 43) (hx : x = cP T R (bK T 30 (T 18 b.toNat))) (hy : y = cP T R (bK T 30 (T 19 b.toNat))) (hv : v = (i32 (x - y)).toInt) : v = cv T R e := by
  subst hb hx hy hv
  unfold cv
  rw [if_pos h4, if_neg ho]
theorem iC_i {T : Nat → Nat → Int} {e b : Int} (h : iC T e) (hb : b = bK T 30 e) (h4 : T 15 b.toNat = 4) : T 15 (bK T 30 (T 19 b.toNat)).toNat = 1 ∧ pC T (bK T 30 (T 18 b.toNat)) := by
  subst hb
  rcases h with h | h
  · exact h.2.2
  · exact absurd h4 h.1
theorem iC_j {T : Nat → Nat → Int} {e b : Int} (h : iC T e) (hb : b = bK T 30 e) (h4 : T 15 b.toNat ≠ 4) : pC T b := by
  subst hb
  rcases h with h | h
  · exact absurd h.1 h4
  · exact h.2
/-- nothing in common: neither both send nor both take -/
def NC (a b : Int) : Prop := ¬ (a / 4 % 2 = 1 ∧ b / 4 % 2 = 1) ∧ ¬ (a / 8 % 2 = 1 ∧ b / 8 % 2 = 1)
theorem NC_12 {a b : Int} (h0 : 0 ≤ a) (h1 : a ≤ 15) (h2 : 0 ≤ b) (h3 : b ≤ 15) (h : (i32 (i32 a &&& i32 b).toInt &&& i32 12).toInt = 0) : NC a b := by
  rw [i32_of] at h
  have q : ∀ x y : Fin 16, (i32 (x.val : Int) &&& i32 (y.val : Int) &&& i32 12).toInt = 0 → ¬ ((x.val : Int) / 4 % 2 = 1 ∧ (y.val : Int) / 4 % 2 = 1) ∧ ¬ ((x.val : Int) / 8 % 2 = 1 ∧ (y.val : Int) / 8 % 2 = 1) := by decide
  have := q ⟨a.toNat, by omega⟩ ⟨b.toNat, by omega⟩
  simp only at this
  rw [show ((a.toNat : Nat) : Int) = a by omega, show ((b.toNat : Nat) : Int) = b by omega] at this
  exact this h

set_option maxRecDepth 20000 in
set_option maxHeartbeats 4000000 in
theorem c_constant_p {X : jX} {dd : Nat} {T0 : Nat → Nat → Int} {Vs : Nat → Prop} {sb : Int} {k : Nat} {c0 c1 : jC} {G : Nat → Int} {A : Nat → Nat → Int} {T : jH} {e : Int} {lo hi : Int} (hd : 2 ≤ dd) (hW : Wk G A) (h_e : (-2147483648 : Int) ≤ e ∧ e ≤ 2147483647) (p_0 : TA T0 A) (p_1 : 0 ≤ lo) (p_2 : hi ≤ 6999) (p_3 : sb ≤ 202) (p_4 : k ≤ 30) (p_5 : wE T0 Vs sb (k) (e) (lo) (hi)) (p_6 : pC T0 (bK T0 30 (e))) : wk X dd 326 [.ref 66, .int (i32 e)] (rV c0 c1 G A T) (fun o V_q => ∃ (r : Int), V_q = rV c0 c1 G A T ∧ o = .inl (some (.int (i32 r))) ∧ ((-2147483648 : Int) ≤ r ∧ r ≤ 2147483647) ∧ (r = cP T0 (A 13) (bK T0 30 (e))) ∧ True) := by
  obtain ⟨d, rfl⟩ : ∃ d, dd = d + 1 := ⟨dd - 1, by omega⟩
  refine wk_of (e := jm326) rfl (Nat.le_of_ble_eq_true rfl) ?_
  show wj X d jm326 (0, [(0, .ref 66), (1, .int (i32 (e)))], [], rV c0 c1 G A T) _
  have hWT := TA_w hW p_0
  refine jx_ld (pc_q := 1) (l_q := [(0, .ref 66), (1, .int (i32 (e)))]) (st_q := [.ref 66]) rfl (jl_aloadn rfl) ?_
  refine jx_ld (pc_q := 2) (l_q := [(0, .ref 66), (1, .int (i32 (e)))]) (st_q := [.int (i32 (e)), .ref 66]) rfl (jl_iloadn rfl) ?_
  refine jx_vr (pc_q := 5) (as := [.int (i32 (e))]) (st := []) rfl rfl rfl rfl ⟨rfl, rfl, Nat.le_of_ble_eq_true rfl⟩ rfl rfl (c_bare2 (dd := d) (hd := by omega) (hW := hW) (e := e) (k := k) (lo := lo) (hi := hi)  (h_e := ⟨(Int.le_trans (by decide : (-2147483648 : Int) ≤ -2147483648) h_e.1), (Int.le_trans h_e.2 (by decide : (2147483647 : Int) ≤ 2147483647))⟩)  (p_0 := p_0) (p_1 := by omega) (p_2 := by omega) (p_3 := by omega) (p_4 := p_5)) (fun o V_q hq => ?_)
  obtain ⟨r1, rfl, rfl, b2, p3, p4, p5, -⟩ := hq
  refine .inr ⟨_, rfl, ?_⟩
  have hwb : wE T0 Vs sb k r1 lo hi := (by rw [show r1 = bK T0 30 e by omega]; exact bK_w p_5); obtain ⟨k1, hk1⟩ := wE_pos hwb; have hpc : pC T0 r1 := (by rw [show r1 = bK T0 30 e by omega]; exact p_6); unfold pC at hpc
  refine jx_ld (pc_q := 6) (l_q := jSto1 [(0, .ref 66), (1, .int (i32 (e)))] 2 (.int (i32 (r1)))) (st_q := []) rfl rfl ?_
  obtain ⟨L7, eL7⟩ : ∃ q, q = jSto1 [(0, .ref 66), (1, .int (i32 (e)))] 2 (.int (i32 (r1))) := ⟨_, rfl⟩
  rw [← eL7]
  have gL7_0 : jGet L7 0 = some (.ref 66) := eL7 ▸ jg_ne (by decide) (rfl : jGet [(0, .ref 66), (1, .int (i32 (e)))] 0 = some (.ref 66)) rfl
  have gL7_1 : jGet L7 1 = some (.int (i32 (e))) := eL7 ▸ jg_ne (by decide) (rfl : jGet [(0, .ref 66), (1, .int (i32 (e)))] 1 = some (.int (i32 (e)))) rfl
  have gL7_2 : jGet L7 2 = some (.int (i32 (r1))) := eL7 ▸ jg_eq
  refine jx_ld (pc_q := 7) (l_q := L7) (st_q := [.ref 66]) rfl (jl_aloadn gL7_0) ?_
  refine jr_get (pc_q := 10) (i := 32) (v := .ref 82) rfl rfl (by decide) rfl rfl ?_
  refine jx_ld (pc_q := 11) (l_q := L7) (st_q := [.int (i32 (r1)), .ref 82]) rfl (jl_iloadn gL7_2) ?_
  have b8 : (0 : Int) ≤ T0 15 (r1).toNat ∧ T0 15 (r1).toNat ≤ 34 := hWT.2 15 _
  refine jr_ldv (pc_q := 12) (i := 15) (m := 7000) (z := r1) (y := T0 15 (r1).toNat) rfl (by decide) rfl (by decide) (by omega) (by omega) rfl (show A 15 (r1).toNat = T0 15 (r1).toNat from (congrFun (p_0 15 rfl) _)) ?_
  refine jx_ar (pc_q := 13) (st_q := [.int (i32 (4)), .int (i32 (T0 15 (r1).toNat))]) rfl rfl rfl rfl ?_
  refine jx_icmp_ne (pc_q := 16) (tg := 62) rfl rfl rfl (Int.le_trans (by decide : (-2147483648 : Int) ≤ 0) b8.1) (Int.le_trans b8.2 (by decide : (34 : Int) ≤ 2147483647)) (by decide) (by decide) (fun h9 => ?_) (fun h9 => ?_)
  · have _q := h9
    refine jx_ld (pc_q := 63) (l_q := L7) (st_q := [.ref 66]) rfl (jl_aloadn gL7_0) ?_
    refine jr_get (pc_q := 66) (i := 32) (v := .ref 82) rfl rfl (by decide) rfl rfl ?_
    refine jx_ld (pc_q := 67) (l_q := L7) (st_q := [.int (i32 (r1)), .ref 82]) rfl (jl_iloadn gL7_2) ?_
    refine jr_ldv (pc_q := 68) (i := 15) (m := 7000) (z := r1) (y := T0 15 (r1).toNat) rfl (by decide) rfl (by decide) (by omega) (by omega) rfl (show A 15 (r1).toNat = T0 15 (r1).toNat from (congrFun (p_0 15 rfl) _)) ?_
    refine jx_ar (pc_q := 69) (st_q := [.int (i32 (1)), .int (i32 (T0 15 (r1).toNat))]) rfl rfl rfl rfl ?_
    refine jx_icmp_ne (pc_q := 72) (tg := 81) rfl rfl rfl (Int.le_trans (by decide : (-2147483648 : Int) ≤ 0) b8.1) (Int.le_trans b8.2 (by decide : (34 : Int) ≤ 2147483647)) (by decide) (by decide) (fun h10 => ?_) (fun h10 => ?_)
    · have _q := h10
      rw [hk1] at hwb; have hq2 := wE_i2 hwb (by omega); have hs1 := hq2.1.1; have hs2 := hq2.1.2.1; have h13 : A 13 (T0 17 (r1).toNat).toNat = A 13 (T0 17 (r1).toNat).toNat := rfl
      refine jx_ld (pc_q := 82) (l_q := L7) (st_q := [.ref 66]) rfl (jl_aloadn gL7_0) ?_
      refine jr_get (pc_q := 85) (i := 27) (v := .ref 80) rfl rfl (by decide) rfl rfl ?_
      refine jx_ld (pc_q := 86) (l_q := L7) (st_q := [.ref 66, .ref 80]) rfl (jl_aloadn gL7_0) ?_
      refine jr_get (pc_q := 89) (i := 34) (v := .ref 84) rfl rfl (by decide) rfl rfl ?_
      refine jx_ld (pc_q := 90) (l_q := L7) (st_q := [.int (i32 (r1)), .ref 84, .ref 80]) rfl (jl_iloadn gL7_2) ?_
      have b11 : (-2147483648 : Int) ≤ T0 17 (r1).toNat ∧ T0 17 (r1).toNat ≤ 2147483647 := hWT.2 17 _
      refine jr_ldv (pc_q := 91) (i := 17) (m := 7000) (z := r1) (y := T0 17 (r1).toNat) rfl (by decide) rfl (by decide) (by omega) (by omega) rfl (show A 17 (r1).toNat = T0 17 (r1).toNat from (congrFun (p_0 17 rfl) _)) ?_
      have b12 : (-2147483648 : Int) ≤ A 13 (T0 17 (r1).toNat).toNat ∧ A 13 (T0 17 (r1).toNat).toNat ≤ 2147483647 := hW.2 13 _
      refine jr_ldv (pc_q := 92) (i := 13) (m := 260) (z := T0 17 (r1).toNat) (y := A 13 (T0 17 (r1).toNat).toNat) rfl (by decide) rfl (by decide) (by omega) (by omega) rfl (show A 13 (T0 17 (r1).toNat).toNat = A 13 (T0 17 (r1).toNat).toNat from rfl) ?_
      refine jx_rt (v := some (.int (i32 (A 13 (T0 17 (r1).toNat).toNat)))) rfl rfl rfl rfl rfl rfl ?_
      exact ⟨_, rfl, rfl, by omega, (by first | exact cP_1 (b := r1) (by omega) (by omega) rfl | exact cP_2 (b := r1) (by omega) (by omega) rfl), trivial⟩
    · have _q := h10
      refine jx_ld (pc_q := 73) (l_q := L7) (st_q := [.ref 66]) rfl (jl_aloadn gL7_0) ?_
      refine jr_get (pc_q := 76) (i := 34) (v := .ref 84) rfl rfl (by decide) rfl rfl ?_
      refine jx_ld (pc_q := 77) (l_q := L7) (st_q := [.int (i32 (r1)), .ref 84]) rfl (jl_iloadn gL7_2) ?_
      have b13 : (-2147483648 : Int) ≤ T0 17 (r1).toNat ∧ T0 17 (r1).toNat ≤ 2147483647 := hWT.2 17 _
      refine jr_ldv (pc_q := 78) (i := 17) (m := 7000) (z := r1) (y := T0 17 (r1).toNat) rfl (by decide) rfl (by decide) (by omega) (by omega) rfl (show A 17 (r1).toNat = T0 17 (r1).toNat from (congrFun (p_0 17 rfl) _)) ?_
      refine jx_go (tg := 92) rfl rfl ?_
      refine jx_rt (v := some (.int (i32 (T0 17 (r1).toNat)))) rfl rfl rfl rfl rfl rfl ?_
      exact ⟨_, rfl, rfl, by omega, (by first | exact cP_1 (b := r1) (by omega) (by omega) rfl | exact cP_2 (b := r1) (by omega) (by omega) rfl), trivial⟩
  · have _q := h9
    exfalso
    omega
set_option maxRecDepth 20000 in
set_option maxHeartbeats 4000000 in
theorem c_constant {X : jX} {dd : Nat} {T0 : Nat → Nat → Int} {Vs : Nat → Prop} {sb : Int} {k : Nat} {c0 c1 : jC} {G : Nat → Int} {A : Nat → Nat → Int} {T : jH} {e : Int} {lo hi : Int} (hd : 3 ≤ dd) (hW : Wk G A) (h_e : (-2147483648 : Int) ≤ e ∧ e ≤ 2147483647) (p_0 : TA T0 A) (p_1 : 0 ≤ lo) (p_2 : hi ≤ 6999) (p_3 : sb ≤ 202) (p_4 : k ≤ 30) (p_5 : wE T0 Vs sb (k) (e) (lo) (hi)) (p_6 : iC T0 (e)) : wk X dd 326 [.ref 66, .int (i32 e)] (rV c0 c1 G A T) (fun o V_q => ∃ (r : Int), V_q = rV c0 c1 G A T ∧ o = .inl (some (.int (i32 r))) ∧ ((-2147483648 : Int) ≤ r ∧ r ≤ 2147483647) ∧ (r = cv T0 (A 13) (e)) ∧ True) := by
  obtain ⟨d, rfl⟩ : ∃ d, dd = d + 1 := ⟨dd - 1, by omega⟩
  refine wk_of (e := jm326) rfl (Nat.le_of_ble_eq_true rfl) ?_
  show wj X d jm326 (0, [(0, .ref 66), (1, .int (i32 (e)))], [], rV c0 c1 G A T) _
  have hWT := TA_w hW p_0
  refine jx_ld (pc_q := 1) (l_q := [(0, .ref 66), (1, .int (i32 (e)))]) (st_q := [.ref 66]) rfl (jl_aloadn rfl) ?_
  refine jx_ld (pc_q := 2) (l_q := [(0, .ref 66), (1, .int (i32 (e)))]) (st_q := [.int (i32 (e)), .ref 66]) rfl (jl_iloadn rfl) ?_
  refine jx_vr (pc_q := 5) (as := [.int (i32 (e))]) (st := []) rfl rfl rfl rfl ⟨rfl, rfl, Nat.le_of_ble_eq_true rfl⟩ rfl rfl (c_bare2 (dd := d) (hd := by omega) (hW := hW) (e := e) (k := k) (lo := lo) (hi := hi)  (h_e := ⟨(Int.le_trans (by decide : (-2147483648 : Int) ≤ -2147483648) h_e.1), (Int.le_trans h_e.2 (by decide : (2147483647 : Int) ≤ 2147483647))⟩)  (p_0 := p_0) (p_1 := by omega) (p_2 := by omega) (p_3 := by omega) (p_4 := p_5)) (fun o V_q hq => ?_)
  obtain ⟨r1, rfl, rfl, b2, p3, p4, p5, -⟩ := hq
  refine .inr ⟨_, rfl, ?_⟩
  have hwb : wE T0 Vs sb k r1 lo hi := (by rw [show r1 = bK T0 30 e by omega]; exact bK_w p_5); obtain ⟨k1, hk1⟩ := wE_pos hwb
  refine jx_ld (pc_q := 6) (l_q := jSto1 [(0, .ref 66), (1, .int (i32 (e)))] 2 (.int (i32 (r1)))) (st_q := []) rfl rfl ?_
  obtain ⟨L7, eL7⟩ : ∃ q, q = jSto1 [(0, .ref 66), (1, .int (i32 (e)))] 2 (.int (i32 (r1))) := ⟨_, rfl⟩
  rw [← eL7]
  have gL7_0 : jGet L7 0 = some (.ref 66) := eL7 ▸ jg_ne (by decide) (rfl : jGet [(0, .ref 66), (1, .int (i32 (e)))] 0 = some (.ref 66)) rfl
  have gL7_1 : jGet L7 1 = some (.int (i32 (e))) := eL7 ▸ jg_ne (by decide) (rfl : jGet [(0, .ref 66), (1, .int (i32 (e)))] 1 = some (.int (i32 (e)))) rfl
  have gL7_2 : jGet L7 2 = some (.int (i32 (r1))) := eL7 ▸ jg_eq
  refine jx_ld (pc_q := 7) (l_q := L7) (st_q := [.ref 66]) rfl (jl_aloadn gL7_0) ?_
  refine jr_get (pc_q := 10) (i := 32) (v := .ref 82) rfl rfl (by decide) rfl rfl ?_
  refine jx_ld (pc_q := 11) (l_q := L7) (st_q := [.int (i32 (r1)), .ref 82]) rfl (jl_iloadn gL7_2) ?_
  have b8 : (0 : Int) ≤ T0 15 (r1).toNat ∧ T0 15 (r1).toNat ≤ 34 := hWT.2 15 _
  refine jr_ldv (pc_q := 12) (i := 15) (m := 7000) (z := r1) (y := T0 15 (r1).toNat) rfl (by decide) rfl (by decide) (by omega) (by omega) rfl (show A 15 (r1).toNat = T0 15 (r1).toNat from (congrFun (p_0 15 rfl) _)) ?_
  refine jx_ar (pc_q := 13) (st_q := [.int (i32 (4)), .int (i32 (T0 15 (r1).toNat))]) rfl rfl rfl rfl ?_
  refine jx_icmp_ne (pc_q := 16) (tg := 62) rfl rfl rfl (Int.le_trans (by decide : (-2147483648 : Int) ≤ 0) b8.1) (Int.le_trans b8.2 (by decide : (34 : Int) ≤ 2147483647)) (by decide) (by decide) (fun h9 => ?_) (fun h9 => ?_)
  · have _q := h9
    have hpc := iC_j p_6 (b := r1) (by omega) (by omega); unfold pC at hpc
    refine jx_ld (pc_q := 63) (l_q := L7) (st_q := [.ref 66]) rfl (jl_aloadn gL7_0) ?_
    refine jr_get (pc_q := 66) (i := 32) (v := .ref 82) rfl rfl (by decide) rfl rfl ?_
    refine jx_ld (pc_q := 67) (l_q := L7) (st_q := [.int (i32 (r1)), .ref 82]) rfl (jl_iloadn gL7_2) ?_
    refine jr_ldv (pc_q := 68) (i := 15) (m := 7000) (z := r1) (y := T0 15 (r1).toNat) rfl (by decide) rfl (by decide) (by omega) (by omega) rfl (show A 15 (r1).toNat = T0 15 (r1).toNat from (congrFun (p_0 15 rfl) _)) ?_
    refine jx_ar (pc_q := 69) (st_q := [.int (i32 (1)), .int (i32 (T0 15 (r1).toNat))]) rfl rfl rfl rfl ?_
    refine jx_icmp_ne (pc_q := 72) (tg := 81) rfl rfl rfl (Int.le_trans (by decide : (-2147483648 : Int) ≤ 0) b8.1) (Int.le_trans b8.2 (by decide : (34 : Int) ≤ 2147483647)) (by decide) (by decide) (fun h10 => ?_) (fun h10 => ?_)
    · have _q := h10
      rw [hk1] at hwb; have hq2 := wE_i2 hwb (by omega); have hs1 := hq2.1.1; have hs2 := hq2.1.2.1; have h13 : A 13 (T0 17 (r1).toNat).toNat = A 13 (T0 17 (r1).toNat).toNat := rfl
      refine jx_ld (pc_q := 82) (l_q := L7) (st_q := [.ref 66]) rfl (jl_aloadn gL7_0) ?_
      refine jr_get (pc_q := 85) (i := 27) (v := .ref 80) rfl rfl (by decide) rfl rfl ?_
      refine jx_ld (pc_q := 86) (l_q := L7) (st_q := [.ref 66, .ref 80]) rfl (jl_aloadn gL7_0) ?_
      refine jr_get (pc_q := 89) (i := 34) (v := .ref 84) rfl rfl (by decide) rfl rfl ?_
      refine jx_ld (pc_q := 90) (l_q := L7) (st_q := [.int (i32 (r1)), .ref 84, .ref 80]) rfl (jl_iloadn gL7_2) ?_
      have b11 : (-2147483648 : Int) ≤ T0 17 (r1).toNat ∧ T0 17 (r1).toNat ≤ 2147483647 := hWT.2 17 _
      refine jr_ldv (pc_q := 91) (i := 17) (m := 7000) (z := r1) (y := T0 17 (r1).toNat) rfl (by decide) rfl (by decide) (by omega) (by omega) rfl (show A 17 (r1).toNat = T0 17 (r1).toNat from (congrFun (p_0 17 rfl) _)) ?_
      have b12 : (-2147483648 : Int) ≤ A 13 (T0 17 (r1).toNat).toNat ∧ A 13 (T0 17 (r1).toNat).toNat ≤ 2147483647 := hW.2 13 _
      refine jr_ldv (pc_q := 92) (i := 13) (m := 260) (z := T0 17 (r1).toNat) (y := A 13 (T0 17 (r1).toNat).toNat) rfl (by decide) rfl (by decide) (by omega) (by omega) rfl (show A 13 (T0 17 (r1).toNat).toNat = A 13 (T0 17 (r1).toNat).toNat from rfl) ?_
      refine jx_rt (v := some (.int (i32 (A 13 (T0 17 (r1).toNat).toNat)))) rfl rfl rfl rfl rfl rfl ?_
      exact ⟨_, rfl, rfl, by omega, (cv_p (b := r1) (by omega) (by omega) (by first | exact cP_1 (b := r1) (by omega) (by omega) rfl | exact cP_2 (b := r1) (by omega) (by omega) rfl)), trivial⟩
    · have _q := h10
      refine jx_ld (pc_q := 73) (l_q := L7) (st_q := [.ref 66]) rfl (jl_aloadn gL7_0) ?_
      refine jr_get (pc_q := 76) (i := 34) (v := .ref 84) rfl rfl (by decide) rfl rfl ?_
      refine jx_ld (pc_q := 77) (l_q := L7) (st_q := [.int (i32 (r1)), .ref 84]) rfl (jl_iloadn gL7_2) ?_
      have b13 : (-2147483648 : Int) ≤ T0 17 (r1).toNat ∧ T0 17 (r1).toNat ≤ 2147483647 := hWT.2 17 _
      refine jr_ldv (pc_q := 78) (i := 17) (m := 7000) (z := r1) (y := T0 17 (r1).toNat) rfl (by decide) rfl (by decide) (by omega) (by omega) rfl (show A 17 (r1).toNat = T0 17 (r1).toNat from (congrFun (p_0 17 rfl) _)) ?_
      refine jx_go (tg := 92) rfl rfl ?_
      refine jx_rt (v := some (.int (i32 (T0 17 (r1).toNat)))) rfl rfl rfl rfl rfl rfl ?_
      exact ⟨_, rfl, rfl, by omega, (cv_p (b := r1) (by omega) (by omega) (by first | exact cP_1 (b := r1) (by omega) (by omega) rfl | exact cP_2 (b := r1) (by omega) (by omega) rfl)), trivial⟩
  · have _q := h9
    rw [hk1] at hwb; obtain ⟨m4, g1, g2, g3, g4⟩ := wE_i4 hwb (by omega); have hic := iC_i p_6 (b := r1) (by omega) (by omega)
    refine jx_ld (pc_q := 17) (l_q := L7) (st_q := [.ref 66]) rfl (jl_aloadn gL7_0) ?_
    refine jx_ld (pc_q := 18) (l_q := L7) (st_q := [.ref 66, .ref 66]) rfl (jl_aloadn gL7_0) ?_
    refine jr_get (pc_q := 21) (i := 35) (v := .ref 85) rfl rfl (by decide) rfl rfl ?_
    refine jx_ld (pc_q := 22) (l_q := L7) (st_q := [.int (i32 (r1)), .ref 85, .ref 66]) rfl (jl_iloadn gL7_2) ?_
    have b14 : (-2147483648 : Int) ≤ T0 18 (r1).toNat ∧ T0 18 (r1).toNat ≤ 2147483647 := hWT.2 18 _
    refine jr_ldv (pc_q := 23) (i := 18) (m := 7000) (z := r1) (y := T0 18 (r1).toNat) rfl (by decide) rfl (by decide) (by omega) (by omega) rfl (show A 18 (r1).toNat = T0 18 (r1).toNat from (congrFun (p_0 18 rfl) _)) ?_
    refine jx_vr (pc_q := 26) (as := [.int (i32 (T0 18 (r1).toNat))]) (st := []) rfl rfl rfl rfl ⟨rfl, rfl, Nat.le_of_ble_eq_true rfl⟩ rfl rfl (c_constant_p (dd := d) (hd := by omega) (hW := hW) (e := T0 18 (r1).toNat) (k := k1) (lo := lo) (hi := m4)  (h_e := ⟨(Int.le_trans (by decide : (-2147483648 : Int) ≤ -2147483648) b14.1), (Int.le_trans b14.2 (by decide : (2147483647 : Int) ≤ 2147483647))⟩)  (p_0 := p_0) (p_1 := by omega) (p_2 := by omega) (p_3 := by omega) (p_4 := by omega) (p_5 := (wE_mono (by omega) (by omega) (by omega) g3)) (p_6 := hic.2)) (fun o V_q hq => ?_)
    obtain ⟨r15, rfl, rfl, b16, p17, -⟩ := hq
    refine .inr ⟨_, rfl, ?_⟩
    refine jx_ld (pc_q := 27) (l_q := jSto1 L7 3 (.int (i32 (r15)))) (st_q := []) rfl rfl ?_
    obtain ⟨L19, eL19⟩ : ∃ q, q = jSto1 L7 3 (.int (i32 (r15))) := ⟨_, rfl⟩
    rw [← eL19]
    have gL19_0 : jGet L19 0 = some (.ref 66) := eL19 ▸ jg_ne (by decide) gL7_0 rfl
    have gL19_1 : jGet L19 1 = some (.int (i32 (e))) := eL19 ▸ jg_ne (by decide) gL7_1 rfl
    have gL19_2 : jGet L19 2 = some (.int (i32 (r1))) := eL19 ▸ jg_ne (by decide) gL7_2 rfl
    have gL19_3 : jGet L19 3 = some (.int (i32 (r15))) := eL19 ▸ jg_eq
    refine jx_ld (pc_q := 28) (l_q := L19) (st_q := [.ref 66]) rfl (jl_aloadn gL19_0) ?_
    refine jx_ld (pc_q := 29) (l_q := L19) (st_q := [.ref 66, .ref 66]) rfl (jl_aloadn gL19_0) ?_
    refine jr_get (pc_q := 32) (i := 36) (v := .ref 86) rfl rfl (by decide) rfl rfl ?_
    refine jx_ld (pc_q := 33) (l_q := L19) (st_q := [.int (i32 (r1)), .ref 86, .ref 66]) rfl (jl_iloadn gL19_2) ?_
    have b20 : (-2147483648 : Int) ≤ T0 19 (r1).toNat ∧ T0 19 (r1).toNat ≤ 2147483647 := hWT.2 19 _
    refine jr_ldv (pc_q := 34) (i := 19) (m := 7000) (z := r1) (y := T0 19 (r1).toNat) rfl (by decide) rfl (by decide) (by omega) (by omega) rfl (show A 19 (r1).toNat = T0 19 (r1).toNat from (congrFun (p_0 19 rfl) _)) ?_
    refine jx_vr (pc_q := 37) (as := [.int (i32 (T0 19 (r1).toNat))]) (st := []) rfl rfl rfl rfl ⟨rfl, rfl, Nat.le_of_ble_eq_true rfl⟩ rfl rfl (c_constant_p (dd := d) (hd := by omega) (hW := hW) (e := T0 19 (r1).toNat) (k := k1) (lo := m4) (hi := r1)  (h_e := ⟨(Int.le_trans (by decide : (-2147483648 : Int) ≤ -2147483648) b20.1), (Int.le_trans b20.2 (by decide : (2147483647 : Int) ≤ 2147483647))⟩)  (p_0 := p_0) (p_1 := by omega) (p_2 := by omega) (p_3 := by omega) (p_4 := by omega) (p_5 := (wE_mono (by omega) (by omega) (by omega) g4)) (p_6 := (.inl hic.1))) (fun o V_q hq => ?_)
    obtain ⟨r21, rfl, rfl, b22, p23, -⟩ := hq
    refine .inr ⟨_, rfl, ?_⟩
    refine jx_ld (pc_q := 39) (l_q := jSto1 L19 4 (.int (i32 (r21)))) (st_q := []) rfl rfl ?_
    obtain ⟨L25, eL25⟩ : ∃ q, q = jSto1 L19 4 (.int (i32 (r21))) := ⟨_, rfl⟩
    rw [← eL25]
    have gL25_0 : jGet L25 0 = some (.ref 66) := eL25 ▸ jg_ne (by decide) gL19_0 rfl
    have gL25_1 : jGet L25 1 = some (.int (i32 (e))) := eL25 ▸ jg_ne (by decide) gL19_1 rfl
    have gL25_2 : jGet L25 2 = some (.int (i32 (r1))) := eL25 ▸ jg_ne (by decide) gL19_2 rfl
    have gL25_3 : jGet L25 3 = some (.int (i32 (r15))) := eL25 ▸ jg_ne (by decide) gL19_3 rfl
    have gL25_4 : jGet L25 4 = some (.int (i32 (r21))) := eL25 ▸ jg_eq
    refine jx_ld (pc_q := 40) (l_q := L25) (st_q := [.ref 66]) rfl (jl_aloadn gL25_0) ?_
    refine jr_get (pc_q := 43) (i := 34) (v := .ref 84) rfl rfl (by decide) rfl rfl ?_
    refine jx_ld (pc_q := 44) (l_q := L25) (st_q := [.int (i32 (r1)), .ref 84]) rfl (jl_iloadn gL25_2) ?_
    have b26 : (-2147483648 : Int) ≤ T0 17 (r1).toNat ∧ T0 17 (r1).toNat ≤ 2147483647 := hWT.2 17 _
    refine jr_ldv (pc_q := 45) (i := 17) (m := 7000) (z := r1) (y := T0 17 (r1).toNat) rfl (by decide) rfl (by decide) (by omega) (by omega) rfl (show A 17 (r1).toNat = T0 17 (r1).toNat from (congrFun (p_0 17 rfl) _)) ?_
    refine jx_ar (pc_q := 47) (st_q := [.int (i32 (43)), .int (i32 (T0 17 (r1).toNat))]) rfl rfl rfl rfl ?_
    refine jx_icmp_ne (pc_q := 50) (tg := 57) rfl rfl rfl (Int.le_trans (by decide : (-2147483648 : Int) ≤ -2147483648) b26.1) (Int.le_trans b26.2 (by decide : (2147483647 : Int) ≤ 2147483647)) (by decide) (by decide) (fun h27 => ?_) (fun h27 => ?_)
    · have _q := h27
      refine jx_ld (pc_q := 58) (l_q := L25) (st_q := [.int (i32 (r15))]) rfl (jl_iloadn gL25_3) ?_
      refine jx_ld (pc_q := 60) (l_q := L25) (st_q := [.int (i32 (r21)), .int (i32 (r15))]) rfl (jl_iload gL25_4) ?_
      refine jx_sub (pc_q := 61) rfl rfl ?_
      obtain ⟨v9, ev9⟩ : ∃ z, z = (i32 (r15 - r21)).toInt := ⟨_, rfl⟩; have ev8 : i32 (r15 - r21) = i32 v9 := (by rw [ev9]; exact (i32_of _).symm); rw [ev8]; have rv9 : (-2147483648 : Int) ≤ v9 ∧ v9 ≤ 2147483647 := ev9 ▸ i32_rg _
      refine jx_rt (v := some (.int (i32 (v9)))) rfl rfl rfl rfl rfl rfl ?_
      exact ⟨_, rfl, rfl, by omega, (cv_s (b := r1) (by omega) (by omega) (by omega) p17 p23 ev9), trivial⟩
    · have _q := h27
      refine jx_ld (pc_q := 51) (l_q := L25) (st_q := [.int (i32 (r15))]) rfl (jl_iloadn gL25_3) ?_
      refine jx_ld (pc_q := 53) (l_q := L25) (st_q := [.int (i32 (r21)), .int (i32 (r15))]) rfl (jl_iload gL25_4) ?_
      refine jx_add (pc_q := 54) rfl rfl ?_
      obtain ⟨v9, ev9⟩ : ∃ z, z = (i32 (r15 + r21)).toInt := ⟨_, rfl⟩; have ev8 : i32 (r15 + r21) = i32 v9 := (by rw [ev9]; exact (i32_of _).symm); rw [ev8]; have rv9 : (-2147483648 : Int) ≤ v9 ∧ v9 ≤ 2147483647 := ev9 ▸ i32_rg _
      refine jx_go (tg := 61) rfl rfl ?_
      have _q : True := trivial
      refine jx_rt (v := some (.int (i32 (v9)))) rfl rfl rfl rfl rfl rfl ?_
      exact ⟨_, rfl, rfl, by omega, (cv_a (b := r1) (by omega) (by omega) (by omega) p17 p23 ev9), trivial⟩
set_option maxRecDepth 20000 in
set_option maxHeartbeats 4000000 in
theorem c_clash {X : jX} {dd : Nat} {V : jH} {a b : Int} (hd : 1 ≤ dd) (h_a : (-2147483648 : Int) ≤ a ∧ a ≤ 2147483647) (h_b : (-2147483648 : Int) ≤ b ∧ b ≤ 2147483647) (p_0 : 0 ≤ a) (p_1 : a ≤ 15) (p_2 : 0 ≤ b) (p_3 : b ≤ 15) : wk X dd 332 [.int (i32 a), .int (i32 b)] V (fun o V_q => ∃ (r : Int), V_q = V ∧ o = .inl (some (.int (i32 r))) ∧ ((0 : Int) ≤ r ∧ r ≤ 1) ∧ ((r = 1) ∨ (r = 0 ∧ (NC (a) (b))))) := by
  obtain ⟨d, rfl⟩ : ∃ d, dd = d + 1 := ⟨dd - 1, by omega⟩
  refine wk_of (e := jm332) rfl (Nat.le_of_ble_eq_true rfl) ?_
  show wj X d jm332 (0, [(0, .int (i32 (a))), (1, .int (i32 (b)))], [], V) _
  refine jx_ld (pc_q := 1) (l_q := [(0, .int (i32 (a))), (1, .int (i32 (b)))]) (st_q := [.int (i32 (a))]) rfl (jl_iloadn rfl) ?_
  refine jx_ar (pc_q := 2) (st_q := [.int (i32 (2)), .int (i32 (a))]) rfl rfl rfl rfl ?_
  refine jx_and (pc_q := 3) rfl rfl ?_
  obtain ⟨b1, eb1⟩ : ∃ z, z = (i32 (a) &&& i32 (2)).toInt := ⟨_, rfl⟩
  rw [← eb1]
  have rb1 : (-2147483648 : Int) ≤ b1 ∧ b1 ≤ 2147483647 := eb1 ▸ i32_rg _
  refine jx_if_eq (pc_q := 6) (tg := 12) rfl rfl rfl (Int.le_trans (by decide : (-2147483648 : Int) ≤ -2147483648) rb1.1) (Int.le_trans rb1.2 (by decide : (2147483647 : Int) ≤ 2147483647)) (fun h2 => ?_) (fun h2 => ?_)
  · have _q := h2
    refine jx_ld (pc_q := 13) (l_q := [(0, .int (i32 (a))), (1, .int (i32 (b)))]) (st_q := [.int (i32 (b))]) rfl (jl_iloadn rfl) ?_
    refine jx_ar (pc_q := 14) (st_q := [.int (i32 (2)), .int (i32 (b))]) rfl rfl rfl rfl ?_
    refine jx_and (pc_q := 15) rfl rfl ?_
    obtain ⟨b3, eb3⟩ : ∃ z, z = (i32 (b) &&& i32 (2)).toInt := ⟨_, rfl⟩
    rw [← eb3]
    have rb3 : (-2147483648 : Int) ≤ b3 ∧ b3 ≤ 2147483647 := eb3 ▸ i32_rg _
    refine jx_if_eq (pc_q := 18) (tg := 28) rfl rfl rfl (Int.le_trans (by decide : (-2147483648 : Int) ≤ -2147483648) rb3.1) (Int.le_trans rb3.2 (by decide : (2147483647 : Int) ≤ 2147483647)) (fun h4 => ?_) (fun h4 => ?_)
    · have _q := h4
      refine jx_ar (pc_q := 29) (st_q := [.int (i32 (0))]) rfl rfl rfl rfl ?_
      refine jx_ld (pc_q := 30) (l_q := jSto1 [(0, .int (i32 (a))), (1, .int (i32 (b)))] 2 (.int (i32 (0)))) (st_q := []) rfl rfl ?_
      obtain ⟨L5, eL5⟩ : ∃ q, q = jSto1 [(0, .int (i32 (a))), (1, .int (i32 (b)))] 2 (.int (i32 (0))) := ⟨_, rfl⟩
      rw [← eL5]
      have gL5_0 : jGet L5 0 = some (.int (i32 (a))) := eL5 ▸ jg_ne (by decide) (rfl : jGet [(0, .int (i32 (a))), (1, .int (i32 (b)))] 0 = some (.int (i32 (a)))) rfl
      have gL5_1 : jGet L5 1 = some (.int (i32 (b))) := eL5 ▸ jg_ne (by decide) (rfl : jGet [(0, .int (i32 (a))), (1, .int (i32 (b)))] 1 = some (.int (i32 (b)))) rfl
      have gL5_2 : jGet L5 2 = some (.int (i32 (0))) := eL5 ▸ jg_eq
      refine jx_ld (pc_q := 31) (l_q := L5) (st_q := [.int (i32 (0))]) rfl (jl_iloadn gL5_2) ?_
      refine jx_if_ne (pc_q := 34) (tg := 43) rfl rfl rfl (by decide) (by decide) (fun h6 => ?_) (fun h6 => ?_)
      · have _q := h6
        exact absurd h6 (by omega)
      · have _q := h6
        refine jx_ld (pc_q := 35) (l_q := L5) (st_q := [.int (i32 (a))]) rfl (jl_iloadn gL5_0) ?_
        refine jx_ld (pc_q := 36) (l_q := L5) (st_q := [.int (i32 (b)), .int (i32 (a))]) rfl (jl_iloadn gL5_1) ?_
        refine jx_and (pc_q := 37) rfl rfl ?_
        obtain ⟨b7, eb7⟩ : ∃ z, z = (i32 (a) &&& i32 (b)).toInt := ⟨_, rfl⟩
        rw [← eb7]
        have rb7 : (-2147483648 : Int) ≤ b7 ∧ b7 ≤ 2147483647 := eb7 ▸ i32_rg _
        have _q : True := trivial
        refine jx_ar (pc_q := 39) (st_q := [.int (i32 (12)), .int (i32 (b7))]) rfl rfl rfl rfl ?_
        refine jx_and (pc_q := 40) rfl rfl ?_
        obtain ⟨b8, eb8⟩ : ∃ z, z = (i32 (b7) &&& i32 (12)).toInt := ⟨_, rfl⟩
        rw [← eb8]
        have rb8 : (-2147483648 : Int) ≤ b8 ∧ b8 ≤ 2147483647 := eb8 ▸ i32_rg _
        have _q : True := trivial
        refine jx_if_eq (pc_q := 43) (tg := 47) rfl rfl rfl (Int.le_trans (by decide : (-2147483648 : Int) ≤ -2147483648) rb8.1) (Int.le_trans rb8.2 (by decide : (2147483647 : Int) ≤ 2147483647)) (fun h9 => ?_) (fun h9 => ?_)
        · have _q := h9
          refine jx_ar (pc_q := 48) (st_q := [.int (i32 (0))]) rfl rfl rfl rfl ?_
          refine jx_rt (v := some (.int (i32 (0)))) rfl rfl rfl rfl rfl (by first | rfl | exact jRet_b (by omega)) ?_
          exact ⟨_, rfl, rfl, by omega, by first | exact Or.inl (by omega) | exact Or.inr ((⟨by omega, (NC_12 (by omega) (by omega) (by omega) (by omega) (by rw [← eb7, ← eb8]; omega))⟩))⟩
        · have _q := h9
          refine jx_ar (pc_q := 44) (st_q := [.int (i32 (1))]) rfl rfl rfl rfl ?_
          refine jx_go (tg := 48) rfl rfl ?_
          refine jx_rt (v := some (.int (i32 (1)))) rfl rfl rfl rfl rfl (by first | rfl | exact jRet_b (by omega)) ?_
          exact ⟨_, rfl, rfl, by omega, by first | exact Or.inl (by omega) | exact Or.inr ((⟨by omega, (NC_12 (by omega) (by omega) (by omega) (by omega) (by rw [← eb7, ← eb8]; omega))⟩))⟩
    · have _q := h4
      refine jx_ld (pc_q := 19) (l_q := [(0, .int (i32 (a))), (1, .int (i32 (b)))]) (st_q := [.int (i32 (a))]) rfl (jl_iloadn rfl) ?_
      refine jx_ar (pc_q := 20) (st_q := [.int (i32 (3)), .int (i32 (a))]) rfl rfl rfl rfl ?_
      refine jx_and (pc_q := 21) rfl rfl ?_
      obtain ⟨b10, eb10⟩ : ∃ z, z = (i32 (a) &&& i32 (3)).toInt := ⟨_, rfl⟩
      rw [← eb10]
      have rb10 : (-2147483648 : Int) ≤ b10 ∧ b10 ≤ 2147483647 := eb10 ▸ i32_rg _
      refine jx_if_eq (pc_q := 24) (tg := 28) rfl rfl rfl (Int.le_trans (by decide : (-2147483648 : Int) ≤ -2147483648) rb10.1) (Int.le_trans rb10.2 (by decide : (2147483647 : Int) ≤ 2147483647)) (fun h11 => ?_) (fun h11 => ?_)
      · have _q := h11
        refine jx_ar (pc_q := 29) (st_q := [.int (i32 (0))]) rfl rfl rfl rfl ?_
        refine jx_ld (pc_q := 30) (l_q := jSto1 [(0, .int (i32 (a))), (1, .int (i32 (b)))] 2 (.int (i32 (0)))) (st_q := []) rfl rfl ?_
        obtain ⟨L12, eL12⟩ : ∃ q, q = jSto1 [(0, .int (i32 (a))), (1, .int (i32 (b)))] 2 (.int (i32 (0))) := ⟨_, rfl⟩
        rw [← eL12]
        have gL12_0 : jGet L12 0 = some (.int (i32 (a))) := eL12 ▸ jg_ne (by decide) (rfl : jGet [(0, .int (i32 (a))), (1, .int (i32 (b)))] 0 = some (.int (i32 (a)))) rfl
        have gL12_1 : jGet L12 1 = some (.int (i32 (b))) := eL12 ▸ jg_ne (by decide) (rfl : jGet [(0, .int (i32 (a))), (1, .int (i32 (b)))] 1 = some (.int (i32 (b)))) rfl
        have gL12_2 : jGet L12 2 = some (.int (i32 (0))) := eL12 ▸ jg_eq
        refine jx_ld (pc_q := 31) (l_q := L12) (st_q := [.int (i32 (0))]) rfl (jl_iloadn gL12_2) ?_
        refine jx_if_ne (pc_q := 34) (tg := 43) rfl rfl rfl (by decide) (by decide) (fun h13 => ?_) (fun h13 => ?_)
        · have _q := h13
          exact absurd h13 (by omega)
        · have _q := h13
          refine jx_ld (pc_q := 35) (l_q := L12) (st_q := [.int (i32 (a))]) rfl (jl_iloadn gL12_0) ?_
          refine jx_ld (pc_q := 36) (l_q := L12) (st_q := [.int (i32 (b)), .int (i32 (a))]) rfl (jl_iloadn gL12_1) ?_
          refine jx_and (pc_q := 37) rfl rfl ?_
          obtain ⟨b14, eb14⟩ : ∃ z, z = (i32 (a) &&& i32 (b)).toInt := ⟨_, rfl⟩
          rw [← eb14]
          have rb14 : (-2147483648 : Int) ≤ b14 ∧ b14 ≤ 2147483647 := eb14 ▸ i32_rg _
          have _q : True := trivial
          refine jx_ar (pc_q := 39) (st_q := [.int (i32 (12)), .int (i32 (b14))]) rfl rfl rfl rfl ?_
          refine jx_and (pc_q := 40) rfl rfl ?_
          obtain ⟨b15, eb15⟩ : ∃ z, z = (i32 (b14) &&& i32 (12)).toInt := ⟨_, rfl⟩
          rw [← eb15]
          have rb15 : (-2147483648 : Int) ≤ b15 ∧ b15 ≤ 2147483647 := eb15 ▸ i32_rg _
          have _q : True := trivial
          refine jx_if_eq (pc_q := 43) (tg := 47) rfl rfl rfl (Int.le_trans (by decide : (-2147483648 : Int) ≤ -2147483648) rb15.1) (Int.le_trans rb15.2 (by decide : (2147483647 : Int) ≤ 2147483647)) (fun h16 => ?_) (fun h16 => ?_)
          · have _q := h16
            refine jx_ar (pc_q := 48) (st_q := [.int (i32 (0))]) rfl rfl rfl rfl ?_
            refine jx_rt (v := some (.int (i32 (0)))) rfl rfl rfl rfl rfl (by first | rfl | exact jRet_b (by omega)) ?_
            exact ⟨_, rfl, rfl, by omega, by first | exact Or.inl (by omega) | exact Or.inr ((⟨by omega, (NC_12 (by omega) (by omega) (by omega) (by omega) (by rw [← eb14, ← eb15]; omega))⟩))⟩
          · have _q := h16
            refine jx_ar (pc_q := 44) (st_q := [.int (i32 (1))]) rfl rfl rfl rfl ?_
            refine jx_go (tg := 48) rfl rfl ?_
            refine jx_rt (v := some (.int (i32 (1)))) rfl rfl rfl rfl rfl (by first | rfl | exact jRet_b (by omega)) ?_
            exact ⟨_, rfl, rfl, by omega, by first | exact Or.inl (by omega) | exact Or.inr ((⟨by omega, (NC_12 (by omega) (by omega) (by omega) (by omega) (by rw [← eb14, ← eb15]; omega))⟩))⟩
      · have _q := h11
        refine jx_ar (pc_q := 25) (st_q := [.int (i32 (1))]) rfl rfl rfl rfl ?_
        refine jx_go (tg := 29) rfl rfl ?_
        refine jx_ld (pc_q := 30) (l_q := jSto1 [(0, .int (i32 (a))), (1, .int (i32 (b)))] 2 (.int (i32 (1)))) (st_q := []) rfl rfl ?_
        obtain ⟨L17, eL17⟩ : ∃ q, q = jSto1 [(0, .int (i32 (a))), (1, .int (i32 (b)))] 2 (.int (i32 (1))) := ⟨_, rfl⟩
        rw [← eL17]
        have gL17_0 : jGet L17 0 = some (.int (i32 (a))) := eL17 ▸ jg_ne (by decide) (rfl : jGet [(0, .int (i32 (a))), (1, .int (i32 (b)))] 0 = some (.int (i32 (a)))) rfl
        have gL17_1 : jGet L17 1 = some (.int (i32 (b))) := eL17 ▸ jg_ne (by decide) (rfl : jGet [(0, .int (i32 (a))), (1, .int (i32 (b)))] 1 = some (.int (i32 (b)))) rfl
        have gL17_2 : jGet L17 2 = some (.int (i32 (1))) := eL17 ▸ jg_eq
        refine jx_ld (pc_q := 31) (l_q := L17) (st_q := [.int (i32 (1))]) rfl (jl_iloadn gL17_2) ?_
        refine jx_if_ne (pc_q := 34) (tg := 43) rfl rfl rfl (by decide) (by decide) (fun h18 => ?_) (fun h18 => ?_)
        · have _q := h18
          refine jx_ar (pc_q := 44) (st_q := [.int (i32 (1))]) rfl rfl rfl rfl ?_
          refine jx_go (tg := 48) rfl rfl ?_
          refine jx_rt (v := some (.int (i32 (1)))) rfl rfl rfl rfl rfl (by first | rfl | exact jRet_b (by omega)) ?_
          exact ⟨_, rfl, rfl, by omega, by first | exact Or.inl (by omega)⟩
        · have _q := h18
          exact absurd h18 (by omega)
  · have _q := h2
    refine jx_ld (pc_q := 7) (l_q := [(0, .int (i32 (a))), (1, .int (i32 (b)))]) (st_q := [.int (i32 (b))]) rfl (jl_iloadn rfl) ?_
    refine jx_ar (pc_q := 8) (st_q := [.int (i32 (3)), .int (i32 (b))]) rfl rfl rfl rfl ?_
    refine jx_and (pc_q := 9) rfl rfl ?_
    obtain ⟨b19, eb19⟩ : ∃ z, z = (i32 (b) &&& i32 (3)).toInt := ⟨_, rfl⟩
    rw [← eb19]
    have rb19 : (-2147483648 : Int) ≤ b19 ∧ b19 ≤ 2147483647 := eb19 ▸ i32_rg _
    refine jx_if_ne (pc_q := 12) (tg := 24) rfl rfl rfl (Int.le_trans (by decide : (-2147483648 : Int) ≤ -2147483648) rb19.1) (Int.le_trans rb19.2 (by decide : (2147483647 : Int) ≤ 2147483647)) (fun h20 => ?_) (fun h20 => ?_)
    · have _q := h20
      refine jx_ar (pc_q := 25) (st_q := [.int (i32 (1))]) rfl rfl rfl rfl ?_
      refine jx_go (tg := 29) rfl rfl ?_
      refine jx_ld (pc_q := 30) (l_q := jSto1 [(0, .int (i32 (a))), (1, .int (i32 (b)))] 2 (.int (i32 (1)))) (st_q := []) rfl rfl ?_
      obtain ⟨L21, eL21⟩ : ∃ q, q = jSto1 [(0, .int (i32 (a))), (1, .int (i32 (b)))] 2 (.int (i32 (1))) := ⟨_, rfl⟩
      rw [← eL21]
      have gL21_0 : jGet L21 0 = some (.int (i32 (a))) := eL21 ▸ jg_ne (by decide) (rfl : jGet [(0, .int (i32 (a))), (1, .int (i32 (b)))] 0 = some (.int (i32 (a)))) rfl
      have gL21_1 : jGet L21 1 = some (.int (i32 (b))) := eL21 ▸ jg_ne (by decide) (rfl : jGet [(0, .int (i32 (a))), (1, .int (i32 (b)))] 1 = some (.int (i32 (b)))) rfl
      have gL21_2 : jGet L21 2 = some (.int (i32 (1))) := eL21 ▸ jg_eq
      refine jx_ld (pc_q := 31) (l_q := L21) (st_q := [.int (i32 (1))]) rfl (jl_iloadn gL21_2) ?_
      refine jx_if_ne (pc_q := 34) (tg := 43) rfl rfl rfl (by decide) (by decide) (fun h22 => ?_) (fun h22 => ?_)
      · have _q := h22
        refine jx_ar (pc_q := 44) (st_q := [.int (i32 (1))]) rfl rfl rfl rfl ?_
        refine jx_go (tg := 48) rfl rfl ?_
        refine jx_rt (v := some (.int (i32 (1)))) rfl rfl rfl rfl rfl (by first | rfl | exact jRet_b (by omega)) ?_
        exact ⟨_, rfl, rfl, by omega, by first | exact Or.inl (by omega)⟩
      · have _q := h22
        exact absurd h22 (by omega)
    · have _q := h20
      refine jx_ld (pc_q := 13) (l_q := [(0, .int (i32 (a))), (1, .int (i32 (b)))]) (st_q := [.int (i32 (b))]) rfl (jl_iloadn rfl) ?_
      refine jx_ar (pc_q := 14) (st_q := [.int (i32 (2)), .int (i32 (b))]) rfl rfl rfl rfl ?_
      refine jx_and (pc_q := 15) rfl rfl ?_
      obtain ⟨b23, eb23⟩ : ∃ z, z = (i32 (b) &&& i32 (2)).toInt := ⟨_, rfl⟩
      rw [← eb23]
      have rb23 : (-2147483648 : Int) ≤ b23 ∧ b23 ≤ 2147483647 := eb23 ▸ i32_rg _
      refine jx_if_eq (pc_q := 18) (tg := 28) rfl rfl rfl (Int.le_trans (by decide : (-2147483648 : Int) ≤ -2147483648) rb23.1) (Int.le_trans rb23.2 (by decide : (2147483647 : Int) ≤ 2147483647)) (fun h24 => ?_) (fun h24 => ?_)
      · have _q := h24
        refine jx_ar (pc_q := 29) (st_q := [.int (i32 (0))]) rfl rfl rfl rfl ?_
        refine jx_ld (pc_q := 30) (l_q := jSto1 [(0, .int (i32 (a))), (1, .int (i32 (b)))] 2 (.int (i32 (0)))) (st_q := []) rfl rfl ?_
        obtain ⟨L25, eL25⟩ : ∃ q, q = jSto1 [(0, .int (i32 (a))), (1, .int (i32 (b)))] 2 (.int (i32 (0))) := ⟨_, rfl⟩
        rw [← eL25]
        have gL25_0 : jGet L25 0 = some (.int (i32 (a))) := eL25 ▸ jg_ne (by decide) (rfl : jGet [(0, .int (i32 (a))), (1, .int (i32 (b)))] 0 = some (.int (i32 (a)))) rfl
        have gL25_1 : jGet L25 1 = some (.int (i32 (b))) := eL25 ▸ jg_ne (by decide) (rfl : jGet [(0, .int (i32 (a))), (1, .int (i32 (b)))] 1 = some (.int (i32 (b)))) rfl
        have gL25_2 : jGet L25 2 = some (.int (i32 (0))) := eL25 ▸ jg_eq
        refine jx_ld (pc_q := 31) (l_q := L25) (st_q := [.int (i32 (0))]) rfl (jl_iloadn gL25_2) ?_
        refine jx_if_ne (pc_q := 34) (tg := 43) rfl rfl rfl (by decide) (by decide) (fun h26 => ?_) (fun h26 => ?_)
        · have _q := h26
          exact absurd h26 (by omega)
        · have _q := h26
          refine jx_ld (pc_q := 35) (l_q := L25) (st_q := [.int (i32 (a))]) rfl (jl_iloadn gL25_0) ?_
          refine jx_ld (pc_q := 36) (l_q := L25) (st_q := [.int (i32 (b)), .int (i32 (a))]) rfl (jl_iloadn gL25_1) ?_
          refine jx_and (pc_q := 37) rfl rfl ?_
          obtain ⟨b27, eb27⟩ : ∃ z, z = (i32 (a) &&& i32 (b)).toInt := ⟨_, rfl⟩
          rw [← eb27]
          have rb27 : (-2147483648 : Int) ≤ b27 ∧ b27 ≤ 2147483647 := eb27 ▸ i32_rg _
          have _q : True := trivial
          refine jx_ar (pc_q := 39) (st_q := [.int (i32 (12)), .int (i32 (b27))]) rfl rfl rfl rfl ?_
          refine jx_and (pc_q := 40) rfl rfl ?_
          obtain ⟨b28, eb28⟩ : ∃ z, z = (i32 (b27) &&& i32 (12)).toInt := ⟨_, rfl⟩
          rw [← eb28]
          have rb28 : (-2147483648 : Int) ≤ b28 ∧ b28 ≤ 2147483647 := eb28 ▸ i32_rg _
          have _q : True := trivial
          refine jx_if_eq (pc_q := 43) (tg := 47) rfl rfl rfl (Int.le_trans (by decide : (-2147483648 : Int) ≤ -2147483648) rb28.1) (Int.le_trans rb28.2 (by decide : (2147483647 : Int) ≤ 2147483647)) (fun h29 => ?_) (fun h29 => ?_)
          · have _q := h29
            refine jx_ar (pc_q := 48) (st_q := [.int (i32 (0))]) rfl rfl rfl rfl ?_
            refine jx_rt (v := some (.int (i32 (0)))) rfl rfl rfl rfl rfl (by first | rfl | exact jRet_b (by omega)) ?_
            exact ⟨_, rfl, rfl, by omega, by first | exact Or.inl (by omega) | exact Or.inr ((⟨by omega, (NC_12 (by omega) (by omega) (by omega) (by omega) (by rw [← eb27, ← eb28]; omega))⟩))⟩
          · have _q := h29
            refine jx_ar (pc_q := 44) (st_q := [.int (i32 (1))]) rfl rfl rfl rfl ?_
            refine jx_go (tg := 48) rfl rfl ?_
            refine jx_rt (v := some (.int (i32 (1)))) rfl rfl rfl rfl rfl (by first | rfl | exact jRet_b (by omega)) ?_
            exact ⟨_, rfl, rfl, by omega, by first | exact Or.inl (by omega) | exact Or.inr ((⟨by omega, (NC_12 (by omega) (by omega) (by omega) (by omega) (by rw [← eb27, ← eb28]; omega))⟩))⟩
      · have _q := h24
        refine jx_ld (pc_q := 19) (l_q := [(0, .int (i32 (a))), (1, .int (i32 (b)))]) (st_q := [.int (i32 (a))]) rfl (jl_iloadn rfl) ?_
        refine jx_ar (pc_q := 20) (st_q := [.int (i32 (3)), .int (i32 (a))]) rfl rfl rfl rfl ?_
        refine jx_and (pc_q := 21) rfl rfl ?_
        obtain ⟨b30, eb30⟩ : ∃ z, z = (i32 (a) &&& i32 (3)).toInt := ⟨_, rfl⟩
        rw [← eb30]
        have rb30 : (-2147483648 : Int) ≤ b30 ∧ b30 ≤ 2147483647 := eb30 ▸ i32_rg _
        refine jx_if_eq (pc_q := 24) (tg := 28) rfl rfl rfl (Int.le_trans (by decide : (-2147483648 : Int) ≤ -2147483648) rb30.1) (Int.le_trans rb30.2 (by decide : (2147483647 : Int) ≤ 2147483647)) (fun h31 => ?_) (fun h31 => ?_)
        · have _q := h31
          refine jx_ar (pc_q := 29) (st_q := [.int (i32 (0))]) rfl rfl rfl rfl ?_
          refine jx_ld (pc_q := 30) (l_q := jSto1 [(0, .int (i32 (a))), (1, .int (i32 (b)))] 2 (.int (i32 (0)))) (st_q := []) rfl rfl ?_
          obtain ⟨L32, eL32⟩ : ∃ q, q = jSto1 [(0, .int (i32 (a))), (1, .int (i32 (b)))] 2 (.int (i32 (0))) := ⟨_, rfl⟩
          rw [← eL32]
          have gL32_0 : jGet L32 0 = some (.int (i32 (a))) := eL32 ▸ jg_ne (by decide) (rfl : jGet [(0, .int (i32 (a))), (1, .int (i32 (b)))] 0 = some (.int (i32 (a)))) rfl
          have gL32_1 : jGet L32 1 = some (.int (i32 (b))) := eL32 ▸ jg_ne (by decide) (rfl : jGet [(0, .int (i32 (a))), (1, .int (i32 (b)))] 1 = some (.int (i32 (b)))) rfl
          have gL32_2 : jGet L32 2 = some (.int (i32 (0))) := eL32 ▸ jg_eq
          refine jx_ld (pc_q := 31) (l_q := L32) (st_q := [.int (i32 (0))]) rfl (jl_iloadn gL32_2) ?_
          refine jx_if_ne (pc_q := 34) (tg := 43) rfl rfl rfl (by decide) (by decide) (fun h33 => ?_) (fun h33 => ?_)
          · have _q := h33
            exact absurd h33 (by omega)
          · have _q := h33
            refine jx_ld (pc_q := 35) (l_q := L32) (st_q := [.int (i32 (a))]) rfl (jl_iloadn gL32_0) ?_
            refine jx_ld (pc_q := 36) (l_q := L32) (st_q := [.int (i32 (b)), .int (i32 (a))]) rfl (jl_iloadn gL32_1) ?_
            refine jx_and (pc_q := 37) rfl rfl ?_
            obtain ⟨b34, eb34⟩ : ∃ z, z = (i32 (a) &&& i32 (b)).toInt := ⟨_, rfl⟩
            rw [← eb34]
            have rb34 : (-2147483648 : Int) ≤ b34 ∧ b34 ≤ 2147483647 := eb34 ▸ i32_rg _
            have _q : True := trivial
            refine jx_ar (pc_q := 39) (st_q := [.int (i32 (12)), .int (i32 (b34))]) rfl rfl rfl rfl ?_
            refine jx_and (pc_q := 40) rfl rfl ?_
            obtain ⟨b35, eb35⟩ : ∃ z, z = (i32 (b34) &&& i32 (12)).toInt := ⟨_, rfl⟩
            rw [← eb35]
            have rb35 : (-2147483648 : Int) ≤ b35 ∧ b35 ≤ 2147483647 := eb35 ▸ i32_rg _
            have _q : True := trivial
            refine jx_if_eq (pc_q := 43) (tg := 47) rfl rfl rfl (Int.le_trans (by decide : (-2147483648 : Int) ≤ -2147483648) rb35.1) (Int.le_trans rb35.2 (by decide : (2147483647 : Int) ≤ 2147483647)) (fun h36 => ?_) (fun h36 => ?_)
            · have _q := h36
              refine jx_ar (pc_q := 48) (st_q := [.int (i32 (0))]) rfl rfl rfl rfl ?_
              refine jx_rt (v := some (.int (i32 (0)))) rfl rfl rfl rfl rfl (by first | rfl | exact jRet_b (by omega)) ?_
              exact ⟨_, rfl, rfl, by omega, by first | exact Or.inl (by omega) | exact Or.inr ((⟨by omega, (NC_12 (by omega) (by omega) (by omega) (by omega) (by rw [← eb34, ← eb35]; omega))⟩))⟩
            · have _q := h36
              refine jx_ar (pc_q := 44) (st_q := [.int (i32 (1))]) rfl rfl rfl rfl ?_
              refine jx_go (tg := 48) rfl rfl ?_
              refine jx_rt (v := some (.int (i32 (1)))) rfl rfl rfl rfl rfl (by first | rfl | exact jRet_b (by omega)) ?_
              exact ⟨_, rfl, rfl, by omega, by first | exact Or.inl (by omega) | exact Or.inr ((⟨by omega, (NC_12 (by omega) (by omega) (by omega) (by omega) (by rw [← eb34, ← eb35]; omega))⟩))⟩
        · have _q := h31
          refine jx_ar (pc_q := 25) (st_q := [.int (i32 (1))]) rfl rfl rfl rfl ?_
          refine jx_go (tg := 29) rfl rfl ?_
          refine jx_ld (pc_q := 30) (l_q := jSto1 [(0, .int (i32 (a))), (1, .int (i32 (b)))] 2 (.int (i32 (1)))) (st_q := []) rfl rfl ?_
          obtain ⟨L37, eL37⟩ : ∃ q, q = jSto1 [(0, .int (i32 (a))), (1, .int (i32 (b)))] 2 (.int (i32 (1))) := ⟨_, rfl⟩
          rw [← eL37]
          have gL37_0 : jGet L37 0 = some (.int (i32 (a))) := eL37 ▸ jg_ne (by decide) (rfl : jGet [(0, .int (i32 (a))), (1, .int (i32 (b)))] 0 = some (.int (i32 (a)))) rfl
          have gL37_1 : jGet L37 1 = some (.int (i32 (b))) := eL37 ▸ jg_ne (by decide) (rfl : jGet [(0, .int (i32 (a))), (1, .int (i32 (b)))] 1 = some (.int (i32 (b)))) rfl
          have gL37_2 : jGet L37 2 = some (.int (i32 (1))) := eL37 ▸ jg_eq
          refine jx_ld (pc_q := 31) (l_q := L37) (st_q := [.int (i32 (1))]) rfl (jl_iloadn gL37_2) ?_
          refine jx_if_ne (pc_q := 34) (tg := 43) rfl rfl rfl (by decide) (by decide) (fun h38 => ?_) (fun h38 => ?_)
          · have _q := h38
            refine jx_ar (pc_q := 44) (st_q := [.int (i32 (1))]) rfl rfl rfl rfl ?_
            refine jx_go (tg := 48) rfl rfl ?_
            refine jx_rt (v := some (.int (i32 (1)))) rfl rfl rfl rfl rfl (by first | rfl | exact jRet_b (by omega)) ?_
            exact ⟨_, rfl, rfl, by omega, by first | exact Or.inl (by omega)⟩
          · have _q := h38
            exact absurd h38 (by omega)
