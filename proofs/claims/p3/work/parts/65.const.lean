/-- a constant: a number, or the index of a PAR FOR -/
def pC (T : Nat → Nat → Int) (e : Int) : Prop := T 15 e.toNat = 1 ∨ (T 15 e.toNat = 2 ∧ T 7 (T 17 e.toNat).toNat = 10)
/-- it, or it and a number -/
def iC (T : Nat → Nat → Int) (e : Int) : Prop := (T 15 (bK T 30 e).toNat = 4 ∧ (T 17 (bK T 30 e).toNat = 43 ∨ T 17 (bK T 30 e).toNat = 45) ∧ T 15 (bK T 30 (T 19 (bK T 30 e).toNat)).toNat = 1 ∧ pC T (bK T 30 (T 18 (bK T 30 e).toNat))) ∨ (T 15 (bK T 30 e).toNat ≠ 4 ∧ pC T (bK T 30 e))
theorem bK_w {A : Nat → Nat → Int} {V : Nat → Prop} {sb : Int} : ∀ {n N : Nat} {e lo hi : Int}, wE A V sb n e lo hi → wE A V sb n (bK A N e) lo hi
  | 0, _, _, _, _, h => h.elim
  | n + 1, 0, e, lo, hi, h => h
  | n + 1, N + 1, e, lo, hi, h => by
    by_cases k : A 15 e.toNat = 7
    · rw [bK_y k]
      have g := bK_w (N := N) (wE_i5 h (.inr (.inr k)))
      exact wE_mono (Int.le_refl _) (by omega) (by have := h.2.1; omega) g
    · rw [bK_x k]
      exact h
theorem iC_4 {T : Nat → Nat → Int} {e b c d : Int} (hb : b = bK T 30 e) (h4 : T 15 b.toNat = 4) (ho : T 17 b.toNat = 43 ∨ T 17 b.toNat = 45) (hc : c = bK T 30 (T 19 b.toNat)) (h1 : T 15 c.toNat = 1) (hd : d = bK T 30 (T 18 b.toNat)) (hp : pC T d) : iC T e := by
  subst hb hc hd
  exact .inl ⟨h4, ho, h1, hp⟩
theorem iC_p {T : Nat → Nat → Int} {e b : Int} (hb : b = bK T 30 e) (h4 : T 15 b.toNat ≠ 4) (hp : pC T b) : iC T e := by
  subst hb
  exact .inr ⟨h4, hp⟩
theorem iC_n {T : Nat → Nat → Int} {e b : Int} (hb : b = bK T 30 e) (h4 : T 15 b.toNat ≠ 4) (hp : ¬ pC T b) : ¬ iC T e := fun q => by
  subst hb
  rcases q with q | q
  · exact h4 q.1
  · exact hp q.2
theorem iC_m {T : Nat → Nat → Int} {e b : Int} (hb : b = bK T 30 e) (h4 : T 15 b.toNat = 4) (hn : ¬ ((T 17 b.toNat = 43 ∨ T 17 b.toNat = 45) ∧ T 15 (bK T 30 (T 19 b.toNat)).toNat = 1 ∧ pC T (bK T 30 (T 18 b.toNat)))) : ¬ iC T e := fun q => by
  subst hb
  rcases q with q | q
  · exact hn q.2
  · exact q.1 h4

set_option maxRecDepth 20000 in
set_option maxHeartbeats 4000000 in
theorem c_isPlainConstant {X : jX} {dd : Nat} {T0 : Nat → Nat → Int} {Vs : Nat → Prop} {sb : Int} {k : Nat} {c0 c1 : jC} {G : Nat → Int} {A : Nat → Nat → Int} {T : jH} {e : Int} {lo hi : Int} (hd : 1 ≤ dd) (hW : Wk G A) (h_e : (-2147483648 : Int) ≤ e ∧ e ≤ 2147483647) (p_0 : TA T0 A) (p_1 : 0 ≤ lo) (p_2 : hi ≤ 6999) (p_3 : sb ≤ 202) (p_4 : k ≤ 30) (p_5 : wE T0 Vs sb (k) (e) (lo) (hi)) : wk X dd 324 [.ref 66, .int (i32 e)] (rV c0 c1 G A T) (fun o V_q => ∃ (r : Int), V_q = rV c0 c1 G A T ∧ o = .inl (some (.int (i32 r))) ∧ ((0 : Int) ≤ r ∧ r ≤ 1) ∧ ((r = 1 ∧ (pC T0 (e))) ∨ (r = 0 ∧ (¬ pC T0 (e))))) := by
  obtain ⟨d, rfl⟩ : ∃ d, dd = d + 1 := ⟨dd - 1, by omega⟩
  refine wk_of (e := jm324) rfl (Nat.le_of_ble_eq_true rfl) ?_
  show wj X d jm324 (0, [(0, .ref 66), (1, .int (i32 (e)))], [], rV c0 c1 G A T) _
  have hWT := TA_w hW p_0
  obtain ⟨k1, rfl⟩ := wE_pos p_5
  have hin := wE_in p_5
  refine jx_ld (pc_q := 1) (l_q := [(0, .ref 66), (1, .int (i32 (e)))]) (st_q := [.ref 66]) rfl (jl_aloadn rfl) ?_
  refine jr_get (pc_q := 4) (i := 32) (v := .ref 82) rfl rfl (by decide) rfl rfl ?_
  refine jx_ld (pc_q := 5) (l_q := [(0, .ref 66), (1, .int (i32 (e)))]) (st_q := [.int (i32 (e)), .ref 82]) rfl (jl_iloadn rfl) ?_
  have b1 : (0 : Int) ≤ T0 15 (e).toNat ∧ T0 15 (e).toNat ≤ 34 := hWT.2 15 _
  refine jr_ldv (pc_q := 6) (i := 15) (m := 7000) (z := e) (y := T0 15 (e).toNat) rfl (by decide) rfl (by decide) (by omega) (by omega) rfl (show A 15 (e).toNat = T0 15 (e).toNat from (congrFun (p_0 15 rfl) _)) ?_
  refine jx_ar (pc_q := 7) (st_q := [.int (i32 (1)), .int (i32 (T0 15 (e).toNat))]) rfl rfl rfl rfl ?_
  refine jx_icmp_eq (pc_q := 10) (tg := 36) rfl rfl rfl (Int.le_trans (by decide : (-2147483648 : Int) ≤ 0) b1.1) (Int.le_trans b1.2 (by decide : (34 : Int) ≤ 2147483647)) (by decide) (by decide) (fun h2 => ?_) (fun h2 => ?_)
  · have _q := h2
    refine jx_ar (pc_q := 37) (st_q := [.int (i32 (1))]) rfl rfl rfl rfl ?_
    refine jx_go (tg := 41) rfl rfl ?_
    refine jx_rt (v := some (.int (i32 (1)))) rfl rfl rfl rfl rfl (by first | rfl | exact jRet_b (by omega)) ?_
    exact ⟨_, rfl, rfl, by omega, by first | exact Or.inl (⟨by omega, (by unfold pC; omega)⟩) | exact Or.inr ((⟨by omega, (by unfold pC; omega)⟩))⟩
  · have _q := h2
    refine jx_ld (pc_q := 11) (l_q := [(0, .ref 66), (1, .int (i32 (e)))]) (st_q := [.ref 66]) rfl (jl_aloadn rfl) ?_
    refine jr_get (pc_q := 14) (i := 32) (v := .ref 82) rfl rfl (by decide) rfl rfl ?_
    refine jx_ld (pc_q := 15) (l_q := [(0, .ref 66), (1, .int (i32 (e)))]) (st_q := [.int (i32 (e)), .ref 82]) rfl (jl_iloadn rfl) ?_
    refine jr_ldv (pc_q := 16) (i := 15) (m := 7000) (z := e) (y := T0 15 (e).toNat) rfl (by decide) rfl (by decide) (by omega) (by omega) rfl (show A 15 (e).toNat = T0 15 (e).toNat from (congrFun (p_0 15 rfl) _)) ?_
    refine jx_ar (pc_q := 17) (st_q := [.int (i32 (2)), .int (i32 (T0 15 (e).toNat))]) rfl rfl rfl rfl ?_
    refine jx_icmp_ne (pc_q := 20) (tg := 40) rfl rfl rfl (Int.le_trans (by decide : (-2147483648 : Int) ≤ 0) b1.1) (Int.le_trans b1.2 (by decide : (34 : Int) ≤ 2147483647)) (by decide) (by decide) (fun h3 => ?_) (fun h3 => ?_)
    · have _q := h3
      refine jx_ar (pc_q := 41) (st_q := [.int (i32 (0))]) rfl rfl rfl rfl ?_
      refine jx_rt (v := some (.int (i32 (0)))) rfl rfl rfl rfl rfl (by first | rfl | exact jRet_b (by omega)) ?_
      exact ⟨_, rfl, rfl, by omega, by first | exact Or.inl (⟨by omega, (by unfold pC; omega)⟩) | exact Or.inr ((⟨by omega, (by unfold pC; omega)⟩))⟩
    · have _q := h3
      have hq2 := wE_i2 p_5 (by omega); have hs1 := hq2.1.1; have hs2 := hq2.1.2.1
      refine jx_ld (pc_q := 21) (l_q := [(0, .ref 66), (1, .int (i32 (e)))]) (st_q := [.ref 66]) rfl (jl_aloadn rfl) ?_
      refine jr_get (pc_q := 24) (i := 21) (v := .ref 74) rfl rfl (by decide) rfl rfl ?_
      refine jx_ld (pc_q := 25) (l_q := [(0, .ref 66), (1, .int (i32 (e)))]) (st_q := [.ref 66, .ref 74]) rfl (jl_aloadn rfl) ?_
      refine jr_get (pc_q := 28) (i := 34) (v := .ref 84) rfl rfl (by decide) rfl rfl ?_
      refine jx_ld (pc_q := 29) (l_q := [(0, .ref 66), (1, .int (i32 (e)))]) (st_q := [.int (i32 (e)), .ref 84, .ref 74]) rfl (jl_iloadn rfl) ?_
      have b4 : (-2147483648 : Int) ≤ T0 17 (e).toNat ∧ T0 17 (e).toNat ≤ 2147483647 := hWT.2 17 _
      refine jr_ldv (pc_q := 30) (i := 17) (m := 7000) (z := e) (y := T0 17 (e).toNat) rfl (by decide) rfl (by decide) (by omega) (by omega) rfl (show A 17 (e).toNat = T0 17 (e).toNat from (congrFun (p_0 17 rfl) _)) ?_
      have b5 : (0 : Int) ≤ T0 7 (T0 17 (e).toNat).toNat ∧ T0 7 (T0 17 (e).toNat).toNat ≤ 14 := hWT.2 7 _
      refine jr_ldv (pc_q := 31) (i := 7) (m := 260) (z := T0 17 (e).toNat) (y := T0 7 (T0 17 (e).toNat).toNat) rfl (by decide) rfl (by decide) (by omega) (by omega) rfl (show A 7 (T0 17 (e).toNat).toNat = T0 7 (T0 17 (e).toNat).toNat from (congrFun (p_0 7 rfl) _)) ?_
      refine jx_ar (pc_q := 33) (st_q := [.int (i32 (10)), .int (i32 (T0 7 (T0 17 (e).toNat).toNat))]) rfl rfl rfl rfl ?_
      refine jx_icmp_ne (pc_q := 36) (tg := 40) rfl rfl rfl (Int.le_trans (by decide : (-2147483648 : Int) ≤ 0) b5.1) (Int.le_trans b5.2 (by decide : (14 : Int) ≤ 2147483647)) (by decide) (by decide) (fun h6 => ?_) (fun h6 => ?_)
      · have _q := h6
        refine jx_ar (pc_q := 41) (st_q := [.int (i32 (0))]) rfl rfl rfl rfl ?_
        refine jx_rt (v := some (.int (i32 (0)))) rfl rfl rfl rfl rfl (by first | rfl | exact jRet_b (by omega)) ?_
        exact ⟨_, rfl, rfl, by omega, by first | exact Or.inl (⟨by omega, (by unfold pC; omega)⟩) | exact Or.inr ((⟨by omega, (by unfold pC; omega)⟩))⟩
      · have _q := h6
        refine jx_ar (pc_q := 37) (st_q := [.int (i32 (1))]) rfl rfl rfl rfl ?_
        refine jx_go (tg := 41) rfl rfl ?_
        refine jx_rt (v := some (.int (i32 (1)))) rfl rfl rfl rfl rfl (by first | rfl | exact jRet_b (by omega)) ?_
        exact ⟨_, rfl, rfl, by omega, by first | exact Or.inl (⟨by omega, (by unfold pC; omega)⟩) | exact Or.inr ((⟨by omega, (by unfold pC; omega)⟩))⟩
set_option maxRecDepth 20000 in
set_option maxHeartbeats 4000000 in
theorem c_isConstant {X : jX} {dd : Nat} {T0 : Nat → Nat → Int} {Vs : Nat → Prop} {sb : Int} {k : Nat} {c0 c1 : jC} {G : Nat → Int} {A : Nat → Nat → Int} {T : jH} {e : Int} {lo hi : Int} (hd : 2 ≤ dd) (hW : Wk G A) (h_e : (-2147483648 : Int) ≤ e ∧ e ≤ 2147483647) (p_0 : TA T0 A) (p_1 : 0 ≤ lo) (p_2 : hi ≤ 6999) (p_3 : sb ≤ 202) (p_4 : k ≤ 30) (p_5 : wE T0 Vs sb (k) (e) (lo) (hi)) : wk X dd 325 [.ref 66, .int (i32 e)] (rV c0 c1 G A T) (fun o V_q => ∃ (r : Int), V_q = rV c0 c1 G A T ∧ o = .inl (some (.int (i32 r))) ∧ ((0 : Int) ≤ r ∧ r ≤ 1) ∧ ((r = 1 ∧ (iC T0 (e))) ∨ (r = 0 ∧ (¬ iC T0 (e))))) := by
  obtain ⟨d, rfl⟩ : ∃ d, dd = d + 1 := ⟨dd - 1, by omega⟩
  refine wk_of (e := jm325) rfl (Nat.le_of_ble_eq_true rfl) ?_
  show wj X d jm325 (0, [(0, .ref 66), (1, .int (i32 (e)))], [], rV c0 c1 G A T) _
  have hWT := TA_w hW p_0
  refine jx_ld (pc_q := 1) (l_q := [(0, .ref 66), (1, .int (i32 (e)))]) (st_q := [.ref 66]) rfl (jl_aloadn rfl) ?_
  refine jx_ld (pc_q := 2) (l_q := [(0, .ref 66), (1, .int (i32 (e)))]) (st_q := [.int (i32 (e)), .ref 66]) rfl (jl_iloadn rfl) ?_
  refine jx_vr (pc_q := 5) (as := [.int (i32 (e))]) (st := []) rfl rfl rfl rfl ⟨rfl, rfl, Nat.le_of_ble_eq_true rfl⟩ rfl rfl (c_bare2 (dd := d) (hd := by omega) (hW := hW) (e := e) (k := k) (lo := lo) (hi := hi)  (h_e := ⟨(Int.le_trans (by decide : (-2147483648 : Int) ≤ -2147483648) h_e.1), (Int.le_trans h_e.2 (by decide : (2147483647 : Int) ≤ 2147483647))⟩)  (p_0 := p_0) (p_1 := by omega) (p_2 := by omega) (p_3 := by omega) (p_4 := p_5)) (fun o V_q hq => ?_)
  obtain ⟨r1, rfl, rfl, b2, p3, p4, p5, -⟩ := hq
  refine .inr ⟨_, rfl, ?_⟩
  have hwb : wE T0 Vs sb k r1 lo hi := (by rw [show r1 = bK T0 30 e by omega]; exact bK_w p_5); obtain ⟨k1, hk1⟩ := wE_pos hwb
  refine jx_ld (pc_q := 6) (l_q := jSto1 [(0, .ref 66), (1, .int (i32 (e)))] 2 (.int (i32 (r1)))) (st_q := []) rfl rfl ?_
  obtain ⟨L7, eL7⟩ : ∃ q, q = jSto1 [(0, .ref 66), (1, .int (i32 (e)))] 2 (.int (i32 (r1))) := ⟨_, rfl⟩
  rw [← eL7]
  have gL7_0 : jGet L7 0 = some (.ref 66) := eL7 ▸ jg_ne (by decide) (rfl : jGet [(0, .ref 66), (1, .int (i32 (e)))] 0 = some (.ref 66)) rfl
  have gL7_1 : jGet L7 1 = some (.int (i32 (e))) := eL7 ▸ jg_ne (by decide) (rfl : jGet [(0, .ref 66), (1, .int (i32 (e)))] 1 = some (.int (i32 (e)))) rfl
  have gL7_2 : jGet L7 2 = some (.int (i32 (r1))) := eL7 ▸ jg_eq
  refine jx_ld (pc_q := 7) (l_q := L7) (st_q := [.ref 66]) rfl (jl_aloadn gL7_0) ?_
  refine jr_get (pc_q := 10) (i := 32) (v := .ref 82) rfl rfl (by decide) rfl rfl ?_
  refine jx_ld (pc_q := 11) (l_q := L7) (st_q := [.int (i32 (r1)), .ref 82]) rfl (jl_iloadn gL7_2) ?_
  have b8 : (0 : Int) ≤ T0 15 (r1).toNat ∧ T0 15 (r1).toNat ≤ 34 := hWT.2 15 _
  refine jr_ldv (pc_q := 12) (i := 15) (m := 7000) (z := r1) (y := T0 15 (r1).toNat) rfl (by decide) rfl (by decide) (by omega) (by omega) rfl (show A 15 (r1).toNat = T0 15 (r1).toNat from (congrFun (p_0 15 rfl) _)) ?_
  refine jx_ar (pc_q := 13) (st_q := [.int (i32 (4)), .int (i32 (T0 15 (r1).toNat))]) rfl rfl rfl rfl ?_
  refine jx_icmp_eq (pc_q := 16) (tg := 22) rfl rfl rfl (Int.le_trans (by decide : (-2147483648 : Int) ≤ 0) b8.1) (Int.le_trans b8.2 (by decide : (34 : Int) ≤ 2147483647)) (by decide) (by decide) (fun h9 => ?_) (fun h9 => ?_)
  · have _q := h9
    have _q : True := trivial
    rw [hk1] at hwb; obtain ⟨m4, g1, g2, g3, g4⟩ := wE_i4 hwb (by omega)
    refine jx_ld (pc_q := 23) (l_q := L7) (st_q := [.ref 66]) rfl (jl_aloadn gL7_0) ?_
    refine jr_get (pc_q := 26) (i := 34) (v := .ref 84) rfl rfl (by decide) rfl rfl ?_
    refine jx_ld (pc_q := 27) (l_q := L7) (st_q := [.int (i32 (r1)), .ref 84]) rfl (jl_iloadn gL7_2) ?_
    have b10 : (-2147483648 : Int) ≤ T0 17 (r1).toNat ∧ T0 17 (r1).toNat ≤ 2147483647 := hWT.2 17 _
    refine jr_ldv (pc_q := 28) (i := 17) (m := 7000) (z := r1) (y := T0 17 (r1).toNat) rfl (by decide) rfl (by decide) (by omega) (by omega) rfl (show A 17 (r1).toNat = T0 17 (r1).toNat from (congrFun (p_0 17 rfl) _)) ?_
    refine jx_ar (pc_q := 30) (st_q := [.int (i32 (43)), .int (i32 (T0 17 (r1).toNat))]) rfl rfl rfl rfl ?_
    refine jx_icmp_eq (pc_q := 33) (tg := 44) rfl rfl rfl (Int.le_trans (by decide : (-2147483648 : Int) ≤ -2147483648) b10.1) (Int.le_trans b10.2 (by decide : (2147483647 : Int) ≤ 2147483647)) (by decide) (by decide) (fun h11 => ?_) (fun h11 => ?_)
    · have _q := h11
      refine jx_ld (pc_q := 45) (l_q := L7) (st_q := [.ref 66]) rfl (jl_aloadn gL7_0) ?_
      refine jr_get (pc_q := 48) (i := 32) (v := .ref 82) rfl rfl (by decide) rfl rfl ?_
      refine jx_ld (pc_q := 49) (l_q := L7) (st_q := [.ref 66, .ref 82]) rfl (jl_aloadn gL7_0) ?_
      refine jx_ld (pc_q := 50) (l_q := L7) (st_q := [.ref 66, .ref 66, .ref 82]) rfl (jl_aloadn gL7_0) ?_
      refine jr_get (pc_q := 53) (i := 36) (v := .ref 86) rfl rfl (by decide) rfl rfl ?_
      refine jx_ld (pc_q := 54) (l_q := L7) (st_q := [.int (i32 (r1)), .ref 86, .ref 66, .ref 82]) rfl (jl_iloadn gL7_2) ?_
      have b12 : (-2147483648 : Int) ≤ T0 19 (r1).toNat ∧ T0 19 (r1).toNat ≤ 2147483647 := hWT.2 19 _
      refine jr_ldv (pc_q := 55) (i := 19) (m := 7000) (z := r1) (y := T0 19 (r1).toNat) rfl (by decide) rfl (by decide) (by omega) (by omega) rfl (show A 19 (r1).toNat = T0 19 (r1).toNat from (congrFun (p_0 19 rfl) _)) ?_
      refine jx_vr (pc_q := 58) (as := [.int (i32 (T0 19 (r1).toNat))]) (st := [.ref 82]) rfl rfl rfl rfl ⟨rfl, rfl, Nat.le_of_ble_eq_true rfl⟩ rfl rfl (c_bare2 (dd := d) (hd := by omega) (hW := hW) (e := T0 19 (r1).toNat) (k := k1) (lo := m4) (hi := r1)  (h_e := ⟨(Int.le_trans (by decide : (-2147483648 : Int) ≤ -2147483648) b12.1), (Int.le_trans b12.2 (by decide : (2147483647 : Int) ≤ 2147483647))⟩)  (p_0 := p_0) (p_1 := by omega) (p_2 := by omega) (p_3 := by omega) (p_4 := (wE_mono (by omega) (by omega) (by omega) g4))) (fun o V_q hq => ?_)
      obtain ⟨r13, rfl, rfl, b14, p15, p16, p17, -⟩ := hq
      refine .inr ⟨_, rfl, ?_⟩
      have _q : True := trivial
      have b19 : (0 : Int) ≤ T0 15 (r13).toNat ∧ T0 15 (r13).toNat ≤ 34 := hWT.2 15 _
      refine jr_ldv (pc_q := 59) (i := 15) (m := 7000) (z := r13) (y := T0 15 (r13).toNat) rfl (by decide) rfl (by decide) (by omega) (by omega) rfl (show A 15 (r13).toNat = T0 15 (r13).toNat from (congrFun (p_0 15 rfl) _)) ?_
      refine jx_ar (pc_q := 60) (st_q := [.int (i32 (1)), .int (i32 (T0 15 (r13).toNat))]) rfl rfl rfl rfl ?_
      refine jx_icmp_ne (pc_q := 63) (tg := 84) rfl rfl rfl (Int.le_trans (by decide : (-2147483648 : Int) ≤ 0) b19.1) (Int.le_trans b19.2 (by decide : (34 : Int) ≤ 2147483647)) (by decide) (by decide) (fun h20 => ?_) (fun h20 => ?_)
      · have _q := h20
        refine jx_ar (pc_q := 85) (st_q := [.int (i32 (0))]) rfl rfl rfl rfl ?_
        refine jx_rt (v := some (.int (i32 (0)))) rfl rfl rfl rfl rfl (by first | rfl | exact jRet_b (by omega)) ?_
        exact ⟨_, rfl, rfl, by omega, by first | exact Or.inr ((⟨by omega, (iC_m (b := r1) (by omega) (by omega) (fun w => by have h1 := w.2.1; rw [show bK T0 30 (T0 19 (r1).toNat) = r13 by omega] at h1; omega))⟩))⟩
      · have _q := h20
        refine jx_ld (pc_q := 64) (l_q := L7) (st_q := [.ref 66]) rfl (jl_aloadn gL7_0) ?_
        refine jx_ld (pc_q := 65) (l_q := L7) (st_q := [.ref 66, .ref 66]) rfl (jl_aloadn gL7_0) ?_
        refine jx_ld (pc_q := 66) (l_q := L7) (st_q := [.ref 66, .ref 66, .ref 66]) rfl (jl_aloadn gL7_0) ?_
        refine jr_get (pc_q := 69) (i := 35) (v := .ref 85) rfl rfl (by decide) rfl rfl ?_
        refine jx_ld (pc_q := 70) (l_q := L7) (st_q := [.int (i32 (r1)), .ref 85, .ref 66, .ref 66]) rfl (jl_iloadn gL7_2) ?_
        have b21 : (-2147483648 : Int) ≤ T0 18 (r1).toNat ∧ T0 18 (r1).toNat ≤ 2147483647 := hWT.2 18 _
        refine jr_ldv (pc_q := 71) (i := 18) (m := 7000) (z := r1) (y := T0 18 (r1).toNat) rfl (by decide) rfl (by decide) (by omega) (by omega) rfl (show A 18 (r1).toNat = T0 18 (r1).toNat from (congrFun (p_0 18 rfl) _)) ?_
        refine jx_vr (pc_q := 74) (as := [.int (i32 (T0 18 (r1).toNat))]) (st := [.ref 66]) rfl rfl rfl rfl ⟨rfl, rfl, Nat.le_of_ble_eq_true rfl⟩ rfl rfl (c_bare2 (dd := d) (hd := by omega) (hW := hW) (e := T0 18 (r1).toNat) (k := k1) (lo := lo) (hi := m4)  (h_e := ⟨(Int.le_trans (by decide : (-2147483648 : Int) ≤ -2147483648) b21.1), (Int.le_trans b21.2 (by decide : (2147483647 : Int) ≤ 2147483647))⟩)  (p_0 := p_0) (p_1 := by omega) (p_2 := by omega) (p_3 := by omega) (p_4 := (wE_mono (by omega) (by omega) (by omega) g3))) (fun o V_q hq => ?_)
        obtain ⟨r22, rfl, rfl, b23, p24, p25, p26, -⟩ := hq
        refine .inr ⟨_, rfl, ?_⟩
        have hwd : wE T0 Vs sb k1 r22 lo m4 := (by rw [show r22 = bK T0 30 (T0 18 (r1).toNat) by omega]; exact bK_w g3)
        refine jx_vr (pc_q := 77) (as := [.int (i32 (r22))]) (st := []) rfl rfl rfl rfl ⟨rfl, rfl, Nat.le_of_ble_eq_true rfl⟩ rfl rfl (c_isPlainConstant (dd := d) (hd := by omega) (hW := hW) (e := r22) (k := k1) (lo := lo) (hi := m4)  (h_e := ⟨(Int.le_trans (by decide : (-2147483648 : Int) ≤ -2147483648) b23.1), (Int.le_trans b23.2 (by decide : (2147483647 : Int) ≤ 2147483647))⟩)  (p_0 := p_0) (p_1 := by omega) (p_2 := by omega) (p_3 := by omega) (p_4 := by omega) (p_5 := (wE_mono (by omega) (by omega) (by omega) hwd))) (fun o V_q hq => ?_)
        obtain ⟨r28, rfl, rfl, b29, q30⟩ := hq
        refine .inr ⟨_, rfl, ?_⟩
        rcases q30 with ⟨rfl, a31⟩ | ⟨rfl, a32⟩
        · have _q : True := trivial
          refine jx_if_eq (pc_q := 80) (tg := 84) rfl rfl rfl (by decide) (by decide) (fun h33 => ?_) (fun h33 => ?_)
          · have _q := h33
            exact absurd h33 (by omega)
          · have _q := h33
            refine jx_ar (pc_q := 81) (st_q := [.int (i32 (1))]) rfl rfl rfl rfl ?_
            refine jx_go (tg := 85) rfl rfl ?_
            refine jx_rt (v := some (.int (i32 (1)))) rfl rfl rfl rfl rfl (by first | rfl | exact jRet_b (by omega)) ?_
            exact ⟨_, rfl, rfl, by omega, by first | exact Or.inl (⟨by omega, (iC_4 (b := r1) (by omega) (by omega) (by omega) (c := r13) (by omega) (by omega) (d := r22) (by omega) a31)⟩)⟩
        · have _q : True := trivial
          refine jx_if_eq (pc_q := 80) (tg := 84) rfl rfl rfl (by decide) (by decide) (fun h34 => ?_) (fun h34 => ?_)
          · have _q := h34
            refine jx_ar (pc_q := 85) (st_q := [.int (i32 (0))]) rfl rfl rfl rfl ?_
            refine jx_rt (v := some (.int (i32 (0)))) rfl rfl rfl rfl rfl (by first | rfl | exact jRet_b (by omega)) ?_
            exact ⟨_, rfl, rfl, by omega, by first | exact Or.inr ((⟨by omega, (iC_m (b := r1) (by omega) (by omega) (fun w => absurd w.2.2 (by rw [show bK T0 30 (T0 18 (r1).toNat) = r22 by omega]; exact a32)))⟩))⟩
          · have _q := h34
            exact absurd h34 (by omega)
    · have _q := h11
      refine jx_ld (pc_q := 34) (l_q := L7) (st_q := [.ref 66]) rfl (jl_aloadn gL7_0) ?_
      refine jr_get (pc_q := 37) (i := 34) (v := .ref 84) rfl rfl (by decide) rfl rfl ?_
      refine jx_ld (pc_q := 38) (l_q := L7) (st_q := [.int (i32 (r1)), .ref 84]) rfl (jl_iloadn gL7_2) ?_
      refine jr_ldv (pc_q := 39) (i := 17) (m := 7000) (z := r1) (y := T0 17 (r1).toNat) rfl (by decide) rfl (by decide) (by omega) (by omega) rfl (show A 17 (r1).toNat = T0 17 (r1).toNat from (congrFun (p_0 17 rfl) _)) ?_
      refine jx_ar (pc_q := 41) (st_q := [.int (i32 (45)), .int (i32 (T0 17 (r1).toNat))]) rfl rfl rfl rfl ?_
      refine jx_icmp_ne (pc_q := 44) (tg := 84) rfl rfl rfl (Int.le_trans (by decide : (-2147483648 : Int) ≤ -2147483648) b10.1) (Int.le_trans b10.2 (by decide : (2147483647 : Int) ≤ 2147483647)) (by decide) (by decide) (fun h35 => ?_) (fun h35 => ?_)
      · have _q := h35
        refine jx_ar (pc_q := 85) (st_q := [.int (i32 (0))]) rfl rfl rfl rfl ?_
        refine jx_rt (v := some (.int (i32 (0)))) rfl rfl rfl rfl rfl (by first | rfl | exact jRet_b (by omega)) ?_
        exact ⟨_, rfl, rfl, by omega, by first | exact Or.inr ((⟨by omega, (iC_m (b := r1) (by omega) (by omega) (fun w => by have h1 := w.1; omega))⟩))⟩
      · have _q := h35
        refine jx_ld (pc_q := 45) (l_q := L7) (st_q := [.ref 66]) rfl (jl_aloadn gL7_0) ?_
        refine jr_get (pc_q := 48) (i := 32) (v := .ref 82) rfl rfl (by decide) rfl rfl ?_
        refine jx_ld (pc_q := 49) (l_q := L7) (st_q := [.ref 66, .ref 82]) rfl (jl_aloadn gL7_0) ?_
        refine jx_ld (pc_q := 50) (l_q := L7) (st_q := [.ref 66, .ref 66, .ref 82]) rfl (jl_aloadn gL7_0) ?_
        refine jr_get (pc_q := 53) (i := 36) (v := .ref 86) rfl rfl (by decide) rfl rfl ?_
        refine jx_ld (pc_q := 54) (l_q := L7) (st_q := [.int (i32 (r1)), .ref 86, .ref 66, .ref 82]) rfl (jl_iloadn gL7_2) ?_
        have b36 : (-2147483648 : Int) ≤ T0 19 (r1).toNat ∧ T0 19 (r1).toNat ≤ 2147483647 := hWT.2 19 _
        refine jr_ldv (pc_q := 55) (i := 19) (m := 7000) (z := r1) (y := T0 19 (r1).toNat) rfl (by decide) rfl (by decide) (by omega) (by omega) rfl (show A 19 (r1).toNat = T0 19 (r1).toNat from (congrFun (p_0 19 rfl) _)) ?_
        refine jx_vr (pc_q := 58) (as := [.int (i32 (T0 19 (r1).toNat))]) (st := [.ref 82]) rfl rfl rfl rfl ⟨rfl, rfl, Nat.le_of_ble_eq_true rfl⟩ rfl rfl (c_bare2 (dd := d) (hd := by omega) (hW := hW) (e := T0 19 (r1).toNat) (k := k1) (lo := m4) (hi := r1)  (h_e := ⟨(Int.le_trans (by decide : (-2147483648 : Int) ≤ -2147483648) b36.1), (Int.le_trans b36.2 (by decide : (2147483647 : Int) ≤ 2147483647))⟩)  (p_0 := p_0) (p_1 := by omega) (p_2 := by omega) (p_3 := by omega) (p_4 := (wE_mono (by omega) (by omega) (by omega) g4))) (fun o V_q hq => ?_)
        obtain ⟨r37, rfl, rfl, b38, p39, p40, p41, -⟩ := hq
        refine .inr ⟨_, rfl, ?_⟩
        have _q : True := trivial
        have b43 : (0 : Int) ≤ T0 15 (r37).toNat ∧ T0 15 (r37).toNat ≤ 34 := hWT.2 15 _
        refine jr_ldv (pc_q := 59) (i := 15) (m := 7000) (z := r37) (y := T0 15 (r37).toNat) rfl (by decide) rfl (by decide) (by omega) (by omega) rfl (show A 15 (r37).toNat = T0 15 (r37).toNat from (congrFun (p_0 15 rfl) _)) ?_
        refine jx_ar (pc_q := 60) (st_q := [.int (i32 (1)), .int (i32 (T0 15 (r37).toNat))]) rfl rfl rfl rfl ?_
        refine jx_icmp_ne (pc_q := 63) (tg := 84) rfl rfl rfl (Int.le_trans (by decide : (-2147483648 : Int) ≤ 0) b43.1) (Int.le_trans b43.2 (by decide : (34 : Int) ≤ 2147483647)) (by decide) (by decide) (fun h44 => ?_) (fun h44 => ?_)
        · have _q := h44
          refine jx_ar (pc_q := 85) (st_q := [.int (i32 (0))]) rfl rfl rfl rfl ?_
          refine jx_rt (v := some (.int (i32 (0)))) rfl rfl rfl rfl rfl (by first | rfl | exact jRet_b (by omega)) ?_
          exact ⟨_, rfl, rfl, by omega, by first | exact Or.inr ((⟨by omega, (iC_m (b := r1) (by omega) (by omega) (fun w => by have h1 := w.2.1; rw [show bK T0 30 (T0 19 (r1).toNat) = r37 by omega] at h1; omega))⟩))⟩
        · have _q := h44
          refine jx_ld (pc_q := 64) (l_q := L7) (st_q := [.ref 66]) rfl (jl_aloadn gL7_0) ?_
          refine jx_ld (pc_q := 65) (l_q := L7) (st_q := [.ref 66, .ref 66]) rfl (jl_aloadn gL7_0) ?_
          refine jx_ld (pc_q := 66) (l_q := L7) (st_q := [.ref 66, .ref 66, .ref 66]) rfl (jl_aloadn gL7_0) ?_
          refine jr_get (pc_q := 69) (i := 35) (v := .ref 85) rfl rfl (by decide) rfl rfl ?_
          refine jx_ld (pc_q := 70) (l_q := L7) (st_q := [.int (i32 (r1)), .ref 85, .ref 66, .ref 66]) rfl (jl_iloadn gL7_2) ?_
          have b45 : (-2147483648 : Int) ≤ T0 18 (r1).toNat ∧ T0 18 (r1).toNat ≤ 2147483647 := hWT.2 18 _
          refine jr_ldv (pc_q := 71) (i := 18) (m := 7000) (z := r1) (y := T0 18 (r1).toNat) rfl (by decide) rfl (by decide) (by omega) (by omega) rfl (show A 18 (r1).toNat = T0 18 (r1).toNat from (congrFun (p_0 18 rfl) _)) ?_
          refine jx_vr (pc_q := 74) (as := [.int (i32 (T0 18 (r1).toNat))]) (st := [.ref 66]) rfl rfl rfl rfl ⟨rfl, rfl, Nat.le_of_ble_eq_true rfl⟩ rfl rfl (c_bare2 (dd := d) (hd := by omega) (hW := hW) (e := T0 18 (r1).toNat) (k := k1) (lo := lo) (hi := m4)  (h_e := ⟨(Int.le_trans (by decide : (-2147483648 : Int) ≤ -2147483648) b45.1), (Int.le_trans b45.2 (by decide : (2147483647 : Int) ≤ 2147483647))⟩)  (p_0 := p_0) (p_1 := by omega) (p_2 := by omega) (p_3 := by omega) (p_4 := (wE_mono (by omega) (by omega) (by omega) g3))) (fun o V_q hq => ?_)
          obtain ⟨r46, rfl, rfl, b47, p48, p49, p50, -⟩ := hq
          refine .inr ⟨_, rfl, ?_⟩
          have hwd : wE T0 Vs sb k1 r46 lo m4 := (by rw [show r46 = bK T0 30 (T0 18 (r1).toNat) by omega]; exact bK_w g3)
          refine jx_vr (pc_q := 77) (as := [.int (i32 (r46))]) (st := []) rfl rfl rfl rfl ⟨rfl, rfl, Nat.le_of_ble_eq_true rfl⟩ rfl rfl (c_isPlainConstant (dd := d) (hd := by omega) (hW := hW) (e := r46) (k := k1) (lo := lo) (hi := m4)  (h_e := ⟨(Int.le_trans (by decide : (-2147483648 : Int) ≤ -2147483648) b47.1), (Int.le_trans b47.2 (by decide : (2147483647 : Int) ≤ 2147483647))⟩)  (p_0 := p_0) (p_1 := by omega) (p_2 := by omega) (p_3 := by omega) (p_4 := by omega) (p_5 := (wE_mono (by omega) (by omega) (by omega) hwd))) (fun o V_q hq => ?_)
          obtain ⟨r52, rfl, rfl, b53, q54⟩ := hq
          refine .inr ⟨_, rfl, ?_⟩
          rcases q54 with ⟨rfl, a55⟩ | ⟨rfl, a56⟩
          · have _q : True := trivial
            refine jx_if_eq (pc_q := 80) (tg := 84) rfl rfl rfl (by decide) (by decide) (fun h57 => ?_) (fun h57 => ?_)
            · have _q := h57
              exact absurd h57 (by omega)
            · have _q := h57
              refine jx_ar (pc_q := 81) (st_q := [.int (i32 (1))]) rfl rfl rfl rfl ?_
              refine jx_go (tg := 85) rfl rfl ?_
              refine jx_rt (v := some (.int (i32 (1)))) rfl rfl rfl rfl rfl (by first | rfl | exact jRet_b (by omega)) ?_
              exact ⟨_, rfl, rfl, by omega, by first | exact Or.inl (⟨by omega, (iC_4 (b := r1) (by omega) (by omega) (by omega) (c := r37) (by omega) (by omega) (d := r46) (by omega) a55)⟩)⟩
          · have _q : True := trivial
            refine jx_if_eq (pc_q := 80) (tg := 84) rfl rfl rfl (by decide) (by decide) (fun h58 => ?_) (fun h58 => ?_)
            · have _q := h58
              refine jx_ar (pc_q := 85) (st_q := [.int (i32 (0))]) rfl rfl rfl rfl ?_
              refine jx_rt (v := some (.int (i32 (0)))) rfl rfl rfl rfl rfl (by first | rfl | exact jRet_b (by omega)) ?_
              exact ⟨_, rfl, rfl, by omega, by first | exact Or.inr ((⟨by omega, (iC_m (b := r1) (by omega) (by omega) (fun w => absurd w.2.2 (by rw [show bK T0 30 (T0 18 (r1).toNat) = r46 by omega]; exact a56)))⟩))⟩
            · have _q := h58
              exact absurd h58 (by omega)
  · have _q := h9
    refine jx_ld (pc_q := 17) (l_q := L7) (st_q := [.ref 66]) rfl (jl_aloadn gL7_0) ?_
    refine jx_ld (pc_q := 18) (l_q := L7) (st_q := [.int (i32 (r1)), .ref 66]) rfl (jl_iloadn gL7_2) ?_
    refine jx_vr (pc_q := 21) (as := [.int (i32 (r1))]) (st := []) rfl rfl rfl rfl ⟨rfl, rfl, Nat.le_of_ble_eq_true rfl⟩ rfl rfl (c_isPlainConstant (dd := d) (hd := by omega) (hW := hW) (e := r1) (k := k) (lo := lo) (hi := hi)  (h_e := ⟨(Int.le_trans (by decide : (-2147483648 : Int) ≤ -2147483648) b2.1), (Int.le_trans b2.2 (by decide : (2147483647 : Int) ≤ 2147483647))⟩)  (p_0 := p_0) (p_1 := by omega) (p_2 := by omega) (p_3 := by omega) (p_4 := by omega) (p_5 := hwb)) (fun o V_q hq => ?_)
    obtain ⟨r59, rfl, rfl, b60, q61⟩ := hq
    refine .inr ⟨_, rfl, ?_⟩
    rcases q61 with ⟨rfl, a62⟩ | ⟨rfl, a63⟩
    · have _q : True := trivial
      refine jx_rt (v := some (.int (i32 (1)))) rfl rfl rfl rfl rfl (by first | rfl | exact jRet_b (by omega)) ?_
      exact ⟨_, rfl, rfl, by omega, by first | exact Or.inl (⟨by omega, (iC_p (b := r1) (by omega) (by omega) a62)⟩)⟩
    · have _q : True := trivial
      refine jx_rt (v := some (.int (i32 (0)))) rfl rfl rfl rfl rfl (by first | rfl | exact jRet_b (by omega)) ?_
      exact ⟨_, rfl, rfl, by omega, by first | exact Or.inr ((⟨by omega, (iC_n (b := r1) (by omega) (by omega) a63)⟩))⟩
