/-- a word of the memory of the core p, where there is one -/
def ldM (A : Nat → Nat → Int) (p a : Int) : Int := if 0 ≤ a ∧ a ≤ 4015 then A 59 (4016 * p + a).toNat else 0
theorem ld_i {A : Nat → Nat → Int} {p a x : Int} (h1 : 0 ≤ a) (h2 : a ≤ 4015) (hx : x = A 59 (4016 * p + a).toNat) : x = ldM A p a := by
  subst hx
  exact (if_pos ⟨h1, h2⟩).symm
theorem ld_o {A : Nat → Nat → Int} {p a : Int} (h : a < 0 ∨ 4015 < a) : 0 = ldM A p a := (if_neg (by omega)).symm
def stM (A : Nat → Nat → Int) (p a v : Int) : Nat → Nat → Int := if 0 ≤ a ∧ a ≤ 4015 then uA A 59 (4016 * p + a).toNat v else A
theorem st_i {A A_q : Nat → Nat → Int} {p a v : Int} (e : A_q = uA A 59 (4016 * p + a).toNat v) (h1 : 0 ≤ a) (h2 : a ≤ 4015) : A_q = stM A p a v := by
  subst e
  exact (if_pos ⟨h1, h2⟩).symm
theorem st_o {A : Nat → Nat → Int} {p a v : Int} (h : a < 0 ∨ 4015 < a) : A = stM A p a v := (if_neg (by omega)).symm
theorem stM_ne {A : Nat → Nat → Int} {p a v : Int} {k : Nat} (h : k ≠ 59) : stM A p a v k = A k := by
  unfold stM
  split
  · exact uA_ne h
  · rfl
/-- reading behind writing -/
theorem ld_eq {A : Nat → Nat → Int} {p a v : Int} (h0 : 0 ≤ p) (h1 : 0 ≤ a) (h2 : a ≤ 4015) : ldM (stM A p a v) p a = v := by
  unfold ldM stM
  rw [if_pos ⟨h1, h2⟩, if_pos ⟨h1, h2⟩]
  exact uA_eq
theorem ld_ne {A : Nat → Nat → Int} {p p_q a a_q v : Int} (h0 : 0 ≤ p) (h1 : 0 ≤ p_q) (h : p ≠ p_q ∨ a ≠ a_q) : ldM (stM A p a v) p_q a_q = ldM A p_q a_q := by
  unfold ldM stM
  by_cases q : 0 ≤ a_q ∧ a_q ≤ 4015
  · rw [if_pos q, if_pos q]
    by_cases w : 0 ≤ a ∧ a ≤ 4015
    · rw [if_pos w]
      exact uA_ni (by omega)
    · rw [if_neg w]
  · rw [if_neg q, if_neg q]

set_option maxRecDepth 20000 in
set_option maxHeartbeats 4000000 in
theorem c_load {X : jX} {dd : Nat} {c0 c1 : jC} {G : Nat → Int} {A : Nat → Nat → Int} {T : jH} {p a : Int} (hd : 2 ≤ dd) (hW : Wk G A) (h_p : (-2147483648 : Int) ≤ p ∧ p ≤ 2147483647) (h_a : (-2147483648 : Int) ≤ a ∧ a ≤ 2147483647) (p_0 : 0 ≤ p) (p_1 : p ≤ 5) : wk X dd 369 [.ref 66, .int (i32 p), .int (i32 a)] (rV c0 c1 G A T) (fun o V_q => ∃ (r : Int), V_q = rV c0 c1 G A T ∧ o = .inl (some (.int (i32 r))) ∧ ((-2147483648 : Int) ≤ r ∧ r ≤ 2147483647) ∧ (r = ldM A (p) (a)) ∧ True) := by
  obtain ⟨d, rfl⟩ : ∃ d, dd = d + 1 := ⟨dd - 1, by omega⟩
  refine wk_of (e := jm369) rfl (Nat.le_of_ble_eq_true rfl) ?_
  show wj X d jm369 (0, [(0, .ref 66), (1, .int (i32 (p))), (2, .int (i32 (a)))], [], rV c0 c1 G A T) _
  refine jx_ld (pc_q := 1) (l_q := [(0, .ref 66), (1, .int (i32 (p))), (2, .int (i32 (a)))]) (st_q := [.int (i32 (a))]) rfl (jl_iloadn rfl) ?_
  refine jx_ar (pc_q := 2) (st_q := [.int (i32 (0)), .int (i32 (a))]) rfl rfl rfl rfl ?_
  refine jx_ar (pc_q := 5) (st_q := [.int (i32 (4015)), .int (i32 (0)), .int (i32 (a))]) rfl rfl rfl rfl ?_
  refine jx_st (pc_q := 8) (as := [.int (i32 (a)), .int (i32 (0)), .int (i32 (4015))]) (st := []) rfl rfl ⟨rfl, Nat.le_of_ble_eq_true rfl⟩ rfl rfl rfl (c_in (dd := d) (hd := by omega) (v := a) (a := 0) (b := 4015)   (h_v := ⟨(Int.le_trans (by decide : (-2147483648 : Int) ≤ -2147483648) h_a.1), (Int.le_trans h_a.2 (by decide : (2147483647 : Int) ≤ 2147483647))⟩) (h_a := ⟨(by decide), (by decide)⟩) (h_b := ⟨(by decide), (by decide)⟩)  ) (fun o V_q hq => ?_)
  obtain ⟨r1, rfl, rfl, b2, q3⟩ := hq
  refine .inr ⟨_, rfl, ?_⟩
  rcases q3 with ⟨rfl, a4, a5⟩ | ⟨rfl, a6⟩
  · have _q : True := trivial
    refine jx_if_eq (pc_q := 11) (tg := 26) rfl rfl rfl (by decide) (by decide) (fun h7 => ?_) (fun h7 => ?_)
    · have _q := h7
      exact absurd h7 (by omega)
    · have _q := h7
      refine jx_ld (pc_q := 12) (l_q := [(0, .ref 66), (1, .int (i32 (p))), (2, .int (i32 (a)))]) (st_q := [.ref 66]) rfl (jl_aloadn rfl) ?_
      refine jr_get (pc_q := 15) (i := 90) (v := .ref 126) rfl rfl (by decide) rfl rfl ?_
      refine jx_ar (pc_q := 18) (st_q := [.int (i32 (4016)), .ref 126]) rfl rfl rfl rfl ?_
      refine jx_ld (pc_q := 19) (l_q := [(0, .ref 66), (1, .int (i32 (p))), (2, .int (i32 (a)))]) (st_q := [.int (i32 (p)), .int (i32 (4016)), .ref 126]) rfl (jl_iloadn rfl) ?_
      refine jx_mul (pc_q := 20) rfl rfl ?_
      refine jx_ld (pc_q := 21) (l_q := [(0, .ref 66), (1, .int (i32 (p))), (2, .int (i32 (a)))]) (st_q := [.int (i32 (a)), .int (i32 ((4016 * p))), .ref 126]) rfl (jl_iloadn rfl) ?_
      refine jx_add (pc_q := 22) rfl rfl ?_
      have b8 : (-2147483648 : Int) ≤ A 59 (((4016 * p) + a)).toNat ∧ A 59 (((4016 * p) + a)).toNat ≤ 2147483647 := hW.2 59 _
      refine jr_ldv (pc_q := 23) (i := 59) (m := 24096) (z := ((4016 * p) + a)) (y := A 59 (((4016 * p) + a)).toNat) rfl (by decide) rfl (by decide) (by omega) (by omega) rfl (show A 59 (((4016 * p) + a)).toNat = A 59 (((4016 * p) + a)).toNat from rfl) ?_
      refine jx_go (tg := 27) rfl rfl ?_
      refine jx_rt (v := some (.int (i32 (A 59 (((4016 * p) + a)).toNat)))) rfl rfl rfl rfl rfl rfl ?_
      exact ⟨_, rfl, rfl, by omega, (by first | exact ld_i (by omega) (by omega) rfl | exact ld_o (by omega)), trivial⟩
  · have _q : True := trivial
    refine jx_if_eq (pc_q := 11) (tg := 26) rfl rfl rfl (by decide) (by decide) (fun h9 => ?_) (fun h9 => ?_)
    · have _q := h9
      refine jx_ar (pc_q := 27) (st_q := [.int (i32 (0))]) rfl rfl rfl rfl ?_
      refine jx_rt (v := some (.int (i32 (0)))) rfl rfl rfl rfl rfl rfl ?_
      exact ⟨_, rfl, rfl, by omega, (by first | exact ld_i (by omega) (by omega) rfl | exact ld_o (by omega)), trivial⟩
    · have _q := h9
      exact absurd h9 (by omega)
set_option maxRecDepth 20000 in
set_option maxHeartbeats 4000000 in
theorem c_store {X : jX} {dd : Nat} {c0 c1 : jC} {G : Nat → Int} {A : Nat → Nat → Int} {T : jH} {p a v : Int} (hd : 2 ≤ dd) (hW : Wk G A) (h_p : (-2147483648 : Int) ≤ p ∧ p ≤ 2147483647) (h_a : (-2147483648 : Int) ≤ a ∧ a ≤ 2147483647) (h_v : (-2147483648 : Int) ≤ v ∧ v ≤ 2147483647) (p_0 : 0 ≤ p) (p_1 : p ≤ 5) : wk X dd 370 [.ref 66, .int (i32 p), .int (i32 a), .int (i32 v)] (rV c0 c1 G A T) (fun o V_q => ∃ (G_q : Nat → Int) (A_q : Nat → Nat → Int), V_q = rV c0 c1 G_q A_q T ∧ o = .inl none ∧ Wk G_q A_q ∧ Fr [] [59] G A G_q A_q ∧ (A_q = stM A (p) (a) (v)) ∧ True) := by
  obtain ⟨d, rfl⟩ : ∃ d, dd = d + 1 := ⟨dd - 1, by omega⟩
  refine wk_of (e := jm370) rfl (Nat.le_of_ble_eq_true rfl) ?_
  show wj X d jm370 (0, [(0, .ref 66), (1, .int (i32 (p))), (2, .int (i32 (a))), (3, .int (i32 (v)))], [], rV c0 c1 G A T) _
  have hF0 : Fr [] [59] G A G A := Fr_rf
  refine jx_ld (pc_q := 1) (l_q := [(0, .ref 66), (1, .int (i32 (p))), (2, .int (i32 (a))), (3, .int (i32 (v)))]) (st_q := [.int (i32 (a))]) rfl (jl_iloadn rfl) ?_
  refine jx_ar (pc_q := 2) (st_q := [.int (i32 (0)), .int (i32 (a))]) rfl rfl rfl rfl ?_
  refine jx_ar (pc_q := 5) (st_q := [.int (i32 (4015)), .int (i32 (0)), .int (i32 (a))]) rfl rfl rfl rfl ?_
  refine jx_st (pc_q := 8) (as := [.int (i32 (a)), .int (i32 (0)), .int (i32 (4015))]) (st := []) rfl rfl ⟨rfl, Nat.le_of_ble_eq_true rfl⟩ rfl rfl rfl (c_in (dd := d) (hd := by omega) (v := a) (a := 0) (b := 4015)   (h_v := ⟨(Int.le_trans (by decide : (-2147483648 : Int) ≤ -2147483648) h_a.1), (Int.le_trans h_a.2 (by decide : (2147483647 : Int) ≤ 2147483647))⟩) (h_a := ⟨(by decide), (by decide)⟩) (h_b := ⟨(by decide), (by decide)⟩)  ) (fun o V_q hq => ?_)
  obtain ⟨r1, rfl, rfl, b2, q3⟩ := hq
  refine .inr ⟨_, rfl, ?_⟩
  rcases q3 with ⟨rfl, a4, a5⟩ | ⟨rfl, a6⟩
  · have _q : True := trivial
    refine jx_if_eq (pc_q := 11) (tg := 24) rfl rfl rfl (by decide) (by decide) (fun h7 => ?_) (fun h7 => ?_)
    · have _q := h7
      exact absurd h7 (by omega)
    · have _q := h7
      refine jx_ld (pc_q := 12) (l_q := [(0, .ref 66), (1, .int (i32 (p))), (2, .int (i32 (a))), (3, .int (i32 (v)))]) (st_q := [.ref 66]) rfl (jl_aloadn rfl) ?_
      refine jr_get (pc_q := 15) (i := 90) (v := .ref 126) rfl rfl (by decide) rfl rfl ?_
      refine jx_ar (pc_q := 18) (st_q := [.int (i32 (4016)), .ref 126]) rfl rfl rfl rfl ?_
      refine jx_ld (pc_q := 19) (l_q := [(0, .ref 66), (1, .int (i32 (p))), (2, .int (i32 (a))), (3, .int (i32 (v)))]) (st_q := [.int (i32 (p)), .int (i32 (4016)), .ref 126]) rfl (jl_iloadn rfl) ?_
      refine jx_mul (pc_q := 20) rfl rfl ?_
      refine jx_ld (pc_q := 21) (l_q := [(0, .ref 66), (1, .int (i32 (p))), (2, .int (i32 (a))), (3, .int (i32 (v)))]) (st_q := [.int (i32 (a)), .int (i32 ((4016 * p))), .ref 126]) rfl (jl_iloadn rfl) ?_
      refine jx_add (pc_q := 22) rfl rfl ?_
      refine jx_ld (pc_q := 23) (l_q := [(0, .ref 66), (1, .int (i32 (p))), (2, .int (i32 (a))), (3, .int (i32 (v)))]) (st_q := [.int (i32 (v)), .int (i32 (((4016 * p) + a))), .ref 126]) rfl (jl_iloadn rfl) ?_
      refine jr_st (pc_q := 24) (i := 59) (m := 24096) (z := ((4016 * p) + a)) (y := v) rfl (by decide) rfl (by decide) (by omega) (by omega) rfl ?_
      have hW9 : Wk G (uA A 59 (((4016 * p) + a)).toNat (v)) := Wk_a hW (show (-2147483648 : Int) ≤ v by omega) (show v ≤ (2147483647 : Int) by omega)
      have hF10 := Fr_a (z := v) (k := 59) (n := (((4016 * p) + a)).toNat) hF0 (by decide)
      obtain ⟨A8, eA8⟩ : ∃ q, q = uA A 59 (((4016 * p) + a)).toNat (v) := ⟨_, rfl⟩
      rw [← eA8]
      rw [← eA8] at hW9 hF10
      have q11 : A8 59 (((4016 * p) + a)).toNat = v := by rw [eA8]; exact uA_eq
      refine jx_rt (v := none) rfl rfl rfl rfl rfl rfl ?_
      exact ⟨_, _, rfl, rfl, hW9, hF10, (st_i eA8 (by omega) (by omega)), trivial⟩
  · have _q : True := trivial
    refine jx_if_eq (pc_q := 11) (tg := 24) rfl rfl rfl (by decide) (by decide) (fun h12 => ?_) (fun h12 => ?_)
    · have _q := h12
      refine jx_rt (v := none) rfl rfl rfl rfl rfl rfl ?_
      exact ⟨_, _, rfl, rfl, hW, hF0, (st_o (by omega)), trivial⟩
    · have _q := h12
      exact absurd h12 (by omega)
