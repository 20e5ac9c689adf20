theorem mk_72 {A A_q : Nat → Nat → Int} {p d x : Int} {i : Nat} (h : mkR A A_q p d) (hr : A 66 p.toNat ≠ -1) (gq : 0 ≤ A 72 (2 * p + d % 2).toNat ∧ A 72 (2 * p + d % 2).toNat ≤ 1099) (hx : A 72 i = x) (g : 0 ≤ x ∧ x ≤ 1099) : 0 ≤ A_q 72 i ∧ A_q 72 i ≤ 1100 := by
  rcases h with h | h
  · rw [h.2]
    unfold adM
    by_cases q : i = (2 * p + d % 2).toNat
    · subst q
      rw [uA_eq]
      omega
    · rw [uA_ni q, uA_ne (by decide), hx]
      omega
  · exact absurd h.1 hr
/-- the steps with an operand -/
def acR (A A_q : Nat → Nat → Int) (p fn op1 : Int) : Prop :=
  (∃ ri : Int, (fn = 0) ∧ (A 63 p.toNat = ri) ∧ (A_q = uA A 63 p.toNat (i32 (ri + op1)).toInt)) ∨
  (∃ ri rw rn v : Int, ∃ A1 A2 A3 : Nat → Nat → Int, (fn = 0) ∧ (A 63 p.toNat = ri) ∧ (A 64 p.toNat = rw) ∧ (A 66 p.toNat = rn) ∧ (rn % 2 = 1) ∧ (v = (i32 (ri + op1)).toInt) ∧ (A1 = uA A 63 p.toNat v) ∧ (A2 = stM A1 p (rw - 1) v) ∧ (mkR A2 A3 p rn) ∧ (dispR A3 A_q p)) ∨
  (∃ rw : Int, (fn = 1) ∧ (A 64 p.toNat = rw) ∧ (A_q = comeM A p (i32 (rw + op1)).toInt)) ∨
  (∃ v : Int, (fn = 3) ∧ (A_q = uA A 60 p.toNat v)) ∨
  ((fn = 4) ∧ (A_q = comeM A p op1)) ∨
  (∃ v : Int, (fn = 5 ∨ fn = 8) ∧ (A_q = uA A 60 p.toNat v)) ∨
  (∃ rw v r : Int, (fn = 7) ∧ (A 64 p.toNat = rw) ∧ (v = (i32 (rw + op1)).toInt) ∧ (r = ldM A p v) ∧ (A_q = comeM A p r)) ∨
  (∃ rw ri rn b : Int, ∃ A1 A2 A3 : Nat → Nat → Int, (fn = 9) ∧ (A 64 p.toNat = rw) ∧ (A 63 p.toNat = ri) ∧ (A 66 p.toNat = rn) ∧ (b = rn % 2) ∧ (A1 = uA A 64 p.toNat (rw - 4)) ∧ (A2 = stM A1 p (rw - 4) ri) ∧ (A3 = uA A2 63 p.toNat (i32 (ri + op1)).toInt) ∧ (A_q = uA A3 66 p.toNat (2 * (rw - 4) + b))) ∨
  (∃ ri : Int, (fn = 10) ∧ (A 60 p.toNat = 0) ∧ (A 63 p.toNat = ri) ∧ (A_q = uA A 63 p.toNat (i32 (ri + op1)).toInt)) ∨
  ((fn = 10) ∧ (A 60 p.toNat ≠ 0) ∧ (A_q = takeM A p)) ∨
  (∃ rw rn v b : Int, ∃ A1 : Nat → Nat → Int, (fn = 11) ∧ (A 64 p.toNat = rw) ∧ (A 66 p.toNat = rn) ∧ (v = (i32 (rw + op1)).toInt) ∧ (b = rn % 2) ∧ (A1 = uA A 64 p.toNat v) ∧ (A_q = uA A1 66 p.toNat (i32 (2 * v + b)).toInt)) ∨
  (∃ v : Int, (fn = 12) ∧ (A_q = uA A 60 p.toNat v)) ∨
  (∃ rw v ra : Int, ∃ A1 : Nat → Nat → Int, (fn = 13) ∧ (A 64 p.toNat = rw) ∧ (A 60 p.toNat = ra) ∧ (v = (i32 (rw + op1)).toInt) ∧ (A1 = stM A p v ra) ∧ (A_q = takeM A1 p)) ∨
  (∃ ra rb v : Int, ∃ A1 A2 : Nat → Nat → Int, (fn = 2 ∨ fn = 6 ∨ fn < 0 ∨ 14 ≤ fn) ∧ (A 60 p.toNat = ra) ∧ (A 61 p.toNat = rb) ∧ (v = (i32 (ra + op1)).toInt) ∧ (A1 = stM A p v rb) ∧ (A2 = takeM A1 p) ∧ (A_q = takeM A2 p))
theorem acR_jmp {A A_q : Nat → Nat → Int} {p fn op1 : Int} (ri : Int) (h : fn = 0) (hi : A 63 p.toNat = ri) (e : A_q = uA A 63 p.toNat (i32 (ri + op1)).toInt) : acR A A_q p fn op1 := .inl ⟨ri, h, hi, e⟩
theorem acR_slc {A A_q : Nat → Nat → Int} {p fn op1 : Int} (ri rw rn v : Int) (A1 A2 A3 : Nat → Nat → Int) (h : fn = 0) (hi : A 63 p.toNat = ri) (hw : A 64 p.toNat = rw) (hr : A 66 p.toNat = rn) (hb : rn % 2 = 1) (ev : v = (i32 (ri + op1)).toInt) (e1 : A1 = uA A 63 p.toNat v) (s1 : A2 = stM A1 p (rw - 1) v) (m : mkR A2 A3 p rn) (d : dispR A3 A_q p) : acR A A_q p fn op1 := .inr (.inl ⟨ri, rw, rn, v, A1, A2, A3, h, hi, hw, hr, hb, ev, e1, s1, m, d⟩)
theorem acR_ldlp {A A_q : Nat → Nat → Int} {p fn op1 : Int} (rw : Int) (h : fn = 1) (hw : A 64 p.toNat = rw) (e : A_q = comeM A p (i32 (rw + op1)).toInt) : acR A A_q p fn op1 := .inr (.inr (.inl ⟨rw, h, hw, e⟩))
theorem acR_ldnl {A A_q : Nat → Nat → Int} {p fn op1 : Int} (v : Int) (h : fn = 3) (e : A_q = uA A 60 p.toNat v) : acR A A_q p fn op1 := .inr (.inr (.inr (.inl ⟨v, h, e⟩)))
theorem acR_ldc {A A_q : Nat → Nat → Int} {p fn op1 : Int}  (h : fn = 4) (e : A_q = comeM A p op1) : acR A A_q p fn op1 := .inr (.inr (.inr (.inr (.inl ⟨h, e⟩))))
theorem acR_adc {A A_q : Nat → Nat → Int} {p fn op1 : Int} (v : Int) (h : fn = 5 ∨ fn = 8) (e : A_q = uA A 60 p.toNat v) : acR A A_q p fn op1 := .inr (.inr (.inr (.inr (.inr (.inl ⟨v, h, e⟩)))))
theorem acR_ldl {A A_q : Nat → Nat → Int} {p fn op1 : Int} (rw v r : Int) (h : fn = 7) (hw : A 64 p.toNat = rw) (ev : v = (i32 (rw + op1)).toInt) (l : r = ldM A p v) (e : A_q = comeM A p r) : acR A A_q p fn op1 := .inr (.inr (.inr (.inr (.inr (.inr (.inl ⟨rw, v, r, h, hw, ev, l, e⟩))))))
theorem acR_call {A A_q : Nat → Nat → Int} {p fn op1 : Int} (rw ri rn b : Int) (A1 A2 A3 : Nat → Nat → Int) (h : fn = 9) (hw : A 64 p.toNat = rw) (hi : A 63 p.toNat = ri) (hr : A 66 p.toNat = rn) (hb : b = rn % 2) (e1 : A1 = uA A 64 p.toNat (rw - 4)) (s1 : A2 = stM A1 p (rw - 4) ri) (e3 : A3 = uA A2 63 p.toNat (i32 (ri + op1)).toInt) (e : A_q = uA A3 66 p.toNat (2 * (rw - 4) + b)) : acR A A_q p fn op1 := .inr (.inr (.inr (.inr (.inr (.inr (.inr (.inl ⟨rw, ri, rn, b, A1, A2, A3, h, hw, hi, hr, hb, e1, s1, e3, e⟩)))))))
theorem acR_cj0 {A A_q : Nat → Nat → Int} {p fn op1 : Int} (ri : Int) (h : fn = 10) (ha : A 60 p.toNat = 0) (hi : A 63 p.toNat = ri) (e : A_q = uA A 63 p.toNat (i32 (ri + op1)).toInt) : acR A A_q p fn op1 := .inr (.inr (.inr (.inr (.inr (.inr (.inr (.inr (.inl ⟨ri, h, ha, hi, e⟩))))))))
theorem acR_cj1 {A A_q : Nat → Nat → Int} {p fn op1 : Int}  (h : fn = 10) (ha : A 60 p.toNat ≠ 0) (e : A_q = takeM A p) : acR A A_q p fn op1 := .inr (.inr (.inr (.inr (.inr (.inr (.inr (.inr (.inr (.inl ⟨h, ha, e⟩)))))))))
theorem acR_ajw {A A_q : Nat → Nat → Int} {p fn op1 : Int} (rw rn v b : Int) (A1 : Nat → Nat → Int) (h : fn = 11) (hw : A 64 p.toNat = rw) (hr : A 66 p.toNat = rn) (ev : v = (i32 (rw + op1)).toInt) (hb : b = rn % 2) (e1 : A1 = uA A 64 p.toNat v) (e : A_q = uA A1 66 p.toNat (i32 (2 * v + b)).toInt) : acR A A_q p fn op1 := .inr (.inr (.inr (.inr (.inr (.inr (.inr (.inr (.inr (.inr (.inl ⟨rw, rn, v, b, A1, h, hw, hr, ev, hb, e1, e⟩))))))))))
theorem acR_eqc {A A_q : Nat → Nat → Int} {p fn op1 : Int} (v : Int) (h : fn = 12) (e : A_q = uA A 60 p.toNat v) : acR A A_q p fn op1 := .inr (.inr (.inr (.inr (.inr (.inr (.inr (.inr (.inr (.inr (.inr (.inl ⟨v, h, e⟩)))))))))))
theorem acR_stl {A A_q : Nat → Nat → Int} {p fn op1 : Int} (rw v ra : Int) (A1 : Nat → Nat → Int) (h : fn = 13) (hw : A 64 p.toNat = rw) (ha : A 60 p.toNat = ra) (ev : v = (i32 (rw + op1)).toInt) (s1 : A1 = stM A p v ra) (e : A_q = takeM A1 p) : acR A A_q p fn op1 := .inr (.inr (.inr (.inr (.inr (.inr (.inr (.inr (.inr (.inr (.inr (.inr (.inl ⟨rw, v, ra, A1, h, hw, ha, ev, s1, e⟩))))))))))))
theorem acR_stnl {A A_q : Nat → Nat → Int} {p fn op1 : Int} (ra rb v : Int) (A1 A2 : Nat → Nat → Int) (h : fn = 2 ∨ fn = 6 ∨ fn < 0 ∨ 14 ≤ fn) (ha : A 60 p.toNat = ra) (hb : A 61 p.toNat = rb) (ev : v = (i32 (ra + op1)).toInt) (s1 : A1 = stM A p v rb) (t : A2 = takeM A1 p) (e : A_q = takeM A2 p) : acR A A_q p fn op1 := .inr (.inr (.inr (.inr (.inr (.inr (.inr (.inr (.inr (.inr (.inr (.inr (.inr (⟨ra, rb, v, A1, A2, h, ha, hb, ev, s1, t, e⟩)))))))))))))

set_option maxRecDepth 20000 in
set_option maxHeartbeats 4000000 in
theorem c_act {X : jX} {dd : Nat} {c0 c1 : jC} {G : Nat → Int} {A : Nat → Nat → Int} {T : jH} {p fn op1 : Int} {m0 m1 rw rn ri ra rb : Int} (hd : 5 ≤ dd) (hW : Wk G A) (e_m0 : A 72 ((2 * p)).toNat = m0) (e_m1 : A 72 (((2 * p) + 1)).toNat = m1) (e_rw : A 64 (p).toNat = rw) (e_rn : A 66 (p).toNat = rn) (e_ri : A 63 (p).toNat = ri) (e_ra : A 60 (p).toNat = ra) (e_rb : A 61 (p).toNat = rb) (h_p : (-2147483648 : Int) ≤ p ∧ p ≤ 2147483647) (h_fn : (-2147483648 : Int) ≤ fn ∧ fn ≤ 2147483647) (h_op1 : (-2147483648 : Int) ≤ op1 ∧ op1 ≤ 2147483647) (p_0 : 0 ≤ p) (p_1 : p ≤ 5) (p_2 : 0 ≤ m0) (p_3 : m0 ≤ 1099) (p_4 : 0 ≤ m1) (p_5 : m1 ≤ 1099) (p_6 : -1000000 ≤ rw) (p_7 : rw ≤ 1000000) (p_8 : 0 ≤ rn ∨ rn ≤ -2) : wk X dd 380 [.ref 66, .int (i32 p), .int (i32 fn), .int (i32 op1)] (rV c0 c1 G A T) (fun o V_q => ∃ (G_q : Nat → Int) (A_q : Nat → Nat → Int), V_q = rV c0 c1 G_q A_q T ∧ o = .inl none ∧ Wk G_q A_q ∧ Fr [] [59, 60, 61, 62, 63, 64, 65, 66, 70, 71, 72, 73] G A G_q A_q ∧ (acR A A_q (p) (fn) (op1)) ∧ True) := by
  obtain ⟨d, rfl⟩ : ∃ d, dd = d + 1 := ⟨dd - 1, by omega⟩
  refine wk_of (e := jm380) rfl (Nat.le_of_ble_eq_true rfl) ?_
  show wj X d jm380 (0, [(0, .ref 66), (1, .int (i32 (p))), (2, .int (i32 (fn))), (3, .int (i32 (op1)))], [], rV c0 c1 G A T) _
  have hF0 : Fr [] [59, 60, 61, 62, 63, 64, 65, 66, 70, 71, 72, 73] G A G A := Fr_rf
  have b_m0 : (-2147483648 : Int) ≤ m0 ∧ m0 ≤ 2147483647 := e_m0 ▸ hW.2 72 _
  have b_m1 : (-2147483648 : Int) ≤ m1 ∧ m1 ≤ 2147483647 := e_m1 ▸ hW.2 72 _
  have b_rw : (-2147483648 : Int) ≤ rw ∧ rw ≤ 2147483647 := e_rw ▸ hW.2 64 _
  have b_rn : (-2147483648 : Int) ≤ rn ∧ rn ≤ 2147483647 := e_rn ▸ hW.2 66 _
  have b_ri : (-2147483648 : Int) ≤ ri ∧ ri ≤ 2147483647 := e_ri ▸ hW.2 63 _
  have b_ra : (-2147483648 : Int) ≤ ra ∧ ra ≤ 2147483647 := e_ra ▸ hW.2 60 _
  have b_rb : (-2147483648 : Int) ≤ rb ∧ rb ≤ 2147483647 := e_rb ▸ hW.2 61 _
  refine jx_ld (pc_q := 1) (l_q := [(0, .ref 66), (1, .int (i32 (p))), (2, .int (i32 (fn))), (3, .int (i32 (op1)))]) (st_q := [.int (i32 (fn))]) rfl (jl_iloadn rfl) ?_
  rcases (by omega : fn = 0 ∨ fn = 1 ∨ fn = 2 ∨ fn = 3 ∨ fn = 4 ∨ fn = 5 ∨ fn = 6 ∨ fn = 7 ∨ fn = 8 ∨ fn = 9 ∨ fn = 10 ∨ fn = 11 ∨ fn = 12 ∨ fn = 13 ∨ (fn < 0 ∨ 13 < fn)) with h1 | h1 | h1 | h1 | h1 | h1 | h1 | h1 | h1 | h1 | h1 | h1 | h1 | h1 | h1
  · refine jx_swe (z := 0) (tg := 72) h1 rfl rfl rfl rfl ?_
    have _q : True := trivial
    refine jx_ld (pc_q := 73) (l_q := [(0, .ref 66), (1, .int (i32 (p))), (2, .int (i32 (fn))), (3, .int (i32 (op1)))]) (st_q := [.ref 66]) rfl (jl_aloadn rfl) ?_
    refine jr_get (pc_q := 76) (i := 94) (v := .ref 130) rfl rfl (by decide) rfl rfl ?_
    refine jx_ld (pc_q := 77) (l_q := [(0, .ref 66), (1, .int (i32 (p))), (2, .int (i32 (fn))), (3, .int (i32 (op1)))]) (st_q := [.int (i32 (p)), .ref 130]) rfl (jl_iloadn rfl) ?_
    refine jx_ld (pc_q := 78) (l_q := [(0, .ref 66), (1, .int (i32 (p))), (2, .int (i32 (fn))), (3, .int (i32 (op1)))]) (st_q := [.ref 66, .int (i32 (p)), .ref 130]) rfl (jl_aloadn rfl) ?_
    refine jr_get (pc_q := 81) (i := 94) (v := .ref 130) rfl rfl (by decide) rfl rfl ?_
    refine jx_ld (pc_q := 82) (l_q := [(0, .ref 66), (1, .int (i32 (p))), (2, .int (i32 (fn))), (3, .int (i32 (op1)))]) (st_q := [.int (i32 (p)), .ref 130, .int (i32 (p)), .ref 130]) rfl (jl_iloadn rfl) ?_
    refine jr_ldv (pc_q := 83) (i := 63) (m := 6) (z := p) (y := ri) rfl (by decide) rfl (by decide) (by omega) (by omega) rfl (show A 63 (p).toNat = ri from (e_ri)) ?_
    refine jx_ld (pc_q := 84) (l_q := [(0, .ref 66), (1, .int (i32 (p))), (2, .int (i32 (fn))), (3, .int (i32 (op1)))]) (st_q := [.int (i32 (op1)), .int (i32 (ri)), .int (i32 (p)), .ref 130]) rfl (jl_iloadn rfl) ?_
    refine jx_add (pc_q := 85) rfl rfl ?_
    obtain ⟨v2, ev2⟩ : ∃ z, z = (i32 (ri + op1)).toInt := ⟨_, rfl⟩; have fv2 : i32 (ri + op1) = i32 v2 := (by rw [ev2]; exact (i32_of _).symm); rw [fv2]; have rv2 : (-2147483648 : Int) ≤ v2 ∧ v2 ≤ 2147483647 := ev2 ▸ i32_rg _
    refine jr_st (pc_q := 86) (i := 63) (m := 6) (z := p) (y := v2) rfl (by decide) rfl (by decide) (by omega) (by omega) rfl ?_
    have hW4 : Wk G (uA A 63 (p).toNat (v2)) := Wk_a hW (show (-2147483648 : Int) ≤ v2 by omega) (show v2 ≤ (2147483647 : Int) by omega)
    have hF5 := Fr_a (z := v2) (k := 63) (n := (p).toNat) hF0 (by decide)
    obtain ⟨A3, eA3⟩ : ∃ q, q = uA A 63 (p).toNat (v2) := ⟨_, rfl⟩
    rw [← eA3]
    rw [← eA3] at hW4 hF5
    have q6 : A3 63 (p).toNat = v2 := by rw [eA3]; exact uA_eq
    refine jx_ld (pc_q := 87) (l_q := [(0, .ref 66), (1, .int (i32 (p))), (2, .int (i32 (fn))), (3, .int (i32 (op1)))]) (st_q := [.ref 66]) rfl (jl_aloadn rfl) ?_
    refine jr_get (pc_q := 90) (i := 97) (v := .ref 133) rfl rfl (by decide) rfl rfl ?_
    refine jx_ld (pc_q := 91) (l_q := [(0, .ref 66), (1, .int (i32 (p))), (2, .int (i32 (fn))), (3, .int (i32 (op1)))]) (st_q := [.int (i32 (p)), .ref 133]) rfl (jl_iloadn rfl) ?_
    refine jr_ldv (pc_q := 92) (i := 66) (m := 6) (z := p) (y := rn) rfl (by decide) rfl (by decide) (by omega) (by omega) rfl (show A3 66 (p).toNat = rn from (congrFun ((congrFun eA3 66).trans (uA_ne (by decide))) _).trans (e_rn)) ?_
    refine jx_ar (pc_q := 93) (st_q := [.int (i32 (1)), .int (i32 (rn))]) rfl rfl rfl rfl ?_
    refine jx_and (pc_q := 94) rfl rfl ?_
    obtain ⟨b7, eb7⟩ : ∃ z, z = (i32 (rn) &&& i32 (1)).toInt := ⟨_, rfl⟩
    rw [← eb7]
    have rb7 : (-2147483648 : Int) ≤ b7 ∧ b7 ≤ 2147483647 := eb7 ▸ i32_rg _
    have hb7 := (show b7 = (i32 rn &&& i32 1).toInt from eb7).trans (and_1f (by omega) (by omega))
    refine jx_ar (pc_q := 95) (st_q := [.int (i32 (1)), .int (i32 (b7))]) rfl rfl rfl rfl ?_
    refine jx_icmp_ne (pc_q := 98) (tg := 474) rfl rfl rfl (Int.le_trans (by decide : (-2147483648 : Int) ≤ -2147483648) rb7.1) (Int.le_trans rb7.2 (by decide : (2147483647 : Int) ≤ 2147483647)) (by decide) (by decide) (fun h8 => ?_) (fun h8 => ?_)
    · have _q := h8
      refine jx_rt (v := none) rfl rfl rfl rfl rfl rfl ?_
      exact ⟨_, _, rfl, rfl, hW4, hF5, (acR_jmp _ (by omega) e_ri (eA3.trans (by rw [ev2]))), trivial⟩
    · have _q := h8
      refine jx_ld (pc_q := 99) (l_q := [(0, .ref 66), (1, .int (i32 (p))), (2, .int (i32 (fn))), (3, .int (i32 (op1)))]) (st_q := [.ref 66]) rfl (jl_aloadn rfl) ?_
      refine jr_get (pc_q := 102) (i := 101) (v := .ref 137) rfl rfl (by decide) rfl rfl ?_
      refine jx_ld (pc_q := 103) (l_q := [(0, .ref 66), (1, .int (i32 (p))), (2, .int (i32 (fn))), (3, .int (i32 (op1)))]) (st_q := [.int (i32 (p)), .ref 137]) rfl (jl_iloadn rfl) ?_
      have b9 : (-2147483648 : Int) ≤ A 70 (p).toNat ∧ A 70 (p).toNat ≤ 2147483647 := hW.2 70 _
      refine jr_ldv (pc_q := 104) (i := 70) (m := 6) (z := p) (y := A 70 (p).toNat) rfl (by decide) rfl (by decide) (by omega) (by omega) rfl (show A3 70 (p).toNat = A 70 (p).toNat from (congrFun ((congrFun eA3 70).trans (uA_ne (by decide))) _)) ?_
      refine jx_ar (pc_q := 106) (st_q := [.int (i32 (64)), .int (i32 (A 70 (p).toNat))]) rfl rfl rfl rfl ?_
      refine jx_icmp_lt (pc_q := 109) (tg := 474) rfl rfl rfl (Int.le_trans (by decide : (-2147483648 : Int) ≤ -2147483648) b9.1) (Int.le_trans b9.2 (by decide : (2147483647 : Int) ≤ 2147483647)) (by decide) (by decide) (fun h10 => ?_) (fun h10 => ?_)
      · have _q := h10
        refine jx_rt (v := none) rfl rfl rfl rfl rfl rfl ?_
        exact ⟨_, _, rfl, rfl, hW4, hF5, (acR_jmp _ (by omega) e_ri (eA3.trans (by rw [ev2]))), trivial⟩
      · have _q := h10
        refine jx_ld (pc_q := 110) (l_q := [(0, .ref 66), (1, .int (i32 (p))), (2, .int (i32 (fn))), (3, .int (i32 (op1)))]) (st_q := [.ref 66]) rfl (jl_aloadn rfl) ?_
        refine jr_get (pc_q := 113) (i := 103) (v := .ref 139) rfl rfl (by decide) rfl rfl ?_
        refine jx_ar (pc_q := 114) (st_q := [.int (i32 (2)), .ref 139]) rfl rfl rfl rfl ?_
        refine jx_ld (pc_q := 115) (l_q := [(0, .ref 66), (1, .int (i32 (p))), (2, .int (i32 (fn))), (3, .int (i32 (op1)))]) (st_q := [.int (i32 (p)), .int (i32 (2)), .ref 139]) rfl (jl_iloadn rfl) ?_
        refine jx_mul (pc_q := 116) rfl rfl ?_
        refine jx_ar (pc_q := 117) (st_q := [.int (i32 (1)), .int (i32 ((2 * p))), .ref 139]) rfl rfl rfl rfl ?_
        refine jx_add (pc_q := 118) rfl rfl ?_
        refine jr_ldv (pc_q := 119) (i := 72) (m := 12) (z := ((2 * p) + 1)) (y := m1) rfl (by decide) rfl (by decide) (by omega) (by omega) rfl (show A3 72 (((2 * p) + 1)).toNat = m1 from (congrFun ((congrFun eA3 72).trans (uA_ne (by decide))) _).trans (e_m1)) ?_
        refine jx_if_le (pc_q := 122) (tg := 474) rfl rfl rfl (Int.le_trans (by decide : (-2147483648 : Int) ≤ -2147483648) b_m1.1) (Int.le_trans b_m1.2 (by decide : (2147483647 : Int) ≤ 2147483647)) (fun h11 => ?_) (fun h11 => ?_)
        · have _q := h11
          refine jx_rt (v := none) rfl rfl rfl rfl rfl rfl ?_
          exact ⟨_, _, rfl, rfl, hW4, hF5, (acR_jmp _ (by omega) e_ri (eA3.trans (by rw [ev2]))), trivial⟩
        · have _q := h11
          refine jx_ld (pc_q := 123) (l_q := [(0, .ref 66), (1, .int (i32 (p))), (2, .int (i32 (fn))), (3, .int (i32 (op1)))]) (st_q := [.ref 66]) rfl (jl_aloadn rfl) ?_
          refine jx_ld (pc_q := 124) (l_q := [(0, .ref 66), (1, .int (i32 (p))), (2, .int (i32 (fn))), (3, .int (i32 (op1)))]) (st_q := [.int (i32 (p)), .ref 66]) rfl (jl_iloadn rfl) ?_
          refine jx_ld (pc_q := 125) (l_q := [(0, .ref 66), (1, .int (i32 (p))), (2, .int (i32 (fn))), (3, .int (i32 (op1)))]) (st_q := [.ref 66, .int (i32 (p)), .ref 66]) rfl (jl_aloadn rfl) ?_
          refine jr_get (pc_q := 128) (i := 95) (v := .ref 131) rfl rfl (by decide) rfl rfl ?_
          refine jx_ld (pc_q := 129) (l_q := [(0, .ref 66), (1, .int (i32 (p))), (2, .int (i32 (fn))), (3, .int (i32 (op1)))]) (st_q := [.int (i32 (p)), .ref 131, .int (i32 (p)), .ref 66]) rfl (jl_iloadn rfl) ?_
          refine jr_ldv (pc_q := 130) (i := 64) (m := 6) (z := p) (y := rw) rfl (by decide) rfl (by decide) (by omega) (by omega) rfl (show A3 64 (p).toNat = rw from (congrFun ((congrFun eA3 64).trans (uA_ne (by decide))) _).trans (e_rw)) ?_
          refine jx_ar (pc_q := 131) (st_q := [.int (i32 (1)), .int (i32 (rw)), .int (i32 (p)), .ref 66]) rfl rfl rfl rfl ?_
          refine jx_sub (pc_q := 132) rfl rfl ?_
          refine jx_ld (pc_q := 133) (l_q := [(0, .ref 66), (1, .int (i32 (p))), (2, .int (i32 (fn))), (3, .int (i32 (op1)))]) (st_q := [.ref 66, .int (i32 ((rw - 1))), .int (i32 (p)), .ref 66]) rfl (jl_aloadn rfl) ?_
          refine jr_get (pc_q := 136) (i := 94) (v := .ref 130) rfl rfl (by decide) rfl rfl ?_
          refine jx_ld (pc_q := 137) (l_q := [(0, .ref 66), (1, .int (i32 (p))), (2, .int (i32 (fn))), (3, .int (i32 (op1)))]) (st_q := [.int (i32 (p)), .ref 130, .int (i32 ((rw - 1))), .int (i32 (p)), .ref 66]) rfl (jl_iloadn rfl) ?_
          refine jr_ldv (pc_q := 138) (i := 63) (m := 6) (z := p) (y := v2) rfl (by decide) rfl (by decide) (by omega) (by omega) rfl (show A3 63 (p).toNat = v2 from (q6)) ?_
          refine jx_vr (pc_q := 141) (as := [.int (i32 (p)), .int (i32 ((rw - 1))), .int (i32 (v2))]) (st := []) rfl rfl rfl rfl ⟨rfl, rfl, Nat.le_of_ble_eq_true rfl⟩ rfl rfl (c_store (dd := d) (hd := by omega) (hW := hW4) (p := p) (a := (rw - 1)) (v := v2)   (h_p := ⟨(Int.le_trans (by decide : (-2147483648 : Int) ≤ -2147483648) h_p.1), (Int.le_trans h_p.2 (by decide : (2147483647 : Int) ≤ 2147483647))⟩) (h_a := ⟨(by omega), (by omega)⟩) (h_v := ⟨(Int.le_trans (by decide : (-2147483648 : Int) ≤ -2147483648) rv2.1), (Int.le_trans rv2.2 (by decide : (2147483647 : Int) ≤ 2147483647))⟩)  (p_0 := by omega) (p_1 := by omega)) (fun o V_q hq => ?_)
          obtain ⟨G12, A13, rfl, rfl, hW14, hF15, p16, -⟩ := hq
          have hF18 := Fr_tr hF5 hF15 (Fr_sub (by decide)) (Fr_sub (by decide))
          refine .inl ⟨rfl, ?_⟩
          refine jx_ld (pc_q := 142) (l_q := [(0, .ref 66), (1, .int (i32 (p))), (2, .int (i32 (fn))), (3, .int (i32 (op1)))]) (st_q := [.ref 66]) rfl (jl_aloadn rfl) ?_
          refine jr_get (pc_q := 145) (i := 97) (v := .ref 133) rfl rfl (by decide) rfl rfl ?_
          refine jx_ld (pc_q := 146) (l_q := [(0, .ref 66), (1, .int (i32 (p))), (2, .int (i32 (fn))), (3, .int (i32 (op1)))]) (st_q := [.int (i32 (p)), .ref 133]) rfl (jl_iloadn rfl) ?_
          refine jr_ldv (pc_q := 147) (i := 66) (m := 6) (z := p) (y := rn) rfl (by decide) rfl (by decide) (by omega) (by omega) rfl (show A13 66 (p).toNat = rn from (congrFun ((hF15.2 66 rfl).trans ((congrFun eA3 66).trans (uA_ne (by decide)))) _).trans (e_rn)) ?_
          refine jx_ld (pc_q := 149) (l_q := jSto1 [(0, .ref 66), (1, .int (i32 (p))), (2, .int (i32 (fn))), (3, .int (i32 (op1)))] 4 (.int (i32 (rn)))) (st_q := []) rfl rfl ?_
          obtain ⟨L19, eL19⟩ : ∃ q, q = jSto1 [(0, .ref 66), (1, .int (i32 (p))), (2, .int (i32 (fn))), (3, .int (i32 (op1)))] 4 (.int (i32 (rn))) := ⟨_, rfl⟩
          rw [← eL19]
          have gL19_0 : jGet L19 0 = some (.ref 66) := eL19 ▸ jg_ne (by decide) (rfl : jGet [(0, .ref 66), (1, .int (i32 (p))), (2, .int (i32 (fn))), (3, .int (i32 (op1)))] 0 = some (.ref 66)) rfl
          have gL19_1 : jGet L19 1 = some (.int (i32 (p))) := eL19 ▸ jg_ne (by decide) (rfl : jGet [(0, .ref 66), (1, .int (i32 (p))), (2, .int (i32 (fn))), (3, .int (i32 (op1)))] 1 = some (.int (i32 (p)))) rfl
          have gL19_2 : jGet L19 2 = some (.int (i32 (fn))) := eL19 ▸ jg_ne (by decide) (rfl : jGet [(0, .ref 66), (1, .int (i32 (p))), (2, .int (i32 (fn))), (3, .int (i32 (op1)))] 2 = some (.int (i32 (fn)))) rfl
          have gL19_3 : jGet L19 3 = some (.int (i32 (op1))) := eL19 ▸ jg_ne (by decide) (rfl : jGet [(0, .ref 66), (1, .int (i32 (p))), (2, .int (i32 (fn))), (3, .int (i32 (op1)))] 3 = some (.int (i32 (op1)))) rfl
          have gL19_4 : jGet L19 4 = some (.int (i32 (rn))) := eL19 ▸ jg_eq
          have hj0 : A13 72 (2 * p).toNat = m0 := (congrFun ((hF15.2 72 rfl).trans ((congrFun eA3 72).trans (uA_ne (by decide)))) _).trans (e_m0); have hj1 : A13 72 (2 * p + 1).toNat = m1 := (congrFun ((hF15.2 72 rfl).trans ((congrFun eA3 72).trans (uA_ne (by decide)))) _).trans (e_m1); have hjr : A13 66 (p).toNat = rn := (congrFun ((hF15.2 66 rfl).trans ((congrFun eA3 66).trans (uA_ne (by decide)))) _).trans (e_rn); have hjb := mr_b (b := rn % 2) hj0 hj1 (by omega) (by omega) (by omega)
          refine jx_ld (pc_q := 150) (l_q := L19) (st_q := [.ref 66]) rfl (jl_aloadn gL19_0) ?_
          refine jx_ld (pc_q := 151) (l_q := L19) (st_q := [.int (i32 (p)), .ref 66]) rfl (jl_iloadn gL19_1) ?_
          refine jx_ld (pc_q := 153) (l_q := L19) (st_q := [.int (i32 (rn)), .int (i32 (p)), .ref 66]) rfl (jl_iload gL19_4) ?_
          refine jx_vr (pc_q := 156) (as := [.int (i32 (p)), .int (i32 (rn))]) (st := []) rfl rfl rfl rfl ⟨rfl, rfl, Nat.le_of_ble_eq_true rfl⟩ rfl rfl (c_makeReady (dd := d) (hd := by omega) (hW := hW14) (p := p) (d2 := rn) (m0 := m0) (e_m0 := show A13 72 ((2 * p)).toNat = m0 from (congrFun ((hF15.2 72 rfl).trans ((congrFun eA3 72).trans (uA_ne (by decide)))) _).trans (e_m0)) (m1 := m1) (e_m1 := show A13 72 (((2 * p) + 1)).toNat = m1 from (congrFun ((hF15.2 72 rfl).trans ((congrFun eA3 72).trans (uA_ne (by decide)))) _).trans (e_m1))  (h_p := ⟨(Int.le_trans (by decide : (-2147483648 : Int) ≤ -2147483648) h_p.1), (Int.le_trans h_p.2 (by decide : (2147483647 : Int) ≤ 2147483647))⟩) (h_d2 := ⟨(Int.le_trans (by decide : (-2147483648 : Int) ≤ -2147483648) b_rn.1), (Int.le_trans b_rn.2 (by decide : (2147483647 : Int) ≤ 2147483647))⟩)  (p_0 := by omega) (p_1 := by omega) (p_2 := by omega) (p_3 := by omega) (p_4 := by omega) (p_5 := by omega)) (fun o V_q hq => ?_)
          obtain ⟨G20, A21, rfl, rfl, hW22, hF23, p24, -⟩ := hq
          have hF26 := Fr_tr hF18 hF23 (Fr_sub (by decide)) (Fr_sub (by decide))
          refine .inl ⟨rfl, ?_⟩
          have hj2 := mk_72 p24 (by rw [hjr]; omega) hjb hj0 (by omega); have hj3 := mk_72 p24 (by rw [hjr]; omega) hjb hj1 (by omega)
          refine jx_ld (pc_q := 157) (l_q := L19) (st_q := [.ref 66]) rfl (jl_aloadn gL19_0) ?_
          refine jx_ld (pc_q := 158) (l_q := L19) (st_q := [.int (i32 (p)), .ref 66]) rfl (jl_iloadn gL19_1) ?_
          have b27 : (-2147483648 : Int) ≤ A21 72 ((2 * p)).toNat ∧ A21 72 ((2 * p)).toNat ≤ 2147483647 := hW22.2 72 _
          have b28 : (-2147483648 : Int) ≤ A21 72 (((2 * p) + 1)).toNat ∧ A21 72 (((2 * p) + 1)).toNat ≤ 2147483647 := hW22.2 72 _
          refine jx_vr (pc_q := 161) (as := [.int (i32 (p))]) (st := []) rfl rfl rfl rfl ⟨rfl, rfl, Nat.le_of_ble_eq_true rfl⟩ rfl rfl (c_dispatch (dd := d) (hd := by omega) (hW := hW22) (p := p) (m0 := A21 72 ((2 * p)).toNat) (e_m0 := show A21 72 ((2 * p)).toNat = A21 72 ((2 * p)).toNat from rfl) (m1 := A21 72 (((2 * p) + 1)).toNat) (e_m1 := show A21 72 (((2 * p) + 1)).toNat = A21 72 (((2 * p) + 1)).toNat from rfl)  (h_p := ⟨(Int.le_trans (by decide : (-2147483648 : Int) ≤ -2147483648) h_p.1), (Int.le_trans h_p.2 (by decide : (2147483647 : Int) ≤ 2147483647))⟩)  (p_0 := by omega) (p_1 := by omega) (p_2 := by omega) (p_3 := by omega) (p_4 := by omega) (p_5 := by omega)) (fun o V_q hq => ?_)
          obtain ⟨G29, A30, rfl, rfl, hW31, hF32, p33, -⟩ := hq
          have hF35 := Fr_tr hF26 hF32 (Fr_sub (by decide)) (Fr_sub (by decide))
          refine .inl ⟨rfl, ?_⟩
          refine jx_go (tg := 474) rfl rfl ?_
          refine jx_rt (v := none) rfl rfl rfl rfl rfl rfl ?_
          exact ⟨_, _, rfl, rfl, hW31, hF35, (acR_slc _ _ _ _ _ _ _ (by omega) e_ri e_rw e_rn (by omega) ev2 eA3 p16 p24 p33), trivial⟩
  · refine jx_swe (z := 1) (tg := 164) h1 rfl rfl rfl rfl ?_
    have _q : True := trivial
    refine jx_ld (pc_q := 165) (l_q := [(0, .ref 66), (1, .int (i32 (p))), (2, .int (i32 (fn))), (3, .int (i32 (op1)))]) (st_q := [.ref 66]) rfl (jl_aloadn rfl) ?_
    refine jx_ld (pc_q := 166) (l_q := [(0, .ref 66), (1, .int (i32 (p))), (2, .int (i32 (fn))), (3, .int (i32 (op1)))]) (st_q := [.int (i32 (p)), .ref 66]) rfl (jl_iloadn rfl) ?_
    refine jx_ld (pc_q := 167) (l_q := [(0, .ref 66), (1, .int (i32 (p))), (2, .int (i32 (fn))), (3, .int (i32 (op1)))]) (st_q := [.ref 66, .int (i32 (p)), .ref 66]) rfl (jl_aloadn rfl) ?_
    refine jr_get (pc_q := 170) (i := 95) (v := .ref 131) rfl rfl (by decide) rfl rfl ?_
    refine jx_ld (pc_q := 171) (l_q := [(0, .ref 66), (1, .int (i32 (p))), (2, .int (i32 (fn))), (3, .int (i32 (op1)))]) (st_q := [.int (i32 (p)), .ref 131, .int (i32 (p)), .ref 66]) rfl (jl_iloadn rfl) ?_
    refine jr_ldv (pc_q := 172) (i := 64) (m := 6) (z := p) (y := rw) rfl (by decide) rfl (by decide) (by omega) (by omega) rfl (show A 64 (p).toNat = rw from (e_rw)) ?_
    refine jx_ld (pc_q := 173) (l_q := [(0, .ref 66), (1, .int (i32 (p))), (2, .int (i32 (fn))), (3, .int (i32 (op1)))]) (st_q := [.int (i32 (op1)), .int (i32 (rw)), .int (i32 (p)), .ref 66]) rfl (jl_iloadn rfl) ?_
    refine jx_add (pc_q := 174) rfl rfl ?_
    obtain ⟨v36, ev36⟩ : ∃ z, z = (i32 (rw + op1)).toInt := ⟨_, rfl⟩; have fv36 : i32 (rw + op1) = i32 v36 := (by rw [ev36]; exact (i32_of _).symm); rw [fv36]; have rv36 : (-2147483648 : Int) ≤ v36 ∧ v36 ≤ 2147483647 := ev36 ▸ i32_rg _
    refine jx_vr (pc_q := 177) (as := [.int (i32 (p)), .int (i32 (v36))]) (st := []) rfl rfl rfl rfl ⟨rfl, rfl, Nat.le_of_ble_eq_true rfl⟩ rfl rfl (c_come (dd := d) (hd := by omega) (hW := hW) (p := p) (v := v36)   (h_p := ⟨(Int.le_trans (by decide : (-2147483648 : Int) ≤ -2147483648) h_p.1), (Int.le_trans h_p.2 (by decide : (2147483647 : Int) ≤ 2147483647))⟩) (h_v := ⟨(Int.le_trans (by decide : (-2147483648 : Int) ≤ -2147483648) rv36.1), (Int.le_trans rv36.2 (by decide : (2147483647 : Int) ≤ 2147483647))⟩)  (p_0 := by omega) (p_1 := by omega)) (fun o V_q hq => ?_)
    obtain ⟨G37, A38, rfl, rfl, hW39, hF40, p41, -⟩ := hq
    have hF43 := Fr_tr hF0 hF40 (Fr_sub (by decide)) (Fr_sub (by decide))
    refine .inl ⟨rfl, ?_⟩
    refine jx_go (tg := 474) rfl rfl ?_
    refine jx_rt (v := none) rfl rfl rfl rfl rfl rfl ?_
    exact ⟨_, _, rfl, rfl, hW39, hF43, (acR_ldlp _ (by omega) e_rw (p41.trans (by rw [ev36]))), trivial⟩
  · refine jx_swe (z := 2) (tg := 445) h1 rfl rfl rfl rfl ?_
    have _q : True := trivial
    refine jx_ld (pc_q := 446) (l_q := [(0, .ref 66), (1, .int (i32 (p))), (2, .int (i32 (fn))), (3, .int (i32 (op1)))]) (st_q := [.ref 66]) rfl (jl_aloadn rfl) ?_
    refine jx_ld (pc_q := 447) (l_q := [(0, .ref 66), (1, .int (i32 (p))), (2, .int (i32 (fn))), (3, .int (i32 (op1)))]) (st_q := [.int (i32 (p)), .ref 66]) rfl (jl_iloadn rfl) ?_
    refine jx_ld (pc_q := 448) (l_q := [(0, .ref 66), (1, .int (i32 (p))), (2, .int (i32 (fn))), (3, .int (i32 (op1)))]) (st_q := [.ref 66, .int (i32 (p)), .ref 66]) rfl (jl_aloadn rfl) ?_
    refine jr_get (pc_q := 451) (i := 91) (v := .ref 127) rfl rfl (by decide) rfl rfl ?_
    refine jx_ld (pc_q := 452) (l_q := [(0, .ref 66), (1, .int (i32 (p))), (2, .int (i32 (fn))), (3, .int (i32 (op1)))]) (st_q := [.int (i32 (p)), .ref 127, .int (i32 (p)), .ref 66]) rfl (jl_iloadn rfl) ?_
    refine jr_ldv (pc_q := 453) (i := 60) (m := 6) (z := p) (y := ra) rfl (by decide) rfl (by decide) (by omega) (by omega) rfl (show A 60 (p).toNat = ra from (e_ra)) ?_
    refine jx_ld (pc_q := 454) (l_q := [(0, .ref 66), (1, .int (i32 (p))), (2, .int (i32 (fn))), (3, .int (i32 (op1)))]) (st_q := [.int (i32 (op1)), .int (i32 (ra)), .int (i32 (p)), .ref 66]) rfl (jl_iloadn rfl) ?_
    refine jx_add (pc_q := 455) rfl rfl ?_
    obtain ⟨v44, ev44⟩ : ∃ z, z = (i32 (ra + op1)).toInt := ⟨_, rfl⟩; have fv44 : i32 (ra + op1) = i32 v44 := (by rw [ev44]; exact (i32_of _).symm); rw [fv44]; have rv44 : (-2147483648 : Int) ≤ v44 ∧ v44 ≤ 2147483647 := ev44 ▸ i32_rg _
    refine jx_ld (pc_q := 456) (l_q := [(0, .ref 66), (1, .int (i32 (p))), (2, .int (i32 (fn))), (3, .int (i32 (op1)))]) (st_q := [.ref 66, .int (i32 (v44)), .int (i32 (p)), .ref 66]) rfl (jl_aloadn rfl) ?_
    refine jr_get (pc_q := 459) (i := 92) (v := .ref 128) rfl rfl (by decide) rfl rfl ?_
    refine jx_ld (pc_q := 460) (l_q := [(0, .ref 66), (1, .int (i32 (p))), (2, .int (i32 (fn))), (3, .int (i32 (op1)))]) (st_q := [.int (i32 (p)), .ref 128, .int (i32 (v44)), .int (i32 (p)), .ref 66]) rfl (jl_iloadn rfl) ?_
    refine jr_ldv (pc_q := 461) (i := 61) (m := 6) (z := p) (y := rb) rfl (by decide) rfl (by decide) (by omega) (by omega) rfl (show A 61 (p).toNat = rb from (e_rb)) ?_
    refine jx_vr (pc_q := 464) (as := [.int (i32 (p)), .int (i32 (v44)), .int (i32 (rb))]) (st := []) rfl rfl rfl rfl ⟨rfl, rfl, Nat.le_of_ble_eq_true rfl⟩ rfl rfl (c_store (dd := d) (hd := by omega) (hW := hW) (p := p) (a := v44) (v := rb)   (h_p := ⟨(Int.le_trans (by decide : (-2147483648 : Int) ≤ -2147483648) h_p.1), (Int.le_trans h_p.2 (by decide : (2147483647 : Int) ≤ 2147483647))⟩) (h_a := ⟨(Int.le_trans (by decide : (-2147483648 : Int) ≤ -2147483648) rv44.1), (Int.le_trans rv44.2 (by decide : (2147483647 : Int) ≤ 2147483647))⟩) (h_v := ⟨(Int.le_trans (by decide : (-2147483648 : Int) ≤ -2147483648) b_rb.1), (Int.le_trans b_rb.2 (by decide : (2147483647 : Int) ≤ 2147483647))⟩)  (p_0 := by omega) (p_1 := by omega)) (fun o V_q hq => ?_)
    obtain ⟨G45, A46, rfl, rfl, hW47, hF48, p49, -⟩ := hq
    have hF51 := Fr_tr hF0 hF48 (Fr_sub (by decide)) (Fr_sub (by decide))
    refine .inl ⟨rfl, ?_⟩
    refine jx_ld (pc_q := 465) (l_q := [(0, .ref 66), (1, .int (i32 (p))), (2, .int (i32 (fn))), (3, .int (i32 (op1)))]) (st_q := [.ref 66]) rfl (jl_aloadn rfl) ?_
    refine jx_ld (pc_q := 466) (l_q := [(0, .ref 66), (1, .int (i32 (p))), (2, .int (i32 (fn))), (3, .int (i32 (op1)))]) (st_q := [.int (i32 (p)), .ref 66]) rfl (jl_iloadn rfl) ?_
    refine jx_vr (pc_q := 469) (as := [.int (i32 (p))]) (st := []) rfl rfl rfl rfl ⟨rfl, rfl, Nat.le_of_ble_eq_true rfl⟩ rfl rfl (c_take (dd := d) (hd := by omega) (hW := hW47) (p := p)   (h_p := ⟨(Int.le_trans (by decide : (-2147483648 : Int) ≤ -2147483648) h_p.1), (Int.le_trans h_p.2 (by decide : (2147483647 : Int) ≤ 2147483647))⟩)  (p_0 := by omega) (p_1 := by omega)) (fun o V_q hq => ?_)
    obtain ⟨G52, A53, rfl, rfl, hW54, hF55, p56, -⟩ := hq
    have hF58 := Fr_tr hF51 hF55 (Fr_sub (by decide)) (Fr_sub (by decide))
    refine .inl ⟨rfl, ?_⟩
    refine jx_ld (pc_q := 470) (l_q := [(0, .ref 66), (1, .int (i32 (p))), (2, .int (i32 (fn))), (3, .int (i32 (op1)))]) (st_q := [.ref 66]) rfl (jl_aloadn rfl) ?_
    refine jx_ld (pc_q := 471) (l_q := [(0, .ref 66), (1, .int (i32 (p))), (2, .int (i32 (fn))), (3, .int (i32 (op1)))]) (st_q := [.int (i32 (p)), .ref 66]) rfl (jl_iloadn rfl) ?_
    refine jx_vr (pc_q := 474) (as := [.int (i32 (p))]) (st := []) rfl rfl rfl rfl ⟨rfl, rfl, Nat.le_of_ble_eq_true rfl⟩ rfl rfl (c_take (dd := d) (hd := by omega) (hW := hW54) (p := p)   (h_p := ⟨(Int.le_trans (by decide : (-2147483648 : Int) ≤ -2147483648) h_p.1), (Int.le_trans h_p.2 (by decide : (2147483647 : Int) ≤ 2147483647))⟩)  (p_0 := by omega) (p_1 := by omega)) (fun o V_q hq => ?_)
    obtain ⟨G59, A60, rfl, rfl, hW61, hF62, p63, -⟩ := hq
    have hF65 := Fr_tr hF58 hF62 (Fr_sub (by decide)) (Fr_sub (by decide))
    refine .inl ⟨rfl, ?_⟩
    refine jx_rt (v := none) rfl rfl rfl rfl rfl rfl ?_
    exact ⟨_, _, rfl, rfl, hW61, hF65, (acR_stnl _ _ _ _ _ (by omega) e_ra e_rb ev44 p49 p56 p63), trivial⟩
  · refine jx_swe (z := 3) (tg := 180) h1 rfl rfl rfl rfl ?_
    have _q : True := trivial
    refine jx_ld (pc_q := 181) (l_q := [(0, .ref 66), (1, .int (i32 (p))), (2, .int (i32 (fn))), (3, .int (i32 (op1)))]) (st_q := [.ref 66]) rfl (jl_aloadn rfl) ?_
    refine jr_get (pc_q := 184) (i := 91) (v := .ref 127) rfl rfl (by decide) rfl rfl ?_
    refine jx_ld (pc_q := 185) (l_q := [(0, .ref 66), (1, .int (i32 (p))), (2, .int (i32 (fn))), (3, .int (i32 (op1)))]) (st_q := [.int (i32 (p)), .ref 127]) rfl (jl_iloadn rfl) ?_
    refine jx_ld (pc_q := 186) (l_q := [(0, .ref 66), (1, .int (i32 (p))), (2, .int (i32 (fn))), (3, .int (i32 (op1)))]) (st_q := [.ref 66, .int (i32 (p)), .ref 127]) rfl (jl_aloadn rfl) ?_
    refine jx_ld (pc_q := 187) (l_q := [(0, .ref 66), (1, .int (i32 (p))), (2, .int (i32 (fn))), (3, .int (i32 (op1)))]) (st_q := [.int (i32 (p)), .ref 66, .int (i32 (p)), .ref 127]) rfl (jl_iloadn rfl) ?_
    refine jx_ld (pc_q := 188) (l_q := [(0, .ref 66), (1, .int (i32 (p))), (2, .int (i32 (fn))), (3, .int (i32 (op1)))]) (st_q := [.ref 66, .int (i32 (p)), .ref 66, .int (i32 (p)), .ref 127]) rfl (jl_aloadn rfl) ?_
    refine jr_get (pc_q := 191) (i := 91) (v := .ref 127) rfl rfl (by decide) rfl rfl ?_
    refine jx_ld (pc_q := 192) (l_q := [(0, .ref 66), (1, .int (i32 (p))), (2, .int (i32 (fn))), (3, .int (i32 (op1)))]) (st_q := [.int (i32 (p)), .ref 127, .int (i32 (p)), .ref 66, .int (i32 (p)), .ref 127]) rfl (jl_iloadn rfl) ?_
    refine jr_ldv (pc_q := 193) (i := 60) (m := 6) (z := p) (y := ra) rfl (by decide) rfl (by decide) (by omega) (by omega) rfl (show A 60 (p).toNat = ra from (e_ra)) ?_
    refine jx_ld (pc_q := 194) (l_q := [(0, .ref 66), (1, .int (i32 (p))), (2, .int (i32 (fn))), (3, .int (i32 (op1)))]) (st_q := [.int (i32 (op1)), .int (i32 (ra)), .int (i32 (p)), .ref 66, .int (i32 (p)), .ref 127]) rfl (jl_iloadn rfl) ?_
    refine jx_add (pc_q := 195) rfl rfl ?_
    obtain ⟨v66, ev66⟩ : ∃ z, z = (i32 (ra + op1)).toInt := ⟨_, rfl⟩; have fv66 : i32 (ra + op1) = i32 v66 := (by rw [ev66]; exact (i32_of _).symm); rw [fv66]; have rv66 : (-2147483648 : Int) ≤ v66 ∧ v66 ≤ 2147483647 := ev66 ▸ i32_rg _
    refine jx_vr (pc_q := 198) (as := [.int (i32 (p)), .int (i32 (v66))]) (st := [.int (i32 (p)), .ref 127]) rfl rfl rfl rfl ⟨rfl, rfl, Nat.le_of_ble_eq_true rfl⟩ rfl rfl (c_load (dd := d) (hd := by omega) (hW := hW) (p := p) (a := v66)   (h_p := ⟨(Int.le_trans (by decide : (-2147483648 : Int) ≤ -2147483648) h_p.1), (Int.le_trans h_p.2 (by decide : (2147483647 : Int) ≤ 2147483647))⟩) (h_a := ⟨(Int.le_trans (by decide : (-2147483648 : Int) ≤ -2147483648) rv66.1), (Int.le_trans rv66.2 (by decide : (2147483647 : Int) ≤ 2147483647))⟩)  (p_0 := by omega) (p_1 := by omega)) (fun o V_q hq => ?_)
    obtain ⟨r67, rfl, rfl, b68, p69, -⟩ := hq
    refine .inr ⟨_, rfl, ?_⟩
    refine jr_st (pc_q := 199) (i := 60) (m := 6) (z := p) (y := r67) rfl (by decide) rfl (by decide) (by omega) (by omega) rfl ?_
    have hW72 : Wk G (uA A 60 (p).toNat (r67)) := Wk_a hW (show (-2147483648 : Int) ≤ r67 by omega) (show r67 ≤ (2147483647 : Int) by omega)
    have hF73 := Fr_a (z := r67) (k := 60) (n := (p).toNat) hF0 (by decide)
    obtain ⟨A71, eA71⟩ : ∃ q, q = uA A 60 (p).toNat (r67) := ⟨_, rfl⟩
    rw [← eA71]
    rw [← eA71] at hW72 hF73
    have q74 : A71 60 (p).toNat = r67 := by rw [eA71]; exact uA_eq
    refine jx_go (tg := 474) rfl rfl ?_
    refine jx_rt (v := none) rfl rfl rfl rfl rfl rfl ?_
    exact ⟨_, _, rfl, rfl, hW72, hF73, (acR_ldnl _ (by omega) eA71), trivial⟩
  · refine jx_swe (z := 4) (tg := 202) h1 rfl rfl rfl rfl ?_
    have _q : True := trivial
    refine jx_ld (pc_q := 203) (l_q := [(0, .ref 66), (1, .int (i32 (p))), (2, .int (i32 (fn))), (3, .int (i32 (op1)))]) (st_q := [.ref 66]) rfl (jl_aloadn rfl) ?_
    refine jx_ld (pc_q := 204) (l_q := [(0, .ref 66), (1, .int (i32 (p))), (2, .int (i32 (fn))), (3, .int (i32 (op1)))]) (st_q := [.int (i32 (p)), .ref 66]) rfl (jl_iloadn rfl) ?_
    refine jx_ld (pc_q := 205) (l_q := [(0, .ref 66), (1, .int (i32 (p))), (2, .int (i32 (fn))), (3, .int (i32 (op1)))]) (st_q := [.int (i32 (op1)), .int (i32 (p)), .ref 66]) rfl (jl_iloadn rfl) ?_
    refine jx_vr (pc_q := 208) (as := [.int (i32 (p)), .int (i32 (op1))]) (st := []) rfl rfl rfl rfl ⟨rfl, rfl, Nat.le_of_ble_eq_true rfl⟩ rfl rfl (c_come (dd := d) (hd := by omega) (hW := hW) (p := p) (v := op1)   (h_p := ⟨(Int.le_trans (by decide : (-2147483648 : Int) ≤ -2147483648) h_p.1), (Int.le_trans h_p.2 (by decide : (2147483647 : Int) ≤ 2147483647))⟩) (h_v := ⟨(Int.le_trans (by decide : (-2147483648 : Int) ≤ -2147483648) h_op1.1), (Int.le_trans h_op1.2 (by decide : (2147483647 : Int) ≤ 2147483647))⟩)  (p_0 := by omega) (p_1 := by omega)) (fun o V_q hq => ?_)
    obtain ⟨G75, A76, rfl, rfl, hW77, hF78, p79, -⟩ := hq
    have hF81 := Fr_tr hF0 hF78 (Fr_sub (by decide)) (Fr_sub (by decide))
    refine .inl ⟨rfl, ?_⟩
    refine jx_go (tg := 474) rfl rfl ?_
    refine jx_rt (v := none) rfl rfl rfl rfl rfl rfl ?_
    exact ⟨_, _, rfl, rfl, hW77, hF81, (acR_ldc (by omega) p79), trivial⟩
  · refine jx_swe (z := 5) (tg := 211) h1 rfl rfl rfl rfl ?_
    have _q : True := trivial
    refine jx_ld (pc_q := 212) (l_q := [(0, .ref 66), (1, .int (i32 (p))), (2, .int (i32 (fn))), (3, .int (i32 (op1)))]) (st_q := [.ref 66]) rfl (jl_aloadn rfl) ?_
    refine jr_get (pc_q := 215) (i := 91) (v := .ref 127) rfl rfl (by decide) rfl rfl ?_
    refine jx_ld (pc_q := 216) (l_q := [(0, .ref 66), (1, .int (i32 (p))), (2, .int (i32 (fn))), (3, .int (i32 (op1)))]) (st_q := [.int (i32 (p)), .ref 127]) rfl (jl_iloadn rfl) ?_
    refine jx_ld (pc_q := 217) (l_q := [(0, .ref 66), (1, .int (i32 (p))), (2, .int (i32 (fn))), (3, .int (i32 (op1)))]) (st_q := [.ref 66, .int (i32 (p)), .ref 127]) rfl (jl_aloadn rfl) ?_
    refine jr_get (pc_q := 220) (i := 91) (v := .ref 127) rfl rfl (by decide) rfl rfl ?_
    refine jx_ld (pc_q := 221) (l_q := [(0, .ref 66), (1, .int (i32 (p))), (2, .int (i32 (fn))), (3, .int (i32 (op1)))]) (st_q := [.int (i32 (p)), .ref 127, .int (i32 (p)), .ref 127]) rfl (jl_iloadn rfl) ?_
    refine jr_ldv (pc_q := 222) (i := 60) (m := 6) (z := p) (y := ra) rfl (by decide) rfl (by decide) (by omega) (by omega) rfl (show A 60 (p).toNat = ra from (e_ra)) ?_
    refine jx_ld (pc_q := 223) (l_q := [(0, .ref 66), (1, .int (i32 (p))), (2, .int (i32 (fn))), (3, .int (i32 (op1)))]) (st_q := [.int (i32 (op1)), .int (i32 (ra)), .int (i32 (p)), .ref 127]) rfl (jl_iloadn rfl) ?_
    refine jx_add (pc_q := 224) rfl rfl ?_
    obtain ⟨v82, ev82⟩ : ∃ z, z = (i32 (ra + op1)).toInt := ⟨_, rfl⟩; have fv82 : i32 (ra + op1) = i32 v82 := (by rw [ev82]; exact (i32_of _).symm); rw [fv82]; have rv82 : (-2147483648 : Int) ≤ v82 ∧ v82 ≤ 2147483647 := ev82 ▸ i32_rg _
    refine jr_st (pc_q := 225) (i := 60) (m := 6) (z := p) (y := v82) rfl (by decide) rfl (by decide) (by omega) (by omega) rfl ?_
    have hW84 : Wk G (uA A 60 (p).toNat (v82)) := Wk_a hW (show (-2147483648 : Int) ≤ v82 by omega) (show v82 ≤ (2147483647 : Int) by omega)
    have hF85 := Fr_a (z := v82) (k := 60) (n := (p).toNat) hF0 (by decide)
    obtain ⟨A83, eA83⟩ : ∃ q, q = uA A 60 (p).toNat (v82) := ⟨_, rfl⟩
    rw [← eA83]
    rw [← eA83] at hW84 hF85
    have q86 : A83 60 (p).toNat = v82 := by rw [eA83]; exact uA_eq
    refine jx_go (tg := 474) rfl rfl ?_
    refine jx_rt (v := none) rfl rfl rfl rfl rfl rfl ?_
    exact ⟨_, _, rfl, rfl, hW84, hF85, (acR_adc _ (by omega) eA83), trivial⟩
  · refine jx_swe (z := 6) (tg := 445) h1 rfl rfl rfl rfl ?_
    have _q : True := trivial
    refine jx_ld (pc_q := 446) (l_q := [(0, .ref 66), (1, .int (i32 (p))), (2, .int (i32 (fn))), (3, .int (i32 (op1)))]) (st_q := [.ref 66]) rfl (jl_aloadn rfl) ?_
    refine jx_ld (pc_q := 447) (l_q := [(0, .ref 66), (1, .int (i32 (p))), (2, .int (i32 (fn))), (3, .int (i32 (op1)))]) (st_q := [.int (i32 (p)), .ref 66]) rfl (jl_iloadn rfl) ?_
    refine jx_ld (pc_q := 448) (l_q := [(0, .ref 66), (1, .int (i32 (p))), (2, .int (i32 (fn))), (3, .int (i32 (op1)))]) (st_q := [.ref 66, .int (i32 (p)), .ref 66]) rfl (jl_aloadn rfl) ?_
    refine jr_get (pc_q := 451) (i := 91) (v := .ref 127) rfl rfl (by decide) rfl rfl ?_
    refine jx_ld (pc_q := 452) (l_q := [(0, .ref 66), (1, .int (i32 (p))), (2, .int (i32 (fn))), (3, .int (i32 (op1)))]) (st_q := [.int (i32 (p)), .ref 127, .int (i32 (p)), .ref 66]) rfl (jl_iloadn rfl) ?_
    refine jr_ldv (pc_q := 453) (i := 60) (m := 6) (z := p) (y := ra) rfl (by decide) rfl (by decide) (by omega) (by omega) rfl (show A 60 (p).toNat = ra from (e_ra)) ?_
    refine jx_ld (pc_q := 454) (l_q := [(0, .ref 66), (1, .int (i32 (p))), (2, .int (i32 (fn))), (3, .int (i32 (op1)))]) (st_q := [.int (i32 (op1)), .int (i32 (ra)), .int (i32 (p)), .ref 66]) rfl (jl_iloadn rfl) ?_
    refine jx_add (pc_q := 455) rfl rfl ?_
    obtain ⟨v87, ev87⟩ : ∃ z, z = (i32 (ra + op1)).toInt := ⟨_, rfl⟩; have fv87 : i32 (ra + op1) = i32 v87 := (by rw [ev87]; exact (i32_of _).symm); rw [fv87]; have rv87 : (-2147483648 : Int) ≤ v87 ∧ v87 ≤ 2147483647 := ev87 ▸ i32_rg _
    refine jx_ld (pc_q := 456) (l_q := [(0, .ref 66), (1, .int (i32 (p))), (2, .int (i32 (fn))), (3, .int (i32 (op1)))]) (st_q := [.ref 66, .int (i32 (v87)), .int (i32 (p)), .ref 66]) rfl (jl_aloadn rfl) ?_
    refine jr_get (pc_q := 459) (i := 92) (v := .ref 128) rfl rfl (by decide) rfl rfl ?_
    refine jx_ld (pc_q := 460) (l_q := [(0, .ref 66), (1, .int (i32 (p))), (2, .int (i32 (fn))), (3, .int (i32 (op1)))]) (st_q := [.int (i32 (p)), .ref 128, .int (i32 (v87)), .int (i32 (p)), .ref 66]) rfl (jl_iloadn rfl) ?_
    refine jr_ldv (pc_q := 461) (i := 61) (m := 6) (z := p) (y := rb) rfl (by decide) rfl (by decide) (by omega) (by omega) rfl (show A 61 (p).toNat = rb from (e_rb)) ?_
    refine jx_vr (pc_q := 464) (as := [.int (i32 (p)), .int (i32 (v87)), .int (i32 (rb))]) (st := []) rfl rfl rfl rfl ⟨rfl, rfl, Nat.le_of_ble_eq_true rfl⟩ rfl rfl (c_store (dd := d) (hd := by omega) (hW := hW) (p := p) (a := v87) (v := rb)   (h_p := ⟨(Int.le_trans (by decide : (-2147483648 : Int) ≤ -2147483648) h_p.1), (Int.le_trans h_p.2 (by decide : (2147483647 : Int) ≤ 2147483647))⟩) (h_a := ⟨(Int.le_trans (by decide : (-2147483648 : Int) ≤ -2147483648) rv87.1), (Int.le_trans rv87.2 (by decide : (2147483647 : Int) ≤ 2147483647))⟩) (h_v := ⟨(Int.le_trans (by decide : (-2147483648 : Int) ≤ -2147483648) b_rb.1), (Int.le_trans b_rb.2 (by decide : (2147483647 : Int) ≤ 2147483647))⟩)  (p_0 := by omega) (p_1 := by omega)) (fun o V_q hq => ?_)
    obtain ⟨G88, A89, rfl, rfl, hW90, hF91, p92, -⟩ := hq
    have hF94 := Fr_tr hF0 hF91 (Fr_sub (by decide)) (Fr_sub (by decide))
    refine .inl ⟨rfl, ?_⟩
    refine jx_ld (pc_q := 465) (l_q := [(0, .ref 66), (1, .int (i32 (p))), (2, .int (i32 (fn))), (3, .int (i32 (op1)))]) (st_q := [.ref 66]) rfl (jl_aloadn rfl) ?_
    refine jx_ld (pc_q := 466) (l_q := [(0, .ref 66), (1, .int (i32 (p))), (2, .int (i32 (fn))), (3, .int (i32 (op1)))]) (st_q := [.int (i32 (p)), .ref 66]) rfl (jl_iloadn rfl) ?_
    refine jx_vr (pc_q := 469) (as := [.int (i32 (p))]) (st := []) rfl rfl rfl rfl ⟨rfl, rfl, Nat.le_of_ble_eq_true rfl⟩ rfl rfl (c_take (dd := d) (hd := by omega) (hW := hW90) (p := p)   (h_p := ⟨(Int.le_trans (by decide : (-2147483648 : Int) ≤ -2147483648) h_p.1), (Int.le_trans h_p.2 (by decide : (2147483647 : Int) ≤ 2147483647))⟩)  (p_0 := by omega) (p_1 := by omega)) (fun o V_q hq => ?_)
    obtain ⟨G95, A96, rfl, rfl, hW97, hF98, p99, -⟩ := hq
    have hF101 := Fr_tr hF94 hF98 (Fr_sub (by decide)) (Fr_sub (by decide))
    refine .inl ⟨rfl, ?_⟩
    refine jx_ld (pc_q := 470) (l_q := [(0, .ref 66), (1, .int (i32 (p))), (2, .int (i32 (fn))), (3, .int (i32 (op1)))]) (st_q := [.ref 66]) rfl (jl_aloadn rfl) ?_
    refine jx_ld (pc_q := 471) (l_q := [(0, .ref 66), (1, .int (i32 (p))), (2, .int (i32 (fn))), (3, .int (i32 (op1)))]) (st_q := [.int (i32 (p)), .ref 66]) rfl (jl_iloadn rfl) ?_
    refine jx_vr (pc_q := 474) (as := [.int (i32 (p))]) (st := []) rfl rfl rfl rfl ⟨rfl, rfl, Nat.le_of_ble_eq_true rfl⟩ rfl rfl (c_take (dd := d) (hd := by omega) (hW := hW97) (p := p)   (h_p := ⟨(Int.le_trans (by decide : (-2147483648 : Int) ≤ -2147483648) h_p.1), (Int.le_trans h_p.2 (by decide : (2147483647 : Int) ≤ 2147483647))⟩)  (p_0 := by omega) (p_1 := by omega)) (fun o V_q hq => ?_)
    obtain ⟨G102, A103, rfl, rfl, hW104, hF105, p106, -⟩ := hq
    have hF108 := Fr_tr hF101 hF105 (Fr_sub (by decide)) (Fr_sub (by decide))
    refine .inl ⟨rfl, ?_⟩
    refine jx_rt (v := none) rfl rfl rfl rfl rfl rfl ?_
    exact ⟨_, _, rfl, rfl, hW104, hF108, (acR_stnl _ _ _ _ _ (by omega) e_ra e_rb ev87 p92 p99 p106), trivial⟩
  · refine jx_swe (z := 7) (tg := 228) h1 rfl rfl rfl rfl ?_
    have _q : True := trivial
    refine jx_ld (pc_q := 229) (l_q := [(0, .ref 66), (1, .int (i32 (p))), (2, .int (i32 (fn))), (3, .int (i32 (op1)))]) (st_q := [.ref 66]) rfl (jl_aloadn rfl) ?_
    refine jx_ld (pc_q := 230) (l_q := [(0, .ref 66), (1, .int (i32 (p))), (2, .int (i32 (fn))), (3, .int (i32 (op1)))]) (st_q := [.int (i32 (p)), .ref 66]) rfl (jl_iloadn rfl) ?_
    refine jx_ld (pc_q := 231) (l_q := [(0, .ref 66), (1, .int (i32 (p))), (2, .int (i32 (fn))), (3, .int (i32 (op1)))]) (st_q := [.ref 66, .int (i32 (p)), .ref 66]) rfl (jl_aloadn rfl) ?_
    refine jx_ld (pc_q := 232) (l_q := [(0, .ref 66), (1, .int (i32 (p))), (2, .int (i32 (fn))), (3, .int (i32 (op1)))]) (st_q := [.int (i32 (p)), .ref 66, .int (i32 (p)), .ref 66]) rfl (jl_iloadn rfl) ?_
    refine jx_ld (pc_q := 233) (l_q := [(0, .ref 66), (1, .int (i32 (p))), (2, .int (i32 (fn))), (3, .int (i32 (op1)))]) (st_q := [.ref 66, .int (i32 (p)), .ref 66, .int (i32 (p)), .ref 66]) rfl (jl_aloadn rfl) ?_
    refine jr_get (pc_q := 236) (i := 95) (v := .ref 131) rfl rfl (by decide) rfl rfl ?_
    refine jx_ld (pc_q := 237) (l_q := [(0, .ref 66), (1, .int (i32 (p))), (2, .int (i32 (fn))), (3, .int (i32 (op1)))]) (st_q := [.int (i32 (p)), .ref 131, .int (i32 (p)), .ref 66, .int (i32 (p)), .ref 66]) rfl (jl_iloadn rfl) ?_
    refine jr_ldv (pc_q := 238) (i := 64) (m := 6) (z := p) (y := rw) rfl (by decide) rfl (by decide) (by omega) (by omega) rfl (show A 64 (p).toNat = rw from (e_rw)) ?_
    refine jx_ld (pc_q := 239) (l_q := [(0, .ref 66), (1, .int (i32 (p))), (2, .int (i32 (fn))), (3, .int (i32 (op1)))]) (st_q := [.int (i32 (op1)), .int (i32 (rw)), .int (i32 (p)), .ref 66, .int (i32 (p)), .ref 66]) rfl (jl_iloadn rfl) ?_
    refine jx_add (pc_q := 240) rfl rfl ?_
    obtain ⟨v109, ev109⟩ : ∃ z, z = (i32 (rw + op1)).toInt := ⟨_, rfl⟩; have fv109 : i32 (rw + op1) = i32 v109 := (by rw [ev109]; exact (i32_of _).symm); rw [fv109]; have rv109 : (-2147483648 : Int) ≤ v109 ∧ v109 ≤ 2147483647 := ev109 ▸ i32_rg _
    refine jx_vr (pc_q := 243) (as := [.int (i32 (p)), .int (i32 (v109))]) (st := [.int (i32 (p)), .ref 66]) rfl rfl rfl rfl ⟨rfl, rfl, Nat.le_of_ble_eq_true rfl⟩ rfl rfl (c_load (dd := d) (hd := by omega) (hW := hW) (p := p) (a := v109)   (h_p := ⟨(Int.le_trans (by decide : (-2147483648 : Int) ≤ -2147483648) h_p.1), (Int.le_trans h_p.2 (by decide : (2147483647 : Int) ≤ 2147483647))⟩) (h_a := ⟨(Int.le_trans (by decide : (-2147483648 : Int) ≤ -2147483648) rv109.1), (Int.le_trans rv109.2 (by decide : (2147483647 : Int) ≤ 2147483647))⟩)  (p_0 := by omega) (p_1 := by omega)) (fun o V_q hq => ?_)
    obtain ⟨r110, rfl, rfl, b111, p112, -⟩ := hq
    refine .inr ⟨_, rfl, ?_⟩
    refine jx_vr (pc_q := 246) (as := [.int (i32 (p)), .int (i32 (r110))]) (st := []) rfl rfl rfl rfl ⟨rfl, rfl, Nat.le_of_ble_eq_true rfl⟩ rfl rfl (c_come (dd := d) (hd := by omega) (hW := hW) (p := p) (v := r110)   (h_p := ⟨(Int.le_trans (by decide : (-2147483648 : Int) ≤ -2147483648) h_p.1), (Int.le_trans h_p.2 (by decide : (2147483647 : Int) ≤ 2147483647))⟩) (h_v := ⟨(Int.le_trans (by decide : (-2147483648 : Int) ≤ -2147483648) b111.1), (Int.le_trans b111.2 (by decide : (2147483647 : Int) ≤ 2147483647))⟩)  (p_0 := by omega) (p_1 := by omega)) (fun o V_q hq => ?_)
    obtain ⟨G114, A115, rfl, rfl, hW116, hF117, p118, -⟩ := hq
    have hF120 := Fr_tr hF0 hF117 (Fr_sub (by decide)) (Fr_sub (by decide))
    refine .inl ⟨rfl, ?_⟩
    refine jx_go (tg := 474) rfl rfl ?_
    refine jx_rt (v := none) rfl rfl rfl rfl rfl rfl ?_
    exact ⟨_, _, rfl, rfl, hW116, hF120, (acR_ldl _ _ _ (by omega) e_rw ev109 p112 p118), trivial⟩
  · refine jx_swe (z := 8) (tg := 211) h1 rfl rfl rfl rfl ?_
    have _q : True := trivial
    refine jx_ld (pc_q := 212) (l_q := [(0, .ref 66), (1, .int (i32 (p))), (2, .int (i32 (fn))), (3, .int (i32 (op1)))]) (st_q := [.ref 66]) rfl (jl_aloadn rfl) ?_
    refine jr_get (pc_q := 215) (i := 91) (v := .ref 127) rfl rfl (by decide) rfl rfl ?_
    refine jx_ld (pc_q := 216) (l_q := [(0, .ref 66), (1, .int (i32 (p))), (2, .int (i32 (fn))), (3, .int (i32 (op1)))]) (st_q := [.int (i32 (p)), .ref 127]) rfl (jl_iloadn rfl) ?_
    refine jx_ld (pc_q := 217) (l_q := [(0, .ref 66), (1, .int (i32 (p))), (2, .int (i32 (fn))), (3, .int (i32 (op1)))]) (st_q := [.ref 66, .int (i32 (p)), .ref 127]) rfl (jl_aloadn rfl) ?_
    refine jr_get (pc_q := 220) (i := 91) (v := .ref 127) rfl rfl (by decide) rfl rfl ?_
    refine jx_ld (pc_q := 221) (l_q := [(0, .ref 66), (1, .int (i32 (p))), (2, .int (i32 (fn))), (3, .int (i32 (op1)))]) (st_q := [.int (i32 (p)), .ref 127, .int (i32 (p)), .ref 127]) rfl (jl_iloadn rfl) ?_
    refine jr_ldv (pc_q := 222) (i := 60) (m := 6) (z := p) (y := ra) rfl (by decide) rfl (by decide) (by omega) (by omega) rfl (show A 60 (p).toNat = ra from (e_ra)) ?_
    refine jx_ld (pc_q := 223) (l_q := [(0, .ref 66), (1, .int (i32 (p))), (2, .int (i32 (fn))), (3, .int (i32 (op1)))]) (st_q := [.int (i32 (op1)), .int (i32 (ra)), .int (i32 (p)), .ref 127]) rfl (jl_iloadn rfl) ?_
    refine jx_add (pc_q := 224) rfl rfl ?_
    obtain ⟨v121, ev121⟩ : ∃ z, z = (i32 (ra + op1)).toInt := ⟨_, rfl⟩; have fv121 : i32 (ra + op1) = i32 v121 := (by rw [ev121]; exact (i32_of _).symm); rw [fv121]; have rv121 : (-2147483648 : Int) ≤ v121 ∧ v121 ≤ 2147483647 := ev121 ▸ i32_rg _
    refine jr_st (pc_q := 225) (i := 60) (m := 6) (z := p) (y := v121) rfl (by decide) rfl (by decide) (by omega) (by omega) rfl ?_
    have hW123 : Wk G (uA A 60 (p).toNat (v121)) := Wk_a hW (show (-2147483648 : Int) ≤ v121 by omega) (show v121 ≤ (2147483647 : Int) by omega)
    have hF124 := Fr_a (z := v121) (k := 60) (n := (p).toNat) hF0 (by decide)
    obtain ⟨A122, eA122⟩ : ∃ q, q = uA A 60 (p).toNat (v121) := ⟨_, rfl⟩
    rw [← eA122]
    rw [← eA122] at hW123 hF124
    have q125 : A122 60 (p).toNat = v121 := by rw [eA122]; exact uA_eq
    refine jx_go (tg := 474) rfl rfl ?_
    refine jx_rt (v := none) rfl rfl rfl rfl rfl rfl ?_
    exact ⟨_, _, rfl, rfl, hW123, hF124, (acR_adc _ (by omega) eA122), trivial⟩
  · refine jx_swe (z := 9) (tg := 249) h1 rfl rfl rfl rfl ?_
    have _q : True := trivial
    refine jx_ld (pc_q := 250) (l_q := [(0, .ref 66), (1, .int (i32 (p))), (2, .int (i32 (fn))), (3, .int (i32 (op1)))]) (st_q := [.ref 66]) rfl (jl_aloadn rfl) ?_
    refine jr_get (pc_q := 253) (i := 95) (v := .ref 131) rfl rfl (by decide) rfl rfl ?_
    refine jx_ld (pc_q := 254) (l_q := [(0, .ref 66), (1, .int (i32 (p))), (2, .int (i32 (fn))), (3, .int (i32 (op1)))]) (st_q := [.int (i32 (p)), .ref 131]) rfl (jl_iloadn rfl) ?_
    refine jx_ld (pc_q := 255) (l_q := [(0, .ref 66), (1, .int (i32 (p))), (2, .int (i32 (fn))), (3, .int (i32 (op1)))]) (st_q := [.ref 66, .int (i32 (p)), .ref 131]) rfl (jl_aloadn rfl) ?_
    refine jr_get (pc_q := 258) (i := 95) (v := .ref 131) rfl rfl (by decide) rfl rfl ?_
    refine jx_ld (pc_q := 259) (l_q := [(0, .ref 66), (1, .int (i32 (p))), (2, .int (i32 (fn))), (3, .int (i32 (op1)))]) (st_q := [.int (i32 (p)), .ref 131, .int (i32 (p)), .ref 131]) rfl (jl_iloadn rfl) ?_
    refine jr_ldv (pc_q := 260) (i := 64) (m := 6) (z := p) (y := rw) rfl (by decide) rfl (by decide) (by omega) (by omega) rfl (show A 64 (p).toNat = rw from (e_rw)) ?_
    refine jx_ar (pc_q := 261) (st_q := [.int (i32 (4)), .int (i32 (rw)), .int (i32 (p)), .ref 131]) rfl rfl rfl rfl ?_
    refine jx_sub (pc_q := 262) rfl rfl ?_
    refine jr_st (pc_q := 263) (i := 64) (m := 6) (z := p) (y := (rw - 4)) rfl (by decide) rfl (by decide) (by omega) (by omega) rfl ?_
    have hW127 : Wk G (uA A 64 (p).toNat ((rw - 4))) := Wk_a hW (show (-2147483648 : Int) ≤ (rw - 4) by omega) (show (rw - 4) ≤ (2147483647 : Int) by omega)
    have hF128 := Fr_a (z := (rw - 4)) (k := 64) (n := (p).toNat) hF0 (by decide)
    obtain ⟨A126, eA126⟩ : ∃ q, q = uA A 64 (p).toNat ((rw - 4)) := ⟨_, rfl⟩
    rw [← eA126]
    rw [← eA126] at hW127 hF128
    have q129 : A126 64 (p).toNat = (rw - 4) := by rw [eA126]; exact uA_eq
    refine jx_ld (pc_q := 264) (l_q := [(0, .ref 66), (1, .int (i32 (p))), (2, .int (i32 (fn))), (3, .int (i32 (op1)))]) (st_q := [.ref 66]) rfl (jl_aloadn rfl) ?_
    refine jx_ld (pc_q := 265) (l_q := [(0, .ref 66), (1, .int (i32 (p))), (2, .int (i32 (fn))), (3, .int (i32 (op1)))]) (st_q := [.int (i32 (p)), .ref 66]) rfl (jl_iloadn rfl) ?_
    refine jx_ld (pc_q := 266) (l_q := [(0, .ref 66), (1, .int (i32 (p))), (2, .int (i32 (fn))), (3, .int (i32 (op1)))]) (st_q := [.ref 66, .int (i32 (p)), .ref 66]) rfl (jl_aloadn rfl) ?_
    refine jr_get (pc_q := 269) (i := 95) (v := .ref 131) rfl rfl (by decide) rfl rfl ?_
    refine jx_ld (pc_q := 270) (l_q := [(0, .ref 66), (1, .int (i32 (p))), (2, .int (i32 (fn))), (3, .int (i32 (op1)))]) (st_q := [.int (i32 (p)), .ref 131, .int (i32 (p)), .ref 66]) rfl (jl_iloadn rfl) ?_
    refine jr_ldv (pc_q := 271) (i := 64) (m := 6) (z := p) (y := (rw - 4)) rfl (by decide) rfl (by decide) (by omega) (by omega) rfl (show A126 64 (p).toNat = (rw - 4) from (q129)) ?_
    refine jx_ld (pc_q := 272) (l_q := [(0, .ref 66), (1, .int (i32 (p))), (2, .int (i32 (fn))), (3, .int (i32 (op1)))]) (st_q := [.ref 66, .int (i32 ((rw - 4))), .int (i32 (p)), .ref 66]) rfl (jl_aloadn rfl) ?_
    refine jr_get (pc_q := 275) (i := 94) (v := .ref 130) rfl rfl (by decide) rfl rfl ?_
    refine jx_ld (pc_q := 276) (l_q := [(0, .ref 66), (1, .int (i32 (p))), (2, .int (i32 (fn))), (3, .int (i32 (op1)))]) (st_q := [.int (i32 (p)), .ref 130, .int (i32 ((rw - 4))), .int (i32 (p)), .ref 66]) rfl (jl_iloadn rfl) ?_
    refine jr_ldv (pc_q := 277) (i := 63) (m := 6) (z := p) (y := ri) rfl (by decide) rfl (by decide) (by omega) (by omega) rfl (show A126 63 (p).toNat = ri from (congrFun ((congrFun eA126 63).trans (uA_ne (by decide))) _).trans (e_ri)) ?_
    refine jx_vr (pc_q := 280) (as := [.int (i32 (p)), .int (i32 ((rw - 4))), .int (i32 (ri))]) (st := []) rfl rfl rfl rfl ⟨rfl, rfl, Nat.le_of_ble_eq_true rfl⟩ rfl rfl (c_store (dd := d) (hd := by omega) (hW := hW127) (p := p) (a := (rw - 4)) (v := ri)   (h_p := ⟨(Int.le_trans (by decide : (-2147483648 : Int) ≤ -2147483648) h_p.1), (Int.le_trans h_p.2 (by decide : (2147483647 : Int) ≤ 2147483647))⟩) (h_a := ⟨(by omega), (by omega)⟩) (h_v := ⟨(Int.le_trans (by decide : (-2147483648 : Int) ≤ -2147483648) b_ri.1), (Int.le_trans b_ri.2 (by decide : (2147483647 : Int) ≤ 2147483647))⟩)  (p_0 := by omega) (p_1 := by omega)) (fun o V_q hq => ?_)
    obtain ⟨G130, A131, rfl, rfl, hW132, hF133, p134, -⟩ := hq
    have hF136 := Fr_tr hF128 hF133 (Fr_sub (by decide)) (Fr_sub (by decide))
    refine .inl ⟨rfl, ?_⟩
    refine jx_ld (pc_q := 281) (l_q := [(0, .ref 66), (1, .int (i32 (p))), (2, .int (i32 (fn))), (3, .int (i32 (op1)))]) (st_q := [.ref 66]) rfl (jl_aloadn rfl) ?_
    refine jr_get (pc_q := 284) (i := 94) (v := .ref 130) rfl rfl (by decide) rfl rfl ?_
    refine jx_ld (pc_q := 285) (l_q := [(0, .ref 66), (1, .int (i32 (p))), (2, .int (i32 (fn))), (3, .int (i32 (op1)))]) (st_q := [.int (i32 (p)), .ref 130]) rfl (jl_iloadn rfl) ?_
    refine jx_ld (pc_q := 286) (l_q := [(0, .ref 66), (1, .int (i32 (p))), (2, .int (i32 (fn))), (3, .int (i32 (op1)))]) (st_q := [.ref 66, .int (i32 (p)), .ref 130]) rfl (jl_aloadn rfl) ?_
    refine jr_get (pc_q := 289) (i := 94) (v := .ref 130) rfl rfl (by decide) rfl rfl ?_
    refine jx_ld (pc_q := 290) (l_q := [(0, .ref 66), (1, .int (i32 (p))), (2, .int (i32 (fn))), (3, .int (i32 (op1)))]) (st_q := [.int (i32 (p)), .ref 130, .int (i32 (p)), .ref 130]) rfl (jl_iloadn rfl) ?_
    refine jr_ldv (pc_q := 291) (i := 63) (m := 6) (z := p) (y := ri) rfl (by decide) rfl (by decide) (by omega) (by omega) rfl (show A131 63 (p).toNat = ri from (congrFun ((hF133.2 63 rfl).trans ((congrFun eA126 63).trans (uA_ne (by decide)))) _).trans (e_ri)) ?_
    refine jx_ld (pc_q := 292) (l_q := [(0, .ref 66), (1, .int (i32 (p))), (2, .int (i32 (fn))), (3, .int (i32 (op1)))]) (st_q := [.int (i32 (op1)), .int (i32 (ri)), .int (i32 (p)), .ref 130]) rfl (jl_iloadn rfl) ?_
    refine jx_add (pc_q := 293) rfl rfl ?_
    obtain ⟨v137, ev137⟩ : ∃ z, z = (i32 (ri + op1)).toInt := ⟨_, rfl⟩; have fv137 : i32 (ri + op1) = i32 v137 := (by rw [ev137]; exact (i32_of _).symm); rw [fv137]; have rv137 : (-2147483648 : Int) ≤ v137 ∧ v137 ≤ 2147483647 := ev137 ▸ i32_rg _
    refine jr_st (pc_q := 294) (i := 63) (m := 6) (z := p) (y := v137) rfl (by decide) rfl (by decide) (by omega) (by omega) rfl ?_
    have hW139 : Wk G130 (uA A131 63 (p).toNat (v137)) := Wk_a hW132 (show (-2147483648 : Int) ≤ v137 by omega) (show v137 ≤ (2147483647 : Int) by omega)
    have hF140 := Fr_a (z := v137) (k := 63) (n := (p).toNat) hF136 (by decide)
    obtain ⟨A138, eA138⟩ : ∃ q, q = uA A131 63 (p).toNat (v137) := ⟨_, rfl⟩
    rw [← eA138]
    rw [← eA138] at hW139 hF140
    have q141 : A138 63 (p).toNat = v137 := by rw [eA138]; exact uA_eq
    refine jx_ld (pc_q := 295) (l_q := [(0, .ref 66), (1, .int (i32 (p))), (2, .int (i32 (fn))), (3, .int (i32 (op1)))]) (st_q := [.ref 66]) rfl (jl_aloadn rfl) ?_
    refine jr_get (pc_q := 298) (i := 97) (v := .ref 133) rfl rfl (by decide) rfl rfl ?_
    refine jx_ld (pc_q := 299) (l_q := [(0, .ref 66), (1, .int (i32 (p))), (2, .int (i32 (fn))), (3, .int (i32 (op1)))]) (st_q := [.int (i32 (p)), .ref 133]) rfl (jl_iloadn rfl) ?_
    refine jx_ar (pc_q := 300) (st_q := [.int (i32 (2)), .int (i32 (p)), .ref 133]) rfl rfl rfl rfl ?_
    refine jx_ld (pc_q := 301) (l_q := [(0, .ref 66), (1, .int (i32 (p))), (2, .int (i32 (fn))), (3, .int (i32 (op1)))]) (st_q := [.ref 66, .int (i32 (2)), .int (i32 (p)), .ref 133]) rfl (jl_aloadn rfl) ?_
    refine jr_get (pc_q := 304) (i := 95) (v := .ref 131) rfl rfl (by decide) rfl rfl ?_
    refine jx_ld (pc_q := 305) (l_q := [(0, .ref 66), (1, .int (i32 (p))), (2, .int (i32 (fn))), (3, .int (i32 (op1)))]) (st_q := [.int (i32 (p)), .ref 131, .int (i32 (2)), .int (i32 (p)), .ref 133]) rfl (jl_iloadn rfl) ?_
    refine jr_ldv (pc_q := 306) (i := 64) (m := 6) (z := p) (y := (rw - 4)) rfl (by decide) rfl (by decide) (by omega) (by omega) rfl (show A138 64 (p).toNat = (rw - 4) from (congrFun (((congrFun eA138 64).trans (uA_ne (by decide))).trans (hF133.2 64 rfl)) _).trans (q129)) ?_
    refine jx_mul (pc_q := 307) rfl rfl ?_
    refine jx_ld (pc_q := 308) (l_q := [(0, .ref 66), (1, .int (i32 (p))), (2, .int (i32 (fn))), (3, .int (i32 (op1)))]) (st_q := [.ref 66, .int (i32 ((2 * (rw - 4)))), .int (i32 (p)), .ref 133]) rfl (jl_aloadn rfl) ?_
    refine jr_get (pc_q := 311) (i := 97) (v := .ref 133) rfl rfl (by decide) rfl rfl ?_
    refine jx_ld (pc_q := 312) (l_q := [(0, .ref 66), (1, .int (i32 (p))), (2, .int (i32 (fn))), (3, .int (i32 (op1)))]) (st_q := [.int (i32 (p)), .ref 133, .int (i32 ((2 * (rw - 4)))), .int (i32 (p)), .ref 133]) rfl (jl_iloadn rfl) ?_
    refine jr_ldv (pc_q := 313) (i := 66) (m := 6) (z := p) (y := rn) rfl (by decide) rfl (by decide) (by omega) (by omega) rfl (show A138 66 (p).toNat = rn from (congrFun (((congrFun eA138 66).trans (uA_ne (by decide))).trans ((hF133.2 66 rfl).trans ((congrFun eA126 66).trans (uA_ne (by decide))))) _).trans (e_rn)) ?_
    refine jx_ar (pc_q := 314) (st_q := [.int (i32 (1)), .int (i32 (rn)), .int (i32 ((2 * (rw - 4)))), .int (i32 (p)), .ref 133]) rfl rfl rfl rfl ?_
    refine jx_and (pc_q := 315) rfl rfl ?_
    obtain ⟨b142, eb142⟩ : ∃ z, z = (i32 (rn) &&& i32 (1)).toInt := ⟨_, rfl⟩
    rw [← eb142]
    have rb142 : (-2147483648 : Int) ≤ b142 ∧ b142 ≤ 2147483647 := eb142 ▸ i32_rg _
    have hb142 := (show b142 = (i32 rn &&& i32 1).toInt from eb142).trans (and_1f (by omega) (by omega))
    refine jx_add (pc_q := 316) rfl rfl ?_
    refine jr_st (pc_q := 317) (i := 66) (m := 6) (z := p) (y := ((2 * (rw - 4)) + b142)) rfl (by decide) rfl (by decide) (by omega) (by omega) rfl ?_
    have hW144 : Wk G130 (uA A138 66 (p).toNat (((2 * (rw - 4)) + b142))) := Wk_a hW139 (show (-2147483648 : Int) ≤ ((2 * (rw - 4)) + b142) by omega) (show ((2 * (rw - 4)) + b142) ≤ (2147483647 : Int) by omega)
    have hF145 := Fr_a (z := ((2 * (rw - 4)) + b142)) (k := 66) (n := (p).toNat) hF140 (by decide)
    obtain ⟨A143, eA143⟩ : ∃ q, q = uA A138 66 (p).toNat (((2 * (rw - 4)) + b142)) := ⟨_, rfl⟩
    rw [← eA143]
    rw [← eA143] at hW144 hF145
    have q146 : A143 66 (p).toNat = ((2 * (rw - 4)) + b142) := by rw [eA143]; exact uA_eq
    refine jx_go (tg := 474) rfl rfl ?_
    refine jx_rt (v := none) rfl rfl rfl rfl rfl rfl ?_
    exact ⟨_, _, rfl, rfl, hW144, hF145, (acR_call _ _ _ _ _ _ _ (by omega) e_rw e_ri e_rn hb142 eA126 p134 (eA138.trans (by rw [ev137])) eA143), trivial⟩
  · refine jx_swe (z := 10) (tg := 320) h1 rfl rfl rfl rfl ?_
    have _q : True := trivial
    refine jx_ld (pc_q := 321) (l_q := [(0, .ref 66), (1, .int (i32 (p))), (2, .int (i32 (fn))), (3, .int (i32 (op1)))]) (st_q := [.ref 66]) rfl (jl_aloadn rfl) ?_
    refine jr_get (pc_q := 324) (i := 91) (v := .ref 127) rfl rfl (by decide) rfl rfl ?_
    refine jx_ld (pc_q := 325) (l_q := [(0, .ref 66), (1, .int (i32 (p))), (2, .int (i32 (fn))), (3, .int (i32 (op1)))]) (st_q := [.int (i32 (p)), .ref 127]) rfl (jl_iloadn rfl) ?_
    refine jr_ldv (pc_q := 326) (i := 60) (m := 6) (z := p) (y := ra) rfl (by decide) rfl (by decide) (by omega) (by omega) rfl (show A 60 (p).toNat = ra from (e_ra)) ?_
    refine jx_if_ne (pc_q := 329) (tg := 346) rfl rfl rfl (Int.le_trans (by decide : (-2147483648 : Int) ≤ -2147483648) b_ra.1) (Int.le_trans b_ra.2 (by decide : (2147483647 : Int) ≤ 2147483647)) (fun h147 => ?_) (fun h147 => ?_)
    · have _q := h147
      refine jx_ld (pc_q := 347) (l_q := [(0, .ref 66), (1, .int (i32 (p))), (2, .int (i32 (fn))), (3, .int (i32 (op1)))]) (st_q := [.ref 66]) rfl (jl_aloadn rfl) ?_
      refine jx_ld (pc_q := 348) (l_q := [(0, .ref 66), (1, .int (i32 (p))), (2, .int (i32 (fn))), (3, .int (i32 (op1)))]) (st_q := [.int (i32 (p)), .ref 66]) rfl (jl_iloadn rfl) ?_
      refine jx_vr (pc_q := 351) (as := [.int (i32 (p))]) (st := []) rfl rfl rfl rfl ⟨rfl, rfl, Nat.le_of_ble_eq_true rfl⟩ rfl rfl (c_take (dd := d) (hd := by omega) (hW := hW) (p := p)   (h_p := ⟨(Int.le_trans (by decide : (-2147483648 : Int) ≤ -2147483648) h_p.1), (Int.le_trans h_p.2 (by decide : (2147483647 : Int) ≤ 2147483647))⟩)  (p_0 := by omega) (p_1 := by omega)) (fun o V_q hq => ?_)
      obtain ⟨G148, A149, rfl, rfl, hW150, hF151, p152, -⟩ := hq
      have hF154 := Fr_tr hF0 hF151 (Fr_sub (by decide)) (Fr_sub (by decide))
      refine .inl ⟨rfl, ?_⟩
      refine jx_go (tg := 474) rfl rfl ?_
      refine jx_rt (v := none) rfl rfl rfl rfl rfl rfl ?_
      exact ⟨_, _, rfl, rfl, hW150, hF154, (acR_cj1 (by omega) (by rw [show A 60 (p).toNat = ra from e_ra]; omega) p152), trivial⟩
    · have _q := h147
      refine jx_ld (pc_q := 330) (l_q := [(0, .ref 66), (1, .int (i32 (p))), (2, .int (i32 (fn))), (3, .int (i32 (op1)))]) (st_q := [.ref 66]) rfl (jl_aloadn rfl) ?_
      refine jr_get (pc_q := 333) (i := 94) (v := .ref 130) rfl rfl (by decide) rfl rfl ?_
      refine jx_ld (pc_q := 334) (l_q := [(0, .ref 66), (1, .int (i32 (p))), (2, .int (i32 (fn))), (3, .int (i32 (op1)))]) (st_q := [.int (i32 (p)), .ref 130]) rfl (jl_iloadn rfl) ?_
      refine jx_ld (pc_q := 335) (l_q := [(0, .ref 66), (1, .int (i32 (p))), (2, .int (i32 (fn))), (3, .int (i32 (op1)))]) (st_q := [.ref 66, .int (i32 (p)), .ref 130]) rfl (jl_aloadn rfl) ?_
      refine jr_get (pc_q := 338) (i := 94) (v := .ref 130) rfl rfl (by decide) rfl rfl ?_
      refine jx_ld (pc_q := 339) (l_q := [(0, .ref 66), (1, .int (i32 (p))), (2, .int (i32 (fn))), (3, .int (i32 (op1)))]) (st_q := [.int (i32 (p)), .ref 130, .int (i32 (p)), .ref 130]) rfl (jl_iloadn rfl) ?_
      refine jr_ldv (pc_q := 340) (i := 63) (m := 6) (z := p) (y := ri) rfl (by decide) rfl (by decide) (by omega) (by omega) rfl (show A 63 (p).toNat = ri from (e_ri)) ?_
      refine jx_ld (pc_q := 341) (l_q := [(0, .ref 66), (1, .int (i32 (p))), (2, .int (i32 (fn))), (3, .int (i32 (op1)))]) (st_q := [.int (i32 (op1)), .int (i32 (ri)), .int (i32 (p)), .ref 130]) rfl (jl_iloadn rfl) ?_
      refine jx_add (pc_q := 342) rfl rfl ?_
      obtain ⟨v155, ev155⟩ : ∃ z, z = (i32 (ri + op1)).toInt := ⟨_, rfl⟩; have fv155 : i32 (ri + op1) = i32 v155 := (by rw [ev155]; exact (i32_of _).symm); rw [fv155]; have rv155 : (-2147483648 : Int) ≤ v155 ∧ v155 ≤ 2147483647 := ev155 ▸ i32_rg _
      refine jr_st (pc_q := 343) (i := 63) (m := 6) (z := p) (y := v155) rfl (by decide) rfl (by decide) (by omega) (by omega) rfl ?_
      have hW157 : Wk G (uA A 63 (p).toNat (v155)) := Wk_a hW (show (-2147483648 : Int) ≤ v155 by omega) (show v155 ≤ (2147483647 : Int) by omega)
      have hF158 := Fr_a (z := v155) (k := 63) (n := (p).toNat) hF0 (by decide)
      obtain ⟨A156, eA156⟩ : ∃ q, q = uA A 63 (p).toNat (v155) := ⟨_, rfl⟩
      rw [← eA156]
      rw [← eA156] at hW157 hF158
      have q159 : A156 63 (p).toNat = v155 := by rw [eA156]; exact uA_eq
      refine jx_go (tg := 474) rfl rfl ?_
      refine jx_rt (v := none) rfl rfl rfl rfl rfl rfl ?_
      exact ⟨_, _, rfl, rfl, hW157, hF158, (acR_cj0 _ (by omega) (by rw [show A 60 (p).toNat = ra from e_ra]; omega) e_ri (eA156.trans (by rw [ev155]))), trivial⟩
  · refine jx_swe (z := 11) (tg := 354) h1 rfl rfl rfl rfl ?_
    have _q : True := trivial
    refine jx_ld (pc_q := 355) (l_q := [(0, .ref 66), (1, .int (i32 (p))), (2, .int (i32 (fn))), (3, .int (i32 (op1)))]) (st_q := [.ref 66]) rfl (jl_aloadn rfl) ?_
    refine jr_get (pc_q := 358) (i := 95) (v := .ref 131) rfl rfl (by decide) rfl rfl ?_
    refine jx_ld (pc_q := 359) (l_q := [(0, .ref 66), (1, .int (i32 (p))), (2, .int (i32 (fn))), (3, .int (i32 (op1)))]) (st_q := [.int (i32 (p)), .ref 131]) rfl (jl_iloadn rfl) ?_
    refine jx_ld (pc_q := 360) (l_q := [(0, .ref 66), (1, .int (i32 (p))), (2, .int (i32 (fn))), (3, .int (i32 (op1)))]) (st_q := [.ref 66, .int (i32 (p)), .ref 131]) rfl (jl_aloadn rfl) ?_
    refine jr_get (pc_q := 363) (i := 95) (v := .ref 131) rfl rfl (by decide) rfl rfl ?_
    refine jx_ld (pc_q := 364) (l_q := [(0, .ref 66), (1, .int (i32 (p))), (2, .int (i32 (fn))), (3, .int (i32 (op1)))]) (st_q := [.int (i32 (p)), .ref 131, .int (i32 (p)), .ref 131]) rfl (jl_iloadn rfl) ?_
    refine jr_ldv (pc_q := 365) (i := 64) (m := 6) (z := p) (y := rw) rfl (by decide) rfl (by decide) (by omega) (by omega) rfl (show A 64 (p).toNat = rw from (e_rw)) ?_
    refine jx_ld (pc_q := 366) (l_q := [(0, .ref 66), (1, .int (i32 (p))), (2, .int (i32 (fn))), (3, .int (i32 (op1)))]) (st_q := [.int (i32 (op1)), .int (i32 (rw)), .int (i32 (p)), .ref 131]) rfl (jl_iloadn rfl) ?_
    refine jx_add (pc_q := 367) rfl rfl ?_
    obtain ⟨v160, ev160⟩ : ∃ z, z = (i32 (rw + op1)).toInt := ⟨_, rfl⟩; have fv160 : i32 (rw + op1) = i32 v160 := (by rw [ev160]; exact (i32_of _).symm); rw [fv160]; have rv160 : (-2147483648 : Int) ≤ v160 ∧ v160 ≤ 2147483647 := ev160 ▸ i32_rg _
    refine jr_st (pc_q := 368) (i := 64) (m := 6) (z := p) (y := v160) rfl (by decide) rfl (by decide) (by omega) (by omega) rfl ?_
    have hW162 : Wk G (uA A 64 (p).toNat (v160)) := Wk_a hW (show (-2147483648 : Int) ≤ v160 by omega) (show v160 ≤ (2147483647 : Int) by omega)
    have hF163 := Fr_a (z := v160) (k := 64) (n := (p).toNat) hF0 (by decide)
    obtain ⟨A161, eA161⟩ : ∃ q, q = uA A 64 (p).toNat (v160) := ⟨_, rfl⟩
    rw [← eA161]
    rw [← eA161] at hW162 hF163
    have q164 : A161 64 (p).toNat = v160 := by rw [eA161]; exact uA_eq
    refine jx_ld (pc_q := 369) (l_q := [(0, .ref 66), (1, .int (i32 (p))), (2, .int (i32 (fn))), (3, .int (i32 (op1)))]) (st_q := [.ref 66]) rfl (jl_aloadn rfl) ?_
    refine jr_get (pc_q := 372) (i := 97) (v := .ref 133) rfl rfl (by decide) rfl rfl ?_
    refine jx_ld (pc_q := 373) (l_q := [(0, .ref 66), (1, .int (i32 (p))), (2, .int (i32 (fn))), (3, .int (i32 (op1)))]) (st_q := [.int (i32 (p)), .ref 133]) rfl (jl_iloadn rfl) ?_
    refine jx_ar (pc_q := 374) (st_q := [.int (i32 (2)), .int (i32 (p)), .ref 133]) rfl rfl rfl rfl ?_
    refine jx_ld (pc_q := 375) (l_q := [(0, .ref 66), (1, .int (i32 (p))), (2, .int (i32 (fn))), (3, .int (i32 (op1)))]) (st_q := [.ref 66, .int (i32 (2)), .int (i32 (p)), .ref 133]) rfl (jl_aloadn rfl) ?_
    refine jr_get (pc_q := 378) (i := 95) (v := .ref 131) rfl rfl (by decide) rfl rfl ?_
    refine jx_ld (pc_q := 379) (l_q := [(0, .ref 66), (1, .int (i32 (p))), (2, .int (i32 (fn))), (3, .int (i32 (op1)))]) (st_q := [.int (i32 (p)), .ref 131, .int (i32 (2)), .int (i32 (p)), .ref 133]) rfl (jl_iloadn rfl) ?_
    refine jr_ldv (pc_q := 380) (i := 64) (m := 6) (z := p) (y := v160) rfl (by decide) rfl (by decide) (by omega) (by omega) rfl (show A161 64 (p).toNat = v160 from (q164)) ?_
    refine jx_mul (pc_q := 381) rfl rfl ?_
    refine jx_ld (pc_q := 382) (l_q := [(0, .ref 66), (1, .int (i32 (p))), (2, .int (i32 (fn))), (3, .int (i32 (op1)))]) (st_q := [.ref 66, .int (i32 ((2 * v160))), .int (i32 (p)), .ref 133]) rfl (jl_aloadn rfl) ?_
    refine jr_get (pc_q := 385) (i := 97) (v := .ref 133) rfl rfl (by decide) rfl rfl ?_
    refine jx_ld (pc_q := 386) (l_q := [(0, .ref 66), (1, .int (i32 (p))), (2, .int (i32 (fn))), (3, .int (i32 (op1)))]) (st_q := [.int (i32 (p)), .ref 133, .int (i32 ((2 * v160))), .int (i32 (p)), .ref 133]) rfl (jl_iloadn rfl) ?_
    refine jr_ldv (pc_q := 387) (i := 66) (m := 6) (z := p) (y := rn) rfl (by decide) rfl (by decide) (by omega) (by omega) rfl (show A161 66 (p).toNat = rn from (congrFun ((congrFun eA161 66).trans (uA_ne (by decide))) _).trans (e_rn)) ?_
    refine jx_ar (pc_q := 388) (st_q := [.int (i32 (1)), .int (i32 (rn)), .int (i32 ((2 * v160))), .int (i32 (p)), .ref 133]) rfl rfl rfl rfl ?_
    refine jx_and (pc_q := 389) rfl rfl ?_
    obtain ⟨b165, eb165⟩ : ∃ z, z = (i32 (rn) &&& i32 (1)).toInt := ⟨_, rfl⟩
    rw [← eb165]
    have rb165 : (-2147483648 : Int) ≤ b165 ∧ b165 ≤ 2147483647 := eb165 ▸ i32_rg _
    have hb165 := (show b165 = (i32 rn &&& i32 1).toInt from eb165).trans (and_1f (by omega) (by omega))
    refine jx_add (pc_q := 390) rfl rfl ?_
    obtain ⟨v166, ev166⟩ : ∃ z, z = (i32 ((2 * v160) + b165)).toInt := ⟨_, rfl⟩; have fv166 : i32 ((2 * v160) + b165) = i32 v166 := (by rw [ev166]; exact (i32_of _).symm); rw [fv166]; have rv166 : (-2147483648 : Int) ≤ v166 ∧ v166 ≤ 2147483647 := ev166 ▸ i32_rg _
    refine jr_st (pc_q := 391) (i := 66) (m := 6) (z := p) (y := v166) rfl (by decide) rfl (by decide) (by omega) (by omega) rfl ?_
    have hW168 : Wk G (uA A161 66 (p).toNat (v166)) := Wk_a hW162 (show (-2147483648 : Int) ≤ v166 by omega) (show v166 ≤ (2147483647 : Int) by omega)
    have hF169 := Fr_a (z := v166) (k := 66) (n := (p).toNat) hF163 (by decide)
    obtain ⟨A167, eA167⟩ : ∃ q, q = uA A161 66 (p).toNat (v166) := ⟨_, rfl⟩
    rw [← eA167]
    rw [← eA167] at hW168 hF169
    have q170 : A167 66 (p).toNat = v166 := by rw [eA167]; exact uA_eq
    refine jx_go (tg := 474) rfl rfl ?_
    refine jx_rt (v := none) rfl rfl rfl rfl rfl rfl ?_
    exact ⟨_, _, rfl, rfl, hW168, hF169, (acR_ajw _ _ _ _ _ (by omega) e_rw e_rn ev160 hb165 eA161 (eA167.trans (by rw [ev166]))), trivial⟩
  · refine jx_swe (z := 12) (tg := 394) h1 rfl rfl rfl rfl ?_
    have _q : True := trivial
    refine jx_ld (pc_q := 395) (l_q := [(0, .ref 66), (1, .int (i32 (p))), (2, .int (i32 (fn))), (3, .int (i32 (op1)))]) (st_q := [.ref 66]) rfl (jl_aloadn rfl) ?_
    refine jr_get (pc_q := 398) (i := 91) (v := .ref 127) rfl rfl (by decide) rfl rfl ?_
    refine jx_ld (pc_q := 399) (l_q := [(0, .ref 66), (1, .int (i32 (p))), (2, .int (i32 (fn))), (3, .int (i32 (op1)))]) (st_q := [.int (i32 (p)), .ref 127]) rfl (jl_iloadn rfl) ?_
    refine jx_ld (pc_q := 400) (l_q := [(0, .ref 66), (1, .int (i32 (p))), (2, .int (i32 (fn))), (3, .int (i32 (op1)))]) (st_q := [.ref 66, .int (i32 (p)), .ref 127]) rfl (jl_aloadn rfl) ?_
    refine jr_get (pc_q := 403) (i := 91) (v := .ref 127) rfl rfl (by decide) rfl rfl ?_
    refine jx_ld (pc_q := 404) (l_q := [(0, .ref 66), (1, .int (i32 (p))), (2, .int (i32 (fn))), (3, .int (i32 (op1)))]) (st_q := [.int (i32 (p)), .ref 127, .int (i32 (p)), .ref 127]) rfl (jl_iloadn rfl) ?_
    refine jr_ldv (pc_q := 405) (i := 60) (m := 6) (z := p) (y := ra) rfl (by decide) rfl (by decide) (by omega) (by omega) rfl (show A 60 (p).toNat = ra from (e_ra)) ?_
    refine jx_ld (pc_q := 406) (l_q := [(0, .ref 66), (1, .int (i32 (p))), (2, .int (i32 (fn))), (3, .int (i32 (op1)))]) (st_q := [.int (i32 (op1)), .int (i32 (ra)), .int (i32 (p)), .ref 127]) rfl (jl_iloadn rfl) ?_
    refine jx_icmp_ne (pc_q := 409) (tg := 413) rfl rfl rfl (Int.le_trans (by decide : (-2147483648 : Int) ≤ -2147483648) b_ra.1) (Int.le_trans b_ra.2 (by decide : (2147483647 : Int) ≤ 2147483647)) (Int.le_trans (by decide : (-2147483648 : Int) ≤ -2147483648) h_op1.1) (Int.le_trans h_op1.2 (by decide : (2147483647 : Int) ≤ 2147483647)) (fun h171 => ?_) (fun h171 => ?_)
    · have _q := h171
      refine jx_ar (pc_q := 414) (st_q := [.int (i32 (0)), .int (i32 (p)), .ref 127]) rfl rfl rfl rfl ?_
      refine jr_st (pc_q := 415) (i := 60) (m := 6) (z := p) (y := 0) rfl (by decide) rfl (by decide) (by omega) (by omega) rfl ?_
      have hW173 : Wk G (uA A 60 (p).toNat (0)) := Wk_a hW (show (-2147483648 : Int) ≤ 0 by omega) (show 0 ≤ (2147483647 : Int) by omega)
      have hF174 := Fr_a (z := 0) (k := 60) (n := (p).toNat) hF0 (by decide)
      obtain ⟨A172, eA172⟩ : ∃ q, q = uA A 60 (p).toNat (0) := ⟨_, rfl⟩
      rw [← eA172]
      rw [← eA172] at hW173 hF174
      have q175 : A172 60 (p).toNat = 0 := by rw [eA172]; exact uA_eq
      refine jx_go (tg := 474) rfl rfl ?_
      refine jx_rt (v := none) rfl rfl rfl rfl rfl rfl ?_
      exact ⟨_, _, rfl, rfl, hW173, hF174, (acR_eqc _ (by omega) eA172), trivial⟩
    · have _q := h171
      refine jx_ar (pc_q := 410) (st_q := [.int (i32 (1)), .int (i32 (p)), .ref 127]) rfl rfl rfl rfl ?_
      refine jx_go (tg := 414) rfl rfl ?_
      refine jr_st (pc_q := 415) (i := 60) (m := 6) (z := p) (y := 1) rfl (by decide) rfl (by decide) (by omega) (by omega) rfl ?_
      have hW177 : Wk G (uA A 60 (p).toNat (1)) := Wk_a hW (show (-2147483648 : Int) ≤ 1 by omega) (show 1 ≤ (2147483647 : Int) by omega)
      have hF178 := Fr_a (z := 1) (k := 60) (n := (p).toNat) hF0 (by decide)
      obtain ⟨A176, eA176⟩ : ∃ q, q = uA A 60 (p).toNat (1) := ⟨_, rfl⟩
      rw [← eA176]
      rw [← eA176] at hW177 hF178
      have q179 : A176 60 (p).toNat = 1 := by rw [eA176]; exact uA_eq
      refine jx_go (tg := 474) rfl rfl ?_
      refine jx_rt (v := none) rfl rfl rfl rfl rfl rfl ?_
      exact ⟨_, _, rfl, rfl, hW177, hF178, (acR_eqc _ (by omega) eA176), trivial⟩
  · refine jx_swe (z := 13) (tg := 418) h1 rfl rfl rfl rfl ?_
    have _q : True := trivial
    refine jx_ld (pc_q := 419) (l_q := [(0, .ref 66), (1, .int (i32 (p))), (2, .int (i32 (fn))), (3, .int (i32 (op1)))]) (st_q := [.ref 66]) rfl (jl_aloadn rfl) ?_
    refine jx_ld (pc_q := 420) (l_q := [(0, .ref 66), (1, .int (i32 (p))), (2, .int (i32 (fn))), (3, .int (i32 (op1)))]) (st_q := [.int (i32 (p)), .ref 66]) rfl (jl_iloadn rfl) ?_
    refine jx_ld (pc_q := 421) (l_q := [(0, .ref 66), (1, .int (i32 (p))), (2, .int (i32 (fn))), (3, .int (i32 (op1)))]) (st_q := [.ref 66, .int (i32 (p)), .ref 66]) rfl (jl_aloadn rfl) ?_
    refine jr_get (pc_q := 424) (i := 95) (v := .ref 131) rfl rfl (by decide) rfl rfl ?_
    refine jx_ld (pc_q := 425) (l_q := [(0, .ref 66), (1, .int (i32 (p))), (2, .int (i32 (fn))), (3, .int (i32 (op1)))]) (st_q := [.int (i32 (p)), .ref 131, .int (i32 (p)), .ref 66]) rfl (jl_iloadn rfl) ?_
    refine jr_ldv (pc_q := 426) (i := 64) (m := 6) (z := p) (y := rw) rfl (by decide) rfl (by decide) (by omega) (by omega) rfl (show A 64 (p).toNat = rw from (e_rw)) ?_
    refine jx_ld (pc_q := 427) (l_q := [(0, .ref 66), (1, .int (i32 (p))), (2, .int (i32 (fn))), (3, .int (i32 (op1)))]) (st_q := [.int (i32 (op1)), .int (i32 (rw)), .int (i32 (p)), .ref 66]) rfl (jl_iloadn rfl) ?_
    refine jx_add (pc_q := 428) rfl rfl ?_
    obtain ⟨v180, ev180⟩ : ∃ z, z = (i32 (rw + op1)).toInt := ⟨_, rfl⟩; have fv180 : i32 (rw + op1) = i32 v180 := (by rw [ev180]; exact (i32_of _).symm); rw [fv180]; have rv180 : (-2147483648 : Int) ≤ v180 ∧ v180 ≤ 2147483647 := ev180 ▸ i32_rg _
    refine jx_ld (pc_q := 429) (l_q := [(0, .ref 66), (1, .int (i32 (p))), (2, .int (i32 (fn))), (3, .int (i32 (op1)))]) (st_q := [.ref 66, .int (i32 (v180)), .int (i32 (p)), .ref 66]) rfl (jl_aloadn rfl) ?_
    refine jr_get (pc_q := 432) (i := 91) (v := .ref 127) rfl rfl (by decide) rfl rfl ?_
    refine jx_ld (pc_q := 433) (l_q := [(0, .ref 66), (1, .int (i32 (p))), (2, .int (i32 (fn))), (3, .int (i32 (op1)))]) (st_q := [.int (i32 (p)), .ref 127, .int (i32 (v180)), .int (i32 (p)), .ref 66]) rfl (jl_iloadn rfl) ?_
    refine jr_ldv (pc_q := 434) (i := 60) (m := 6) (z := p) (y := ra) rfl (by decide) rfl (by decide) (by omega) (by omega) rfl (show A 60 (p).toNat = ra from (e_ra)) ?_
    refine jx_vr (pc_q := 437) (as := [.int (i32 (p)), .int (i32 (v180)), .int (i32 (ra))]) (st := []) rfl rfl rfl rfl ⟨rfl, rfl, Nat.le_of_ble_eq_true rfl⟩ rfl rfl (c_store (dd := d) (hd := by omega) (hW := hW) (p := p) (a := v180) (v := ra)   (h_p := ⟨(Int.le_trans (by decide : (-2147483648 : Int) ≤ -2147483648) h_p.1), (Int.le_trans h_p.2 (by decide : (2147483647 : Int) ≤ 2147483647))⟩) (h_a := ⟨(Int.le_trans (by decide : (-2147483648 : Int) ≤ -2147483648) rv180.1), (Int.le_trans rv180.2 (by decide : (2147483647 : Int) ≤ 2147483647))⟩) (h_v := ⟨(Int.le_trans (by decide : (-2147483648 : Int) ≤ -2147483648) b_ra.1), (Int.le_trans b_ra.2 (by decide : (2147483647 : Int) ≤ 2147483647))⟩)  (p_0 := by omega) (p_1 := by omega)) (fun o V_q hq => ?_)
    obtain ⟨G181, A182, rfl, rfl, hW183, hF184, p185, -⟩ := hq
    have hF187 := Fr_tr hF0 hF184 (Fr_sub (by decide)) (Fr_sub (by decide))
    refine .inl ⟨rfl, ?_⟩
    refine jx_ld (pc_q := 438) (l_q := [(0, .ref 66), (1, .int (i32 (p))), (2, .int (i32 (fn))), (3, .int (i32 (op1)))]) (st_q := [.ref 66]) rfl (jl_aloadn rfl) ?_
    refine jx_ld (pc_q := 439) (l_q := [(0, .ref 66), (1, .int (i32 (p))), (2, .int (i32 (fn))), (3, .int (i32 (op1)))]) (st_q := [.int (i32 (p)), .ref 66]) rfl (jl_iloadn rfl) ?_
    refine jx_vr (pc_q := 442) (as := [.int (i32 (p))]) (st := []) rfl rfl rfl rfl ⟨rfl, rfl, Nat.le_of_ble_eq_true rfl⟩ rfl rfl (c_take (dd := d) (hd := by omega) (hW := hW183) (p := p)   (h_p := ⟨(Int.le_trans (by decide : (-2147483648 : Int) ≤ -2147483648) h_p.1), (Int.le_trans h_p.2 (by decide : (2147483647 : Int) ≤ 2147483647))⟩)  (p_0 := by omega) (p_1 := by omega)) (fun o V_q hq => ?_)
    obtain ⟨G188, A189, rfl, rfl, hW190, hF191, p192, -⟩ := hq
    have hF194 := Fr_tr hF187 hF191 (Fr_sub (by decide)) (Fr_sub (by decide))
    refine .inl ⟨rfl, ?_⟩
    refine jx_go (tg := 474) rfl rfl ?_
    refine jx_rt (v := none) rfl rfl rfl rfl rfl rfl ?_
    exact ⟨_, _, rfl, rfl, hW190, hF194, (acR_stl _ _ _ _ (by omega) e_rw e_ra ev180 p185 p192), trivial⟩
  · refine jx_swt (tg := 445) (by omega) (by omega) rfl h1 rfl ?_
    have _q : True := trivial
    refine jx_ld (pc_q := 446) (l_q := [(0, .ref 66), (1, .int (i32 (p))), (2, .int (i32 (fn))), (3, .int (i32 (op1)))]) (st_q := [.ref 66]) rfl (jl_aloadn rfl) ?_
    refine jx_ld (pc_q := 447) (l_q := [(0, .ref 66), (1, .int (i32 (p))), (2, .int (i32 (fn))), (3, .int (i32 (op1)))]) (st_q := [.int (i32 (p)), .ref 66]) rfl (jl_iloadn rfl) ?_
    refine jx_ld (pc_q := 448) (l_q := [(0, .ref 66), (1, .int (i32 (p))), (2, .int (i32 (fn))), (3, .int (i32 (op1)))]) (st_q := [.ref 66, .int (i32 (p)), .ref 66]) rfl (jl_aloadn rfl) ?_
    refine jr_get (pc_q := 451) (i := 91) (v := .ref 127) rfl rfl (by decide) rfl rfl ?_
    refine jx_ld (pc_q := 452) (l_q := [(0, .ref 66), (1, .int (i32 (p))), (2, .int (i32 (fn))), (3, .int (i32 (op1)))]) (st_q := [.int (i32 (p)), .ref 127, .int (i32 (p)), .ref 66]) rfl (jl_iloadn rfl) ?_
    refine jr_ldv (pc_q := 453) (i := 60) (m := 6) (z := p) (y := ra) rfl (by decide) rfl (by decide) (by omega) (by omega) rfl (show A 60 (p).toNat = ra from (e_ra)) ?_
    refine jx_ld (pc_q := 454) (l_q := [(0, .ref 66), (1, .int (i32 (p))), (2, .int (i32 (fn))), (3, .int (i32 (op1)))]) (st_q := [.int (i32 (op1)), .int (i32 (ra)), .int (i32 (p)), .ref 66]) rfl (jl_iloadn rfl) ?_
    refine jx_add (pc_q := 455) rfl rfl ?_
    obtain ⟨v195, ev195⟩ : ∃ z, z = (i32 (ra + op1)).toInt := ⟨_, rfl⟩; have fv195 : i32 (ra + op1) = i32 v195 := (by rw [ev195]; exact (i32_of _).symm); rw [fv195]; have rv195 : (-2147483648 : Int) ≤ v195 ∧ v195 ≤ 2147483647 := ev195 ▸ i32_rg _
    refine jx_ld (pc_q := 456) (l_q := [(0, .ref 66), (1, .int (i32 (p))), (2, .int (i32 (fn))), (3, .int (i32 (op1)))]) (st_q := [.ref 66, .int (i32 (v195)), .int (i32 (p)), .ref 66]) rfl (jl_aloadn rfl) ?_
    refine jr_get (pc_q := 459) (i := 92) (v := .ref 128) rfl rfl (by decide) rfl rfl ?_
    refine jx_ld (pc_q := 460) (l_q := [(0, .ref 66), (1, .int (i32 (p))), (2, .int (i32 (fn))), (3, .int (i32 (op1)))]) (st_q := [.int (i32 (p)), .ref 128, .int (i32 (v195)), .int (i32 (p)), .ref 66]) rfl (jl_iloadn rfl) ?_
    refine jr_ldv (pc_q := 461) (i := 61) (m := 6) (z := p) (y := rb) rfl (by decide) rfl (by decide) (by omega) (by omega) rfl (show A 61 (p).toNat = rb from (e_rb)) ?_
    refine jx_vr (pc_q := 464) (as := [.int (i32 (p)), .int (i32 (v195)), .int (i32 (rb))]) (st := []) rfl rfl rfl rfl ⟨rfl, rfl, Nat.le_of_ble_eq_true rfl⟩ rfl rfl (c_store (dd := d) (hd := by omega) (hW := hW) (p := p) (a := v195) (v := rb)   (h_p := ⟨(Int.le_trans (by decide : (-2147483648 : Int) ≤ -2147483648) h_p.1), (Int.le_trans h_p.2 (by decide : (2147483647 : Int) ≤ 2147483647))⟩) (h_a := ⟨(Int.le_trans (by decide : (-2147483648 : Int) ≤ -2147483648) rv195.1), (Int.le_trans rv195.2 (by decide : (2147483647 : Int) ≤ 2147483647))⟩) (h_v := ⟨(Int.le_trans (by decide : (-2147483648 : Int) ≤ -2147483648) b_rb.1), (Int.le_trans b_rb.2 (by decide : (2147483647 : Int) ≤ 2147483647))⟩)  (p_0 := by omega) (p_1 := by omega)) (fun o V_q hq => ?_)
    obtain ⟨G196, A197, rfl, rfl, hW198, hF199, p200, -⟩ := hq
    have hF202 := Fr_tr hF0 hF199 (Fr_sub (by decide)) (Fr_sub (by decide))
    refine .inl ⟨rfl, ?_⟩
    refine jx_ld (pc_q := 465) (l_q := [(0, .ref 66), (1, .int (i32 (p))), (2, .int (i32 (fn))), (3, .int (i32 (op1)))]) (st_q := [.ref 66]) rfl (jl_aloadn rfl) ?_
    refine jx_ld (pc_q := 466) (l_q := [(0, .ref 66), (1, .int (i32 (p))), (2, .int (i32 (fn))), (3, .int (i32 (op1)))]) (st_q := [.int (i32 (p)), .ref 66]) rfl (jl_iloadn rfl) ?_
    refine jx_vr (pc_q := 469) (as := [.int (i32 (p))]) (st := []) rfl rfl rfl rfl ⟨rfl, rfl, Nat.le_of_ble_eq_true rfl⟩ rfl rfl (c_take (dd := d) (hd := by omega) (hW := hW198) (p := p)   (h_p := ⟨(Int.le_trans (by decide : (-2147483648 : Int) ≤ -2147483648) h_p.1), (Int.le_trans h_p.2 (by decide : (2147483647 : Int) ≤ 2147483647))⟩)  (p_0 := by omega) (p_1 := by omega)) (fun o V_q hq => ?_)
    obtain ⟨G203, A204, rfl, rfl, hW205, hF206, p207, -⟩ := hq
    have hF209 := Fr_tr hF202 hF206 (Fr_sub (by decide)) (Fr_sub (by decide))
    refine .inl ⟨rfl, ?_⟩
    refine jx_ld (pc_q := 470) (l_q := [(0, .ref 66), (1, .int (i32 (p))), (2, .int (i32 (fn))), (3, .int (i32 (op1)))]) (st_q := [.ref 66]) rfl (jl_aloadn rfl) ?_
    refine jx_ld (pc_q := 471) (l_q := [(0, .ref 66), (1, .int (i32 (p))), (2, .int (i32 (fn))), (3, .int (i32 (op1)))]) (st_q := [.int (i32 (p)), .ref 66]) rfl (jl_iloadn rfl) ?_
    refine jx_vr (pc_q := 474) (as := [.int (i32 (p))]) (st := []) rfl rfl rfl rfl ⟨rfl, rfl, Nat.le_of_ble_eq_true rfl⟩ rfl rfl (c_take (dd := d) (hd := by omega) (hW := hW205) (p := p)   (h_p := ⟨(Int.le_trans (by decide : (-2147483648 : Int) ≤ -2147483648) h_p.1), (Int.le_trans h_p.2 (by decide : (2147483647 : Int) ≤ 2147483647))⟩)  (p_0 := by omega) (p_1 := by omega)) (fun o V_q hq => ?_)
    obtain ⟨G210, A211, rfl, rfl, hW212, hF213, p214, -⟩ := hq
    have hF216 := Fr_tr hF209 hF213 (Fr_sub (by decide)) (Fr_sub (by decide))
    refine .inl ⟨rfl, ?_⟩
    refine jx_rt (v := none) rfl rfl rfl rfl rfl rfl ?_
    exact ⟨_, _, rfl, rfl, hW212, hF216, (acR_stnl _ _ _ _ _ (by omega) e_ra e_rb ev195 p200 p207 p214), trivial⟩
