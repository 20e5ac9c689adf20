theorem jx_ushrw {X : jX} {d : Nat} {e : jM} {pc pc_q : Nat} {l : jL} {st : List Value} {V : jH} {Q : jO → jH → Prop} {x y : Int} (h1 : jGet' e pc = some (.iushr, 1)) (hp : pc + 1 = pc_q) (k : ∀ r : Int, -2147483648 ≤ r ∧ r ≤ 2147483647 → wj X d e (pc_q, l, .int (i32 r) :: st, V) Q) : wj X d e (pc, l, .int (i32 y) :: .int (i32 x) :: st, V) Q := by
  refine jx_ar h1 rfl ?_ hp (k ((i32 x).toUInt32 >>> ((i32 y).toUInt32 &&& Int32.toUInt32 31)).toInt32.toInt (i32_rg _))
  rw [i32_of]
  rfl
/-- n words from a on -/
def fiM (A : Nat → Nat → Int) (p a c : Int) : Nat → (Nat → Nat → Int)
  | 0 => A
  | n + 1 => stM (fiM A p a c n) p (i32 (a + (n : Int))).toInt c
theorem fi_nx {A A1 A2 : Nat → Nat → Int} {p a c k k_q z : Int} (h : A1 = fiM A p a c k.toNat) (hk : 0 ≤ k) (hk' : k_q = k + 1) (hz : z = (i32 (a + k)).toInt) (e : A2 = stM A1 p z c) : A2 = fiM A p a c k_q.toNat := by
  subst hk' hz h
  rw [show (k + 1).toNat = k.toNat + 1 by omega, e]
  show _ = stM _ p (i32 (a + ((k.toNat : Nat) : Int))).toInt c
  rw [show ((k.toNat : Nat) : Int) = k by omega]
theorem fi_k {A : Nat → Nat → Int} {p a c : Int} {n k : Nat} (h : k ≠ 59) : fiM A p a c n k = A k := by
  induction n with
  | zero => rfl
  | succ n ih => exact (stM_ne h).trans ih
/-- the steps without an operand -/
def opR (A A_q : Nat → Nat → Int) (it im om p op1 : Int) : Prop :=
  (∃ ra rb : Int, ∃ A1 : Nat → Nat → Int, (op1 = 0) ∧ (A 60 p.toNat = ra) ∧ (A 61 p.toNat = rb) ∧ (A1 = uA A 60 p.toNat rb) ∧ (A_q = uA A1 61 p.toNat ra)) ∨
  (∃ ra rb : Int, (op1 = 1 ∨ op1 = 11) ∧ (A 60 p.toNat = ra) ∧ (A 61 p.toNat = rb) ∧ (A_q = twoM A p (i32 (ra + rb)).toInt)) ∨
  (∃ ra rb : Int, (op1 = 2) ∧ (A 60 p.toNat = ra) ∧ (A 61 p.toNat = rb) ∧ (A_q = twoM A p (i32 (rb - ra)).toInt)) ∨
  (∃ v : Int, (3 ≤ op1 ∧ op1 ≤ 10) ∧ (A_q = twoM A p v)) ∨
  ((4 ≤ op1 ∧ op1 ≤ 5) ∧ (A_q = faultM A p)) ∨
  (∃ ra rb : Int, (op1 = 12) ∧ (A 60 p.toNat = ra) ∧ (A 61 p.toNat = rb) ∧ (0 ≤ rb ∧ rb < ra) ∧ (A_q = takeM A p)) ∨
  (∃ ra rb : Int, ∃ A1 : Nat → Nat → Int, (op1 = 12) ∧ (A 60 p.toNat = ra) ∧ (A 61 p.toNat = rb) ∧ (rb < 0 ∨ ra ≤ rb) ∧ (A1 = takeM A p) ∧ (A_q = faultM A1 p)) ∨
  (∃ ra ri : Int, (op1 = 13) ∧ (A 60 p.toNat = ra) ∧ (A 63 p.toNat = ri) ∧ (A_q = uA A 60 p.toNat (i32 (ri + ra)).toInt)) ∨
  (∃ ra rb rc : Int, ∃ A1 A2 A3 : Nat → Nat → Int, (op1 = 14) ∧ (A 60 p.toNat = ra) ∧ (A 61 p.toNat = rb) ∧ (A 62 p.toNat = rc) ∧ (A1 = fiM A p ra rc rb.toNat) ∧ (A2 = uA A1 60 p.toNat 0) ∧ (A3 = uA A2 61 p.toNat 0) ∧ (A_q = uA A3 62 p.toNat 0)) ∨
  (∃ ra rb rn b d v1 v2 : Int, ∃ A1 A2 A3 A4 : Nat → Nat → Int, (op1 = 15 ∨ op1 = 16) ∧ (A 60 p.toNat = ra) ∧ (A 61 p.toNat = rb) ∧ (A 66 p.toNat = rn) ∧ (v1 = (i32 (ra - 1)).toInt) ∧ (v2 = (i32 (ra - 3)).toInt) ∧ (A1 = stM A p v1 rb) ∧ (A2 = stM A1 p v2 0) ∧ (A3 = takeM A2 p) ∧ (A4 = takeM A3 p) ∧ ((op1 = 16 ∧ b = 0) ∨ (op1 = 15 ∧ b = rn % 2)) ∧ (d = (i32 (2 * ra + b)).toInt) ∧ (mkR A4 A_q p d)) ∨
  (∃ ra : Int, (op1 = 17) ∧ (A 60 p.toNat = ra) ∧ (ebR A A_q p ra)) ∨
  ((op1 = 18) ∧ (A_q = goneM A p)) ∨
  (∃ rw rn r b : Int, ∃ A1 A2 : Nat → Nat → Int, (op1 = 19) ∧ (A 64 p.toNat = rw) ∧ (A 66 p.toNat = rn) ∧ (r = ldM A p rw) ∧ (b = rn % 2) ∧ (A1 = uA A 63 p.toNat r) ∧ (A2 = uA A1 64 p.toNat (rw + 4)) ∧ (A_q = uA A2 66 p.toNat (2 * (rw + 4) + b))) ∨
  ((op1 = 29) ∧ (A_q = faultM A p)) ∨
  (∃ rn : Int, (op1 = 30) ∧ (A 66 p.toNat = rn) ∧ (A_q = comeM A p rn)) ∨
  (∃ A1 : Nat → Nat → Int, (op1 = 31) ∧ (A1 = uA A 68 p.toNat 1) ∧ (A_q = goneM A1 p)) ∨
  (∃ ra rb : Int, ((20 ≤ op1 ∧ op1 ≤ 28) ∨ op1 < 0 ∨ 32 ≤ op1) ∧ (A 60 p.toNat = ra) ∧ (A 61 p.toNat = rb) ∧ (spR A A_q it im om p op1 ra rb))
theorem opR_rev {A A_q : Nat → Nat → Int} {it im om p op1 : Int} (ra rb : Int) (A1 : Nat → Nat → Int) (h : op1 = 0) (ha : A 60 p.toNat = ra) (hb : A 61 p.toNat = rb) (e1 : A1 = uA A 60 p.toNat rb) (e : A_q = uA A1 61 p.toNat ra) : opR A A_q it im om p op1 := .inl ⟨ra, rb, A1, h, ha, hb, e1, e⟩
theorem opR_add {A A_q : Nat → Nat → Int} {it im om p op1 : Int} (ra rb : Int) (h : op1 = 1 ∨ op1 = 11) (ha : A 60 p.toNat = ra) (hb : A 61 p.toNat = rb) (e : A_q = twoM A p (i32 (ra + rb)).toInt) : opR A A_q it im om p op1 := .inr (.inl ⟨ra, rb, h, ha, hb, e⟩)
theorem opR_sub {A A_q : Nat → Nat → Int} {it im om p op1 : Int} (ra rb : Int) (h : op1 = 2) (ha : A 60 p.toNat = ra) (hb : A 61 p.toNat = rb) (e : A_q = twoM A p (i32 (rb - ra)).toInt) : opR A A_q it im om p op1 := .inr (.inr (.inl ⟨ra, rb, h, ha, hb, e⟩))
theorem opR_ari {A A_q : Nat → Nat → Int} {it im om p op1 : Int} (v : Int) (h : 3 ≤ op1 ∧ op1 ≤ 10) (e : A_q = twoM A p v) : opR A A_q it im om p op1 := .inr (.inr (.inr (.inl ⟨v, h, e⟩)))
theorem opR_dvf {A A_q : Nat → Nat → Int} {it im om p op1 : Int}  (h : 4 ≤ op1 ∧ op1 ≤ 5) (e : A_q = faultM A p) : opR A A_q it im om p op1 := .inr (.inr (.inr (.inr (.inl ⟨h, e⟩))))
theorem opR_chk0 {A A_q : Nat → Nat → Int} {it im om p op1 : Int} (ra rb : Int) (h : op1 = 12) (ha : A 60 p.toNat = ra) (hb : A 61 p.toNat = rb) (c : 0 ≤ rb ∧ rb < ra) (e : A_q = takeM A p) : opR A A_q it im om p op1 := .inr (.inr (.inr (.inr (.inr (.inl ⟨ra, rb, h, ha, hb, c, e⟩)))))
theorem opR_chk1 {A A_q : Nat → Nat → Int} {it im om p op1 : Int} (ra rb : Int) (A1 : Nat → Nat → Int) (h : op1 = 12) (ha : A 60 p.toNat = ra) (hb : A 61 p.toNat = rb) (c : rb < 0 ∨ ra ≤ rb) (t : A1 = takeM A p) (e : A_q = faultM A1 p) : opR A A_q it im om p op1 := .inr (.inr (.inr (.inr (.inr (.inr (.inl ⟨ra, rb, A1, h, ha, hb, c, t, e⟩))))))
theorem opR_ldpi {A A_q : Nat → Nat → Int} {it im om p op1 : Int} (ra ri : Int) (h : op1 = 13) (ha : A 60 p.toNat = ra) (hi : A 63 p.toNat = ri) (e : A_q = uA A 60 p.toNat (i32 (ri + ra)).toInt) : opR A A_q it im om p op1 := .inr (.inr (.inr (.inr (.inr (.inr (.inr (.inl ⟨ra, ri, h, ha, hi, e⟩)))))))
theorem opR_fill {A A_q : Nat → Nat → Int} {it im om p op1 : Int} (ra rb rc : Int) (A1 A2 A3 : Nat → Nat → Int) (h : op1 = 14) (ha : A 60 p.toNat = ra) (hb : A 61 p.toNat = rb) (hc : A 62 p.toNat = rc) (f : A1 = fiM A p ra rc rb.toNat) (e1 : A2 = uA A1 60 p.toNat 0) (e2 : A3 = uA A2 61 p.toNat 0) (e : A_q = uA A3 62 p.toNat 0) : opR A A_q it im om p op1 := .inr (.inr (.inr (.inr (.inr (.inr (.inr (.inr (.inl ⟨ra, rb, rc, A1, A2, A3, h, ha, hb, hc, f, e1, e2, e⟩))))))))
theorem opR_stp {A A_q : Nat → Nat → Int} {it im om p op1 : Int} (ra rb rn b d v1 v2 : Int) (A1 A2 A3 A4 : Nat → Nat → Int) (h : op1 = 15 ∨ op1 = 16) (ha : A 60 p.toNat = ra) (hb : A 61 p.toNat = rb) (hr : A 66 p.toNat = rn) (hv1 : v1 = (i32 (ra - 1)).toInt) (hv2 : v2 = (i32 (ra - 3)).toInt) (s1 : A1 = stM A p v1 rb) (s2 : A2 = stM A1 p v2 0) (t1 : A3 = takeM A2 p) (t2 : A4 = takeM A3 p) (hq : (op1 = 16 ∧ b = 0) ∨ (op1 = 15 ∧ b = rn % 2)) (hd : d = (i32 (2 * ra + b)).toInt) (m : mkR A4 A_q p d) : opR A A_q it im om p op1 := .inr (.inr (.inr (.inr (.inr (.inr (.inr (.inr (.inr (.inl ⟨ra, rb, rn, b, d, v1, v2, A1, A2, A3, A4, h, ha, hb, hr, hv1, hv2, s1, s2, t1, t2, hq, hd, m⟩)))))))))
theorem opR_endp {A A_q : Nat → Nat → Int} {it im om p op1 : Int} (ra : Int) (h : op1 = 17) (ha : A 60 p.toNat = ra) (k : ebR A A_q p ra) : opR A A_q it im om p op1 := .inr (.inr (.inr (.inr (.inr (.inr (.inr (.inr (.inr (.inr (.inl ⟨ra, h, ha, k⟩))))))))))
theorem opR_stop {A A_q : Nat → Nat → Int} {it im om p op1 : Int}  (h : op1 = 18) (e : A_q = goneM A p) : opR A A_q it im om p op1 := .inr (.inr (.inr (.inr (.inr (.inr (.inr (.inr (.inr (.inr (.inr (.inl ⟨h, e⟩)))))))))))
theorem opR_ret {A A_q : Nat → Nat → Int} {it im om p op1 : Int} (rw rn r b : Int) (A1 A2 : Nat → Nat → Int) (h : op1 = 19) (hw : A 64 p.toNat = rw) (hr : A 66 p.toNat = rn) (l : r = ldM A p rw) (hb : b = rn % 2) (e1 : A1 = uA A 63 p.toNat r) (e2 : A2 = uA A1 64 p.toNat (rw + 4)) (e : A_q = uA A2 66 p.toNat (2 * (rw + 4) + b)) : opR A A_q it im om p op1 := .inr (.inr (.inr (.inr (.inr (.inr (.inr (.inr (.inr (.inr (.inr (.inr (.inl ⟨rw, rn, r, b, A1, A2, h, hw, hr, l, hb, e1, e2, e⟩))))))))))))
theorem opR_fail {A A_q : Nat → Nat → Int} {it im om p op1 : Int}  (h : op1 = 29) (e : A_q = faultM A p) : opR A A_q it im om p op1 := .inr (.inr (.inr (.inr (.inr (.inr (.inr (.inr (.inr (.inr (.inr (.inr (.inr (.inl ⟨h, e⟩)))))))))))))
theorem opR_self {A A_q : Nat → Nat → Int} {it im om p op1 : Int} (rn : Int) (h : op1 = 30) (hr : A 66 p.toNat = rn) (e : A_q = comeM A p rn) : opR A A_q it im om p op1 := .inr (.inr (.inr (.inr (.inr (.inr (.inr (.inr (.inr (.inr (.inr (.inr (.inr (.inr (.inl ⟨rn, h, hr, e⟩))))))))))))))
theorem opR_done {A A_q : Nat → Nat → Int} {it im om p op1 : Int} (A1 : Nat → Nat → Int) (h : op1 = 31) (e1 : A1 = uA A 68 p.toNat 1) (e : A_q = goneM A1 p) : opR A A_q it im om p op1 := .inr (.inr (.inr (.inr (.inr (.inr (.inr (.inr (.inr (.inr (.inr (.inr (.inr (.inr (.inr (.inl ⟨A1, h, e1, e⟩)))))))))))))))
theorem opR_spk {A A_q : Nat → Nat → Int} {it im om p op1 : Int} (ra rb : Int) (h : (20 ≤ op1 ∧ op1 ≤ 28) ∨ op1 < 0 ∨ 32 ≤ op1) (ha : A 60 p.toNat = ra) (hb : A 61 p.toNat = rb) (k : spR A A_q it im om p op1 ra rb) : opR A A_q it im om p op1 := .inr (.inr (.inr (.inr (.inr (.inr (.inr (.inr (.inr (.inr (.inr (.inr (.inr (.inr (.inr (.inr (⟨ra, rb, h, ha, hb, k⟩))))))))))))))))

set_option maxRecDepth 20000 in
set_option maxHeartbeats 4000000 in
theorem c_fault2 {X : jX} {dd : Nat} {c0 c1 : jC} {G : Nat → Int} {A : Nat → Nat → Int} {T : jH} {p is : Int} (hd : 2 ≤ dd) (hW : Wk G A) (h_p : (-2147483648 : Int) ≤ p ∧ p ≤ 2147483647) (h_is : (0 : Int) ≤ is ∧ is ≤ 1) (p_0 : 0 ≤ p) (p_1 : p ≤ 5) : wk X dd 376 [.ref 66, .int (i32 p), .int (i32 is)] (rV c0 c1 G A T) (fun o V_q => ∃ (G_q : Nat → Int) (A_q : Nat → Nat → Int), V_q = rV c0 c1 G_q A_q T ∧ o = .inl none ∧ Wk G_q A_q ∧ Fr [] [66, 67] G A G_q A_q ∧ ((is = 0 ∧ A_q = A) ∨ (is = 1 ∧ A_q = faultM A p)) ∧ True) := by
  obtain ⟨d, rfl⟩ : ∃ d, dd = d + 1 := ⟨dd - 1, by omega⟩
  refine wk_of (e := jm376) rfl (Nat.le_of_ble_eq_true rfl) ?_
  show wj X d jm376 (0, [(0, .ref 66), (1, .int (i32 (p))), (2, .int (i32 (is)))], [], rV c0 c1 G A T) _
  have hF0 : Fr [] [66, 67] G A G A := Fr_rf
  refine jx_ld (pc_q := 1) (l_q := [(0, .ref 66), (1, .int (i32 (p))), (2, .int (i32 (is)))]) (st_q := [.int (i32 (is))]) rfl (jl_iloadn rfl) ?_
  refine jx_if_eq (pc_q := 4) (tg := 16) rfl rfl rfl (Int.le_trans (by decide : (-2147483648 : Int) ≤ 0) h_is.1) (Int.le_trans h_is.2 (by decide : (1 : Int) ≤ 2147483647)) (fun h1 => ?_) (fun h1 => ?_)
  · have _q := h1
    refine jx_rt (v := none) rfl rfl rfl rfl rfl rfl ?_
    exact ⟨_, _, rfl, rfl, hW, hF0, (.inl ⟨by omega, rfl⟩), trivial⟩
  · have _q := h1
    refine jx_ld (pc_q := 5) (l_q := [(0, .ref 66), (1, .int (i32 (p))), (2, .int (i32 (is)))]) (st_q := [.ref 66]) rfl (jl_aloadn rfl) ?_
    refine jr_get (pc_q := 8) (i := 98) (v := .ref 134) rfl rfl (by decide) rfl rfl ?_
    refine jx_ld (pc_q := 9) (l_q := [(0, .ref 66), (1, .int (i32 (p))), (2, .int (i32 (is)))]) (st_q := [.int (i32 (p)), .ref 134]) rfl (jl_iloadn rfl) ?_
    refine jx_ar (pc_q := 10) (st_q := [.int (i32 (1)), .int (i32 (p)), .ref 134]) rfl rfl rfl rfl ?_
    refine jr_sb (pc_q := 11) (i := 67) (m := 6) (z := p) (y := 1) rfl (by decide) rfl (by decide) (by omega) (by omega) (by omega) rfl ?_
    have hW3 : Wk G (uA A 67 (p).toNat (1)) := Wk_a hW (show (0 : Int) ≤ 1 by omega) (show 1 ≤ (1 : Int) by omega)
    have hF4 := Fr_a (z := 1) (k := 67) (n := (p).toNat) hF0 (by decide)
    obtain ⟨A2, eA2⟩ : ∃ q, q = uA A 67 (p).toNat (1) := ⟨_, rfl⟩
    rw [← eA2]
    rw [← eA2] at hW3 hF4
    have q5 : A2 67 (p).toNat = 1 := by rw [eA2]; exact uA_eq
    refine jx_ld (pc_q := 12) (l_q := [(0, .ref 66), (1, .int (i32 (p))), (2, .int (i32 (is)))]) (st_q := [.ref 66]) rfl (jl_aloadn rfl) ?_
    refine jx_ld (pc_q := 13) (l_q := [(0, .ref 66), (1, .int (i32 (p))), (2, .int (i32 (is)))]) (st_q := [.int (i32 (p)), .ref 66]) rfl (jl_iloadn rfl) ?_
    refine jx_vr (pc_q := 16) (as := [.int (i32 (p))]) (st := []) rfl rfl rfl rfl ⟨rfl, rfl, Nat.le_of_ble_eq_true rfl⟩ rfl rfl (c_gone (dd := d) (hd := by omega) (hW := hW3) (p := p)   (h_p := ⟨(Int.le_trans (by decide : (-2147483648 : Int) ≤ -2147483648) h_p.1), (Int.le_trans h_p.2 (by decide : (2147483647 : Int) ≤ 2147483647))⟩)  (p_0 := by omega) (p_1 := by omega)) (fun o V_q hq => ?_)
    obtain ⟨G6, A7, rfl, rfl, hW8, hF9, p10, -⟩ := hq
    have hF12 := Fr_tr hF4 hF9 (Fr_sub (by decide)) (Fr_sub (by decide))
    refine .inl ⟨rfl, ?_⟩
    refine jx_rt (v := none) rfl rfl rfl rfl rfl rfl ?_
    exact ⟨_, _, rfl, rfl, hW8, hF12, (.inr ⟨by omega, by rw [p10, eA2]; rfl⟩), trivial⟩
set_option maxRecDepth 20000 in
set_option maxHeartbeats 4000000 in
theorem c_operate_at_406 {X : jX} {d : Nat} {c0 c1 : jC} {G : Nat → Int} {A : Nat → Nat → Int} {T : jH} {p op1 : Int} {m0 m1 rw rn it im om ri ra rb rc : Int} (hd : 8 ≤ d + 1) (hW : Wk G A) (e_m0 : A 72 ((2 * p)).toNat = m0) (e_m1 : A 72 (((2 * p) + 1)).toNat = m1) (e_rw : A 64 (p).toNat = rw) (e_rn : A 66 (p).toNat = rn) (e_it : G 111 = it) (e_im : G 110 = im) (e_om : G 113 = om) (e_ri : A 63 (p).toNat = ri) (e_ra : A 60 (p).toNat = ra) (e_rb : A 61 (p).toNat = rb) (e_rc : A 62 (p).toNat = rc) (h_p : (-2147483648 : Int) ≤ p ∧ p ≤ 2147483647) (h_op1 : (-2147483648 : Int) ≤ op1 ∧ op1 ≤ 2147483647) (p_0 : 0 ≤ p) (p_1 : p ≤ 5) (p_2 : 0 ≤ m0) (p_3 : m0 ≤ 1099) (p_4 : 0 ≤ m1) (p_5 : m1 ≤ 1099) (p_6 : -1000000 ≤ rw) (p_7 : rw ≤ 1000000) (p_8 : 0 ≤ rn ∨ rn ≤ -2) (p_9 : 0 ≤ it) (p_10 : it ≤ im) (p_11 : im ≤ 200) (p_12 : 0 ≤ om) (p_13 : om ≤ 2000000000) (p_14 : op1 < 17 ∨ 18 ≤ op1 ∨ (-1000000 ≤ ra ∧ ra ≤ 1000000)) : ∀ (m : Nat) (L : jL) (Gx : Nat → Int) (Ax : Nat → Nat → Int) (k rc1 om1 it1 : Int), (rb - k).toNat = m → jGet L 0 = some (.ref 66) → jGet L 1 = some (.int (i32 (p))) → jGet L 2 = some (.int (i32 (op1))) → jGet L 3 = some (.int (i32 (ra))) → jGet L 4 = some (.int (i32 (rb))) → jGet L 5 = some (.int (i32 (rw))) → jGet L 6 = some (.int (i32 k)) → Wk Gx Ax → Fr [111, 113] [59, 60, 61, 62, 63, 64, 65, 66, 67, 68, 70, 71, 72, 73, 79, 80, 81, 82, 83, 84, 85] G A Gx Ax → Ax 62 (p).toNat = rc1 → Gx 113 = om1 → Gx 111 = it1 → ((-2147483648 : Int) ≤ k ∧ k ≤ 2147483647) → (0 ≤ k) → (k ≤ 0 ∨ k ≤ rb) → (op1 = 14) → (rc1 = rc) → (om1 = om) → (it1 = it) → (Ax = fiM A p (ra) (rc1) (k).toNat) → wj X d jm382 (406, L, [], rV c0 c1 Gx Ax T) (fun o V_q => ∃ (G_q : Nat → Int) (A_q : Nat → Nat → Int) (om2 : Int) (it2 : Int), V_q = rV c0 c1 G_q A_q T ∧ o = .inl none ∧ Wk G_q A_q ∧ Fr [111, 113] [59, 60, 61, 62, 63, 64, 65, 66, 67, 68, 70, 71, 72, 73, 79, 80, 81, 82, 83, 84, 85] G A G_q A_q ∧ G_q 113 = om2 ∧ G_q 111 = it2 ∧ (om ≤ om2) ∧ (om2 ≤ om + 1) ∧ (it ≤ it2) ∧ (it2 ≤ im) ∧ (opR A A_q (it) (im) (om) (p) (op1)) ∧ True) := by
  have hF0 : Fr [111, 113] [59, 60, 61, 62, 63, 64, 65, 66, 67, 68, 70, 71, 72, 73, 79, 80, 81, 82, 83, 84, 85] G A G A := Fr_rf
  have b_m0 : (-2147483648 : Int) ≤ m0 ∧ m0 ≤ 2147483647 := e_m0 ▸ hW.2 72 _
  have b_m1 : (-2147483648 : Int) ≤ m1 ∧ m1 ≤ 2147483647 := e_m1 ▸ hW.2 72 _
  have b_rw : (-2147483648 : Int) ≤ rw ∧ rw ≤ 2147483647 := e_rw ▸ hW.2 64 _
  have b_rn : (-2147483648 : Int) ≤ rn ∧ rn ≤ 2147483647 := e_rn ▸ hW.2 66 _
  have b_it : (-2147483648 : Int) ≤ it ∧ it ≤ 2147483647 := e_it ▸ hW.1 111
  have b_im : (-2147483648 : Int) ≤ im ∧ im ≤ 2147483647 := e_im ▸ hW.1 110
  have b_om : (-2147483648 : Int) ≤ om ∧ om ≤ 2147483647 := e_om ▸ hW.1 113
  have b_ri : (-2147483648 : Int) ≤ ri ∧ ri ≤ 2147483647 := e_ri ▸ hW.2 63 _
  have b_ra : (-2147483648 : Int) ≤ ra ∧ ra ≤ 2147483647 := e_ra ▸ hW.2 60 _
  have b_rb : (-2147483648 : Int) ≤ rb ∧ rb ≤ 2147483647 := e_rb ▸ hW.2 61 _
  have b_rc : (-2147483648 : Int) ≤ rc ∧ rc ≤ 2147483647 := e_rc ▸ hW.2 62 _
  intro m
  induction m using Nat.strongRecOn with
  | ind m ih406 =>
    intro L Gx Ax k rc1 om1 it1 hm gL_0 gL_1 gL_2 gL_3 gL_4 gL_5 gL_6 hWx hFx ex_rc1 ex_om1 ex_it1 rx_k iv_0 iv_1 iv_2 iv_3 iv_4 iv_5 iv_6
    have b_om1 : (-2147483648 : Int) ≤ om1 ∧ om1 ≤ 2147483647 := ex_om1 ▸ hWx.1 113
    have b_it1 : (-2147483648 : Int) ≤ it1 ∧ it1 ≤ 2147483647 := ex_it1 ▸ hWx.1 111
    refine jx_ld (pc_q := 408) (l_q := L) (st_q := [.int (i32 (k))]) rfl (jl_iload gL_6) ?_
    refine jx_ld (pc_q := 410) (l_q := L) (st_q := [.int (i32 (rb)), .int (i32 (k))]) rfl (jl_iload gL_4) ?_
    refine jx_icmp_ge (pc_q := 413) (tg := 434) rfl rfl rfl (Int.le_trans (by decide : (-2147483648 : Int) ≤ -2147483648) rx_k.1) (Int.le_trans rx_k.2 (by decide : (2147483647 : Int) ≤ 2147483647)) (Int.le_trans (by decide : (-2147483648 : Int) ≤ -2147483648) b_rb.1) (Int.le_trans b_rb.2 (by decide : (2147483647 : Int) ≤ 2147483647)) (fun h1 => ?_) (fun h1 => ?_)
    · have _q := h1
      refine jx_ld (pc_q := 435) (l_q := L) (st_q := [.ref 66]) rfl (jl_aloadn gL_0) ?_
      refine jr_get (pc_q := 438) (i := 91) (v := .ref 127) rfl rfl (by decide) rfl rfl ?_
      refine jx_ld (pc_q := 439) (l_q := L) (st_q := [.int (i32 (p)), .ref 127]) rfl (jl_iloadn gL_1) ?_
      refine jx_ar (pc_q := 440) (st_q := [.int (i32 (0)), .int (i32 (p)), .ref 127]) rfl rfl rfl rfl ?_
      refine jr_st (pc_q := 441) (i := 60) (m := 6) (z := p) (y := 0) rfl (by decide) rfl (by decide) (by omega) (by omega) rfl ?_
      have hW3 : Wk Gx (uA Ax 60 (p).toNat (0)) := Wk_a hWx (show (-2147483648 : Int) ≤ 0 by omega) (show 0 ≤ (2147483647 : Int) by omega)
      have hF4 := Fr_a (z := 0) (k := 60) (n := (p).toNat) hFx (by decide)
      obtain ⟨A2, eA2⟩ : ∃ q, q = uA Ax 60 (p).toNat (0) := ⟨_, rfl⟩
      rw [← eA2]
      rw [← eA2] at hW3 hF4
      have q5 : A2 60 (p).toNat = 0 := by rw [eA2]; exact uA_eq
      refine jx_ld (pc_q := 442) (l_q := L) (st_q := [.ref 66]) rfl (jl_aloadn gL_0) ?_
      refine jr_get (pc_q := 445) (i := 92) (v := .ref 128) rfl rfl (by decide) rfl rfl ?_
      refine jx_ld (pc_q := 446) (l_q := L) (st_q := [.int (i32 (p)), .ref 128]) rfl (jl_iloadn gL_1) ?_
      refine jx_ar (pc_q := 447) (st_q := [.int (i32 (0)), .int (i32 (p)), .ref 128]) rfl rfl rfl rfl ?_
      refine jr_st (pc_q := 448) (i := 61) (m := 6) (z := p) (y := 0) rfl (by decide) rfl (by decide) (by omega) (by omega) rfl ?_
      have hW7 : Wk Gx (uA A2 61 (p).toNat (0)) := Wk_a hW3 (show (-2147483648 : Int) ≤ 0 by omega) (show 0 ≤ (2147483647 : Int) by omega)
      have hF8 := Fr_a (z := 0) (k := 61) (n := (p).toNat) hF4 (by decide)
      obtain ⟨A6, eA6⟩ : ∃ q, q = uA A2 61 (p).toNat (0) := ⟨_, rfl⟩
      rw [← eA6]
      rw [← eA6] at hW7 hF8
      have q9 : A6 61 (p).toNat = 0 := by rw [eA6]; exact uA_eq
      refine jx_ld (pc_q := 449) (l_q := L) (st_q := [.ref 66]) rfl (jl_aloadn gL_0) ?_
      refine jr_get (pc_q := 452) (i := 93) (v := .ref 129) rfl rfl (by decide) rfl rfl ?_
      refine jx_ld (pc_q := 453) (l_q := L) (st_q := [.int (i32 (p)), .ref 129]) rfl (jl_iloadn gL_1) ?_
      refine jx_ar (pc_q := 454) (st_q := [.int (i32 (0)), .int (i32 (p)), .ref 129]) rfl rfl rfl rfl ?_
      refine jr_st (pc_q := 455) (i := 62) (m := 6) (z := p) (y := 0) rfl (by decide) rfl (by decide) (by omega) (by omega) rfl ?_
      have hW11 : Wk Gx (uA A6 62 (p).toNat (0)) := Wk_a hW7 (show (-2147483648 : Int) ≤ 0 by omega) (show 0 ≤ (2147483647 : Int) by omega)
      have hF12 := Fr_a (z := 0) (k := 62) (n := (p).toNat) hF8 (by decide)
      obtain ⟨A10, eA10⟩ : ∃ q, q = uA A6 62 (p).toNat (0) := ⟨_, rfl⟩
      rw [← eA10]
      rw [← eA10] at hW11 hF12
      have q13 : A10 62 (p).toNat = 0 := by rw [eA10]; exact uA_eq
      refine jx_go (tg := 630) rfl rfl ?_
      refine jx_rt (v := none) rfl rfl rfl rfl rfl rfl ?_
      exact ⟨_, _, om1, it1, rfl, rfl, hW11, hF12, (ex_om1), (ex_it1), by omega, by omega, by omega, by omega, (opR_fill _ _ _ _ _ _ (by omega) e_ra e_rb e_rc (by have h0 : rc1 = rc := (by omega); have h1 : (k).toNat = (rb).toNat := (by omega); rw [← h0, ← h1]; exact iv_6) eA2 eA6 eA10), trivial⟩
    · have _q := h1
      refine jx_ld (pc_q := 414) (l_q := L) (st_q := [.ref 66]) rfl (jl_aloadn gL_0) ?_
      refine jx_ld (pc_q := 415) (l_q := L) (st_q := [.int (i32 (p)), .ref 66]) rfl (jl_iloadn gL_1) ?_
      refine jx_ld (pc_q := 416) (l_q := L) (st_q := [.int (i32 (ra)), .int (i32 (p)), .ref 66]) rfl (jl_iloadn gL_3) ?_
      refine jx_ld (pc_q := 418) (l_q := L) (st_q := [.int (i32 (k)), .int (i32 (ra)), .int (i32 (p)), .ref 66]) rfl (jl_iload gL_6) ?_
      refine jx_add (pc_q := 419) rfl rfl ?_
      obtain ⟨v14, ev14⟩ : ∃ z, z = (i32 (ra + k)).toInt := ⟨_, rfl⟩; have fv14 : i32 (ra + k) = i32 v14 := (by rw [ev14]; exact (i32_of _).symm); rw [fv14]; have rv14 : (-2147483648 : Int) ≤ v14 ∧ v14 ≤ 2147483647 := ev14 ▸ i32_rg _
      refine jx_ld (pc_q := 420) (l_q := L) (st_q := [.ref 66, .int (i32 (v14)), .int (i32 (p)), .ref 66]) rfl (jl_aloadn gL_0) ?_
      refine jr_get (pc_q := 423) (i := 93) (v := .ref 129) rfl rfl (by decide) rfl rfl ?_
      refine jx_ld (pc_q := 424) (l_q := L) (st_q := [.int (i32 (p)), .ref 129, .int (i32 (v14)), .int (i32 (p)), .ref 66]) rfl (jl_iloadn gL_1) ?_
      refine jr_ldv (pc_q := 425) (i := 62) (m := 6) (z := p) (y := rc1) rfl (by decide) rfl (by decide) (by omega) (by omega) rfl (show Ax 62 (p).toNat = rc1 from (ex_rc1)) ?_
      refine jx_vr (pc_q := 428) (as := [.int (i32 (p)), .int (i32 (v14)), .int (i32 (rc1))]) (st := []) rfl rfl rfl rfl ⟨rfl, rfl, Nat.le_of_ble_eq_true rfl⟩ rfl rfl (c_store (dd := d) (hd := by omega) (hW := hWx) (p := p) (a := v14) (v := rc1)   (h_p := ⟨(Int.le_trans (by decide : (-2147483648 : Int) ≤ -2147483648) h_p.1), (Int.le_trans h_p.2 (by decide : (2147483647 : Int) ≤ 2147483647))⟩) (h_a := ⟨(Int.le_trans (by decide : (-2147483648 : Int) ≤ -2147483648) rv14.1), (Int.le_trans rv14.2 (by decide : (2147483647 : Int) ≤ 2147483647))⟩) (h_v := ⟨(by omega), (by omega)⟩)  (p_0 := by omega) (p_1 := by omega)) (fun o V_q hq => ?_)
      obtain ⟨G15, A16, rfl, rfl, hW17, hF18, p19, -⟩ := hq
      have hF21 := Fr_tr hFx hF18 (Fr_sub (by decide)) (Fr_sub (by decide))
      refine .inl ⟨rfl, ?_⟩
      refine jx_inc (pc_q := 431) (l_q := jSto1 L 6 (.int (i32 ((k + (1)))))) (x := k) rfl gL_6 (by decide) rfl rfl ?_
      obtain ⟨L22, eL22⟩ : ∃ q, q = jSto1 L 6 (.int (i32 ((k + (1))))) := ⟨_, rfl⟩
      rw [← eL22]
      have gL22_0 : jGet L22 0 = some (.ref 66) := eL22 ▸ jg_ne (by decide) gL_0 rfl
      have gL22_1 : jGet L22 1 = some (.int (i32 (p))) := eL22 ▸ jg_ne (by decide) gL_1 rfl
      have gL22_2 : jGet L22 2 = some (.int (i32 (op1))) := eL22 ▸ jg_ne (by decide) gL_2 rfl
      have gL22_3 : jGet L22 3 = some (.int (i32 (ra))) := eL22 ▸ jg_ne (by decide) gL_3 rfl
      have gL22_4 : jGet L22 4 = some (.int (i32 (rb))) := eL22 ▸ jg_ne (by decide) gL_4 rfl
      have gL22_5 : jGet L22 5 = some (.int (i32 (rw))) := eL22 ▸ jg_ne (by decide) gL_5 rfl
      have gL22_6 : jGet L22 6 = some (.int (i32 ((k + (1))))) := eL22 ▸ jg_eq
      refine jx_go (tg := 406) rfl rfl ?_
      exact ih406 _ (by omega) L22 G15 A16 ((k + (1))) (rc1) (om1) (it1) rfl gL22_0 gL22_1 gL22_2 gL22_3 gL22_4 gL22_5 gL22_6 hW17 hF21 ((congrFun (hF18.2 62 rfl) _).trans (ex_rc1)) (((hF18.1 113 rfl).trans (ex_om1))) (((hF18.1 111 rfl).trans (ex_it1))) (by omega) (by omega) (by omega) (by omega) (by omega) (by omega) (by omega) ((fi_nx iv_6 (by omega) (by omega) ev14 p19))
set_option maxRecDepth 20000 in
set_option maxHeartbeats 4000000 in
theorem c_operate {X : jX} {dd : Nat} {c0 c1 : jC} {G : Nat → Int} {A : Nat → Nat → Int} {T : jH} {p op1 : Int} {m0 m1 rw rn it im om ri ra rb rc : Int} (hd : 8 ≤ dd) (hW : Wk G A) (e_m0 : A 72 ((2 * p)).toNat = m0) (e_m1 : A 72 (((2 * p) + 1)).toNat = m1) (e_rw : A 64 (p).toNat = rw) (e_rn : A 66 (p).toNat = rn) (e_it : G 111 = it) (e_im : G 110 = im) (e_om : G 113 = om) (e_ri : A 63 (p).toNat = ri) (e_ra : A 60 (p).toNat = ra) (e_rb : A 61 (p).toNat = rb) (e_rc : A 62 (p).toNat = rc) (h_p : (-2147483648 : Int) ≤ p ∧ p ≤ 2147483647) (h_op1 : (-2147483648 : Int) ≤ op1 ∧ op1 ≤ 2147483647) (p_0 : 0 ≤ p) (p_1 : p ≤ 5) (p_2 : 0 ≤ m0) (p_3 : m0 ≤ 1099) (p_4 : 0 ≤ m1) (p_5 : m1 ≤ 1099) (p_6 : -1000000 ≤ rw) (p_7 : rw ≤ 1000000) (p_8 : 0 ≤ rn ∨ rn ≤ -2) (p_9 : 0 ≤ it) (p_10 : it ≤ im) (p_11 : im ≤ 200) (p_12 : 0 ≤ om) (p_13 : om ≤ 2000000000) (p_14 : op1 < 17 ∨ 18 ≤ op1 ∨ (-1000000 ≤ ra ∧ ra ≤ 1000000)) : wk X dd 382 [.ref 66, .int (i32 p), .int (i32 op1)] (rV c0 c1 G A T) (fun o V_q => ∃ (G_q : Nat → Int) (A_q : Nat → Nat → Int) (om2 : Int) (it2 : Int), V_q = rV c0 c1 G_q A_q T ∧ o = .inl none ∧ Wk G_q A_q ∧ Fr [111, 113] [59, 60, 61, 62, 63, 64, 65, 66, 67, 68, 70, 71, 72, 73, 79, 80, 81, 82, 83, 84, 85] G A G_q A_q ∧ G_q 113 = om2 ∧ G_q 111 = it2 ∧ (om ≤ om2) ∧ (om2 ≤ om + 1) ∧ (it ≤ it2) ∧ (it2 ≤ im) ∧ (opR A A_q (it) (im) (om) (p) (op1)) ∧ True) := by
  obtain ⟨d, rfl⟩ : ∃ d, dd = d + 1 := ⟨dd - 1, by omega⟩
  refine wk_of (e := jm382) rfl (Nat.le_of_ble_eq_true rfl) ?_
  show wj X d jm382 (0, [(0, .ref 66), (1, .int (i32 (p))), (2, .int (i32 (op1)))], [], rV c0 c1 G A T) _
  have hF0 : Fr [111, 113] [59, 60, 61, 62, 63, 64, 65, 66, 67, 68, 70, 71, 72, 73, 79, 80, 81, 82, 83, 84, 85] G A G A := Fr_rf
  have b_m0 : (-2147483648 : Int) ≤ m0 ∧ m0 ≤ 2147483647 := e_m0 ▸ hW.2 72 _
  have b_m1 : (-2147483648 : Int) ≤ m1 ∧ m1 ≤ 2147483647 := e_m1 ▸ hW.2 72 _
  have b_rw : (-2147483648 : Int) ≤ rw ∧ rw ≤ 2147483647 := e_rw ▸ hW.2 64 _
  have b_rn : (-2147483648 : Int) ≤ rn ∧ rn ≤ 2147483647 := e_rn ▸ hW.2 66 _
  have b_it : (-2147483648 : Int) ≤ it ∧ it ≤ 2147483647 := e_it ▸ hW.1 111
  have b_im : (-2147483648 : Int) ≤ im ∧ im ≤ 2147483647 := e_im ▸ hW.1 110
  have b_om : (-2147483648 : Int) ≤ om ∧ om ≤ 2147483647 := e_om ▸ hW.1 113
  have b_ri : (-2147483648 : Int) ≤ ri ∧ ri ≤ 2147483647 := e_ri ▸ hW.2 63 _
  have b_ra : (-2147483648 : Int) ≤ ra ∧ ra ≤ 2147483647 := e_ra ▸ hW.2 60 _
  have b_rb : (-2147483648 : Int) ≤ rb ∧ rb ≤ 2147483647 := e_rb ▸ hW.2 61 _
  have b_rc : (-2147483648 : Int) ≤ rc ∧ rc ≤ 2147483647 := e_rc ▸ hW.2 62 _
  refine jx_ld (pc_q := 1) (l_q := [(0, .ref 66), (1, .int (i32 (p))), (2, .int (i32 (op1)))]) (st_q := [.ref 66]) rfl (jl_aloadn rfl) ?_
  refine jr_get (pc_q := 4) (i := 91) (v := .ref 127) rfl rfl (by decide) rfl rfl ?_
  refine jx_ld (pc_q := 5) (l_q := [(0, .ref 66), (1, .int (i32 (p))), (2, .int (i32 (op1)))]) (st_q := [.int (i32 (p)), .ref 127]) rfl (jl_iloadn rfl) ?_
  refine jr_ldv (pc_q := 6) (i := 60) (m := 6) (z := p) (y := ra) rfl (by decide) rfl (by decide) (by omega) (by omega) rfl (show A 60 (p).toNat = ra from (e_ra)) ?_
  refine jx_ld (pc_q := 7) (l_q := jSto1 [(0, .ref 66), (1, .int (i32 (p))), (2, .int (i32 (op1)))] 3 (.int (i32 (ra)))) (st_q := []) rfl rfl ?_
  obtain ⟨L23, eL23⟩ : ∃ q, q = jSto1 [(0, .ref 66), (1, .int (i32 (p))), (2, .int (i32 (op1)))] 3 (.int (i32 (ra))) := ⟨_, rfl⟩
  rw [← eL23]
  have gL23_0 : jGet L23 0 = some (.ref 66) := eL23 ▸ jg_ne (by decide) (rfl : jGet [(0, .ref 66), (1, .int (i32 (p))), (2, .int (i32 (op1)))] 0 = some (.ref 66)) rfl
  have gL23_1 : jGet L23 1 = some (.int (i32 (p))) := eL23 ▸ jg_ne (by decide) (rfl : jGet [(0, .ref 66), (1, .int (i32 (p))), (2, .int (i32 (op1)))] 1 = some (.int (i32 (p)))) rfl
  have gL23_2 : jGet L23 2 = some (.int (i32 (op1))) := eL23 ▸ jg_ne (by decide) (rfl : jGet [(0, .ref 66), (1, .int (i32 (p))), (2, .int (i32 (op1)))] 2 = some (.int (i32 (op1)))) rfl
  have gL23_3 : jGet L23 3 = some (.int (i32 (ra))) := eL23 ▸ jg_eq
  refine jx_ld (pc_q := 8) (l_q := L23) (st_q := [.ref 66]) rfl (jl_aloadn gL23_0) ?_
  refine jr_get (pc_q := 11) (i := 92) (v := .ref 128) rfl rfl (by decide) rfl rfl ?_
  refine jx_ld (pc_q := 12) (l_q := L23) (st_q := [.int (i32 (p)), .ref 128]) rfl (jl_iloadn gL23_1) ?_
  refine jr_ldv (pc_q := 13) (i := 61) (m := 6) (z := p) (y := rb) rfl (by decide) rfl (by decide) (by omega) (by omega) rfl (show A 61 (p).toNat = rb from (e_rb)) ?_
  refine jx_ld (pc_q := 15) (l_q := jSto1 L23 4 (.int (i32 (rb)))) (st_q := []) rfl rfl ?_
  obtain ⟨L24, eL24⟩ : ∃ q, q = jSto1 L23 4 (.int (i32 (rb))) := ⟨_, rfl⟩
  rw [← eL24]
  have gL24_0 : jGet L24 0 = some (.ref 66) := eL24 ▸ jg_ne (by decide) gL23_0 rfl
  have gL24_1 : jGet L24 1 = some (.int (i32 (p))) := eL24 ▸ jg_ne (by decide) gL23_1 rfl
  have gL24_2 : jGet L24 2 = some (.int (i32 (op1))) := eL24 ▸ jg_ne (by decide) gL23_2 rfl
  have gL24_3 : jGet L24 3 = some (.int (i32 (ra))) := eL24 ▸ jg_ne (by decide) gL23_3 rfl
  have gL24_4 : jGet L24 4 = some (.int (i32 (rb))) := eL24 ▸ jg_eq
  refine jx_ld (pc_q := 16) (l_q := L24) (st_q := [.ref 66]) rfl (jl_aloadn gL24_0) ?_
  refine jr_get (pc_q := 19) (i := 95) (v := .ref 131) rfl rfl (by decide) rfl rfl ?_
  refine jx_ld (pc_q := 20) (l_q := L24) (st_q := [.int (i32 (p)), .ref 131]) rfl (jl_iloadn gL24_1) ?_
  refine jr_ldv (pc_q := 21) (i := 64) (m := 6) (z := p) (y := rw) rfl (by decide) rfl (by decide) (by omega) (by omega) rfl (show A 64 (p).toNat = rw from (e_rw)) ?_
  refine jx_ld (pc_q := 23) (l_q := jSto1 L24 5 (.int (i32 (rw)))) (st_q := []) rfl rfl ?_
  obtain ⟨L25, eL25⟩ : ∃ q, q = jSto1 L24 5 (.int (i32 (rw))) := ⟨_, rfl⟩
  rw [← eL25]
  have gL25_0 : jGet L25 0 = some (.ref 66) := eL25 ▸ jg_ne (by decide) gL24_0 rfl
  have gL25_1 : jGet L25 1 = some (.int (i32 (p))) := eL25 ▸ jg_ne (by decide) gL24_1 rfl
  have gL25_2 : jGet L25 2 = some (.int (i32 (op1))) := eL25 ▸ jg_ne (by decide) gL24_2 rfl
  have gL25_3 : jGet L25 3 = some (.int (i32 (ra))) := eL25 ▸ jg_ne (by decide) gL24_3 rfl
  have gL25_4 : jGet L25 4 = some (.int (i32 (rb))) := eL25 ▸ jg_ne (by decide) gL24_4 rfl
  have gL25_5 : jGet L25 5 = some (.int (i32 (rw))) := eL25 ▸ jg_eq
  refine jx_ld (pc_q := 24) (l_q := L25) (st_q := [.int (i32 (op1))]) rfl (jl_iloadn gL25_2) ?_
  rcases (by omega : op1 = 0 ∨ op1 = 1 ∨ op1 = 2 ∨ op1 = 3 ∨ op1 = 4 ∨ op1 = 5 ∨ op1 = 6 ∨ op1 = 7 ∨ op1 = 8 ∨ op1 = 9 ∨ op1 = 10 ∨ op1 = 11 ∨ op1 = 12 ∨ op1 = 13 ∨ op1 = 14 ∨ op1 = 15 ∨ op1 = 16 ∨ op1 = 17 ∨ op1 = 18 ∨ op1 = 19 ∨ op1 = 20 ∨ op1 = 21 ∨ op1 = 22 ∨ op1 = 23 ∨ op1 = 24 ∨ op1 = 25 ∨ op1 = 26 ∨ op1 = 27 ∨ op1 = 28 ∨ op1 = 29 ∨ op1 = 30 ∨ op1 = 31 ∨ (op1 < 0 ∨ 31 < op1)) with h26 | h26 | h26 | h26 | h26 | h26 | h26 | h26 | h26 | h26 | h26 | h26 | h26 | h26 | h26 | h26 | h26 | h26 | h26 | h26 | h26 | h26 | h26 | h26 | h26 | h26 | h26 | h26 | h26 | h26 | h26 | h26 | h26
  · refine jx_swe (z := 0) (tg := 168) h26 rfl rfl rfl rfl ?_
    have _q : True := trivial
    refine jx_ld (pc_q := 169) (l_q := L25) (st_q := [.ref 66]) rfl (jl_aloadn gL25_0) ?_
    refine jr_get (pc_q := 172) (i := 91) (v := .ref 127) rfl rfl (by decide) rfl rfl ?_
    refine jx_ld (pc_q := 173) (l_q := L25) (st_q := [.int (i32 (p)), .ref 127]) rfl (jl_iloadn gL25_1) ?_
    refine jx_ld (pc_q := 175) (l_q := L25) (st_q := [.int (i32 (rb)), .int (i32 (p)), .ref 127]) rfl (jl_iload gL25_4) ?_
    refine jr_st (pc_q := 176) (i := 60) (m := 6) (z := p) (y := rb) rfl (by decide) rfl (by decide) (by omega) (by omega) rfl ?_
    have hW28 : Wk G (uA A 60 (p).toNat (rb)) := Wk_a hW (show (-2147483648 : Int) ≤ rb by omega) (show rb ≤ (2147483647 : Int) by omega)
    have hF29 := Fr_a (z := rb) (k := 60) (n := (p).toNat) hF0 (by decide)
    obtain ⟨A27, eA27⟩ : ∃ q, q = uA A 60 (p).toNat (rb) := ⟨_, rfl⟩
    rw [← eA27]
    rw [← eA27] at hW28 hF29
    have q30 : A27 60 (p).toNat = rb := by rw [eA27]; exact uA_eq
    refine jx_ld (pc_q := 177) (l_q := L25) (st_q := [.ref 66]) rfl (jl_aloadn gL25_0) ?_
    refine jr_get (pc_q := 180) (i := 92) (v := .ref 128) rfl rfl (by decide) rfl rfl ?_
    refine jx_ld (pc_q := 181) (l_q := L25) (st_q := [.int (i32 (p)), .ref 128]) rfl (jl_iloadn gL25_1) ?_
    refine jx_ld (pc_q := 182) (l_q := L25) (st_q := [.int (i32 (ra)), .int (i32 (p)), .ref 128]) rfl (jl_iloadn gL25_3) ?_
    refine jr_st (pc_q := 183) (i := 61) (m := 6) (z := p) (y := ra) rfl (by decide) rfl (by decide) (by omega) (by omega) rfl ?_
    have hW32 : Wk G (uA A27 61 (p).toNat (ra)) := Wk_a hW28 (show (-2147483648 : Int) ≤ ra by omega) (show ra ≤ (2147483647 : Int) by omega)
    have hF33 := Fr_a (z := ra) (k := 61) (n := (p).toNat) hF29 (by decide)
    obtain ⟨A31, eA31⟩ : ∃ q, q = uA A27 61 (p).toNat (ra) := ⟨_, rfl⟩
    rw [← eA31]
    rw [← eA31] at hW32 hF33
    have q34 : A31 61 (p).toNat = ra := by rw [eA31]; exact uA_eq
    refine jx_go (tg := 630) rfl rfl ?_
    refine jx_rt (v := none) rfl rfl rfl rfl rfl rfl ?_
    exact ⟨_, _, om, it, rfl, rfl, hW32, hF33, (e_om), (e_it), by omega, by omega, by omega, by omega, (opR_rev _ _ _ (by omega) e_ra e_rb eA27 eA31), trivial⟩
  · refine jx_swe (z := 1) (tg := 186) h26 rfl rfl rfl rfl ?_
    have _q : True := trivial
    refine jx_ld (pc_q := 187) (l_q := L25) (st_q := [.ref 66]) rfl (jl_aloadn gL25_0) ?_
    refine jx_ld (pc_q := 188) (l_q := L25) (st_q := [.int (i32 (p)), .ref 66]) rfl (jl_iloadn gL25_1) ?_
    refine jx_ld (pc_q := 189) (l_q := L25) (st_q := [.int (i32 (ra)), .int (i32 (p)), .ref 66]) rfl (jl_iloadn gL25_3) ?_
    refine jx_ld (pc_q := 191) (l_q := L25) (st_q := [.int (i32 (rb)), .int (i32 (ra)), .int (i32 (p)), .ref 66]) rfl (jl_iload gL25_4) ?_
    refine jx_add (pc_q := 192) rfl rfl ?_
    obtain ⟨v35, ev35⟩ : ∃ z, z = (i32 (ra + rb)).toInt := ⟨_, rfl⟩; have fv35 : i32 (ra + rb) = i32 v35 := (by rw [ev35]; exact (i32_of _).symm); rw [fv35]; have rv35 : (-2147483648 : Int) ≤ v35 ∧ v35 ≤ 2147483647 := ev35 ▸ i32_rg _
    refine jx_vr (pc_q := 195) (as := [.int (i32 (p)), .int (i32 (v35))]) (st := []) rfl rfl rfl rfl ⟨rfl, rfl, Nat.le_of_ble_eq_true rfl⟩ rfl rfl (c_two (dd := d) (hd := by omega) (hW := hW) (p := p) (v := v35)   (h_p := ⟨(Int.le_trans (by decide : (-2147483648 : Int) ≤ -2147483648) h_p.1), (Int.le_trans h_p.2 (by decide : (2147483647 : Int) ≤ 2147483647))⟩) (h_v := ⟨(Int.le_trans (by decide : (-2147483648 : Int) ≤ -2147483648) rv35.1), (Int.le_trans rv35.2 (by decide : (2147483647 : Int) ≤ 2147483647))⟩)  (p_0 := by omega) (p_1 := by omega)) (fun o V_q hq => ?_)
    obtain ⟨G36, A37, rfl, rfl, hW38, hF39, p40, -⟩ := hq
    have hF42 := Fr_tr hF0 hF39 (Fr_sub (by decide)) (Fr_sub (by decide))
    refine .inl ⟨rfl, ?_⟩
    refine jx_go (tg := 630) rfl rfl ?_
    refine jx_rt (v := none) rfl rfl rfl rfl rfl rfl ?_
    exact ⟨_, _, om, it, rfl, rfl, hW38, hF42, ((hF39.1 113 rfl).trans (e_om)), ((hF39.1 111 rfl).trans (e_it)), by omega, by omega, by omega, by omega, (opR_add _ _ (by omega) e_ra e_rb (p40.trans (by rw [ev35]))), trivial⟩
  · refine jx_swe (z := 2) (tg := 198) h26 rfl rfl rfl rfl ?_
    have _q : True := trivial
    refine jx_ld (pc_q := 199) (l_q := L25) (st_q := [.ref 66]) rfl (jl_aloadn gL25_0) ?_
    refine jx_ld (pc_q := 200) (l_q := L25) (st_q := [.int (i32 (p)), .ref 66]) rfl (jl_iloadn gL25_1) ?_
    refine jx_ld (pc_q := 202) (l_q := L25) (st_q := [.int (i32 (rb)), .int (i32 (p)), .ref 66]) rfl (jl_iload gL25_4) ?_
    refine jx_ld (pc_q := 203) (l_q := L25) (st_q := [.int (i32 (ra)), .int (i32 (rb)), .int (i32 (p)), .ref 66]) rfl (jl_iloadn gL25_3) ?_
    refine jx_sub (pc_q := 204) rfl rfl ?_
    obtain ⟨v43, ev43⟩ : ∃ z, z = (i32 (rb - ra)).toInt := ⟨_, rfl⟩; have fv43 : i32 (rb - ra) = i32 v43 := (by rw [ev43]; exact (i32_of _).symm); rw [fv43]; have rv43 : (-2147483648 : Int) ≤ v43 ∧ v43 ≤ 2147483647 := ev43 ▸ i32_rg _
    refine jx_vr (pc_q := 207) (as := [.int (i32 (p)), .int (i32 (v43))]) (st := []) rfl rfl rfl rfl ⟨rfl, rfl, Nat.le_of_ble_eq_true rfl⟩ rfl rfl (c_two (dd := d) (hd := by omega) (hW := hW) (p := p) (v := v43)   (h_p := ⟨(Int.le_trans (by decide : (-2147483648 : Int) ≤ -2147483648) h_p.1), (Int.le_trans h_p.2 (by decide : (2147483647 : Int) ≤ 2147483647))⟩) (h_v := ⟨(Int.le_trans (by decide : (-2147483648 : Int) ≤ -2147483648) rv43.1), (Int.le_trans rv43.2 (by decide : (2147483647 : Int) ≤ 2147483647))⟩)  (p_0 := by omega) (p_1 := by omega)) (fun o V_q hq => ?_)
    obtain ⟨G44, A45, rfl, rfl, hW46, hF47, p48, -⟩ := hq
    have hF50 := Fr_tr hF0 hF47 (Fr_sub (by decide)) (Fr_sub (by decide))
    refine .inl ⟨rfl, ?_⟩
    refine jx_go (tg := 630) rfl rfl ?_
    refine jx_rt (v := none) rfl rfl rfl rfl rfl rfl ?_
    exact ⟨_, _, om, it, rfl, rfl, hW46, hF50, ((hF47.1 113 rfl).trans (e_om)), ((hF47.1 111 rfl).trans (e_it)), by omega, by omega, by omega, by omega, (opR_sub _ _ (by omega) e_ra e_rb (p48.trans (by rw [ev43]))), trivial⟩
  · refine jx_swe (z := 3) (tg := 210) h26 rfl rfl rfl rfl ?_
    have _q : True := trivial
    refine jx_ld (pc_q := 211) (l_q := L25) (st_q := [.ref 66]) rfl (jl_aloadn gL25_0) ?_
    refine jx_ld (pc_q := 212) (l_q := L25) (st_q := [.int (i32 (p)), .ref 66]) rfl (jl_iloadn gL25_1) ?_
    refine jx_ld (pc_q := 213) (l_q := L25) (st_q := [.int (i32 (ra)), .int (i32 (p)), .ref 66]) rfl (jl_iloadn gL25_3) ?_
    refine jx_ld (pc_q := 215) (l_q := L25) (st_q := [.int (i32 (rb)), .int (i32 (ra)), .int (i32 (p)), .ref 66]) rfl (jl_iload gL25_4) ?_
    refine jx_mul (pc_q := 216) rfl rfl ?_
    obtain ⟨v51, ev51⟩ : ∃ z, z = (i32 (ra * rb)).toInt := ⟨_, rfl⟩; have fv51 : i32 (ra * rb) = i32 v51 := (by rw [ev51]; exact (i32_of _).symm); rw [fv51]; have rv51 : (-2147483648 : Int) ≤ v51 ∧ v51 ≤ 2147483647 := ev51 ▸ i32_rg _
    refine jx_vr (pc_q := 219) (as := [.int (i32 (p)), .int (i32 (v51))]) (st := []) rfl rfl rfl rfl ⟨rfl, rfl, Nat.le_of_ble_eq_true rfl⟩ rfl rfl (c_two (dd := d) (hd := by omega) (hW := hW) (p := p) (v := v51)   (h_p := ⟨(Int.le_trans (by decide : (-2147483648 : Int) ≤ -2147483648) h_p.1), (Int.le_trans h_p.2 (by decide : (2147483647 : Int) ≤ 2147483647))⟩) (h_v := ⟨(Int.le_trans (by decide : (-2147483648 : Int) ≤ -2147483648) rv51.1), (Int.le_trans rv51.2 (by decide : (2147483647 : Int) ≤ 2147483647))⟩)  (p_0 := by omega) (p_1 := by omega)) (fun o V_q hq => ?_)
    obtain ⟨G52, A53, rfl, rfl, hW54, hF55, p56, -⟩ := hq
    have hF58 := Fr_tr hF0 hF55 (Fr_sub (by decide)) (Fr_sub (by decide))
    refine .inl ⟨rfl, ?_⟩
    refine jx_go (tg := 630) rfl rfl ?_
    refine jx_rt (v := none) rfl rfl rfl rfl rfl rfl ?_
    exact ⟨_, _, om, it, rfl, rfl, hW54, hF58, ((hF55.1 113 rfl).trans (e_om)), ((hF55.1 111 rfl).trans (e_it)), by omega, by omega, by omega, by omega, (opR_ari _ (by omega) p56), trivial⟩
  · refine jx_swe (z := 4) (tg := 222) h26 rfl rfl rfl rfl ?_
    have _q : True := trivial
    refine jx_ld (pc_q := 223) (l_q := L25) (st_q := [.int (i32 (ra))]) rfl (jl_iloadn gL25_3) ?_
    refine jx_if_eq (pc_q := 226) (tg := 267) rfl rfl rfl (Int.le_trans (by decide : (-2147483648 : Int) ≤ -2147483648) b_ra.1) (Int.le_trans b_ra.2 (by decide : (2147483647 : Int) ≤ 2147483647)) (fun h59 => ?_) (fun h59 => ?_)
    · have _q := h59
      refine jx_ld (pc_q := 268) (l_q := L25) (st_q := [.ref 66]) rfl (jl_aloadn gL25_0) ?_
      refine jx_ld (pc_q := 269) (l_q := L25) (st_q := [.int (i32 (p)), .ref 66]) rfl (jl_iloadn gL25_1) ?_
      refine jx_ld (pc_q := 270) (l_q := L25) (st_q := [.int (i32 (ra)), .int (i32 (p)), .ref 66]) rfl (jl_iloadn gL25_3) ?_
      refine jx_if_ne (pc_q := 273) (tg := 277) rfl rfl rfl (Int.le_trans (by decide : (-2147483648 : Int) ≤ -2147483648) b_ra.1) (Int.le_trans b_ra.2 (by decide : (2147483647 : Int) ≤ 2147483647)) (fun h60 => ?_) (fun h60 => ?_)
      · have _q := h60
        refine jx_ar (pc_q := 278) (st_q := [.int (i32 (0)), .int (i32 (p)), .ref 66]) rfl rfl rfl rfl ?_
        refine jx_vr (pc_q := 281) (as := [.int (i32 (p)), .int (i32 (0))]) (st := []) rfl rfl rfl rfl ⟨rfl, rfl, Nat.le_of_ble_eq_true rfl⟩ rfl rfl (c_fault2 (dd := d) (hd := by omega) (hW := hW) (p := p) (is := 0)   (h_p := ⟨(Int.le_trans (by decide : (-2147483648 : Int) ≤ -2147483648) h_p.1), (Int.le_trans h_p.2 (by decide : (2147483647 : Int) ≤ 2147483647))⟩) (h_is := ⟨(by decide), (by decide)⟩)  (p_0 := by omega) (p_1 := by omega)) (fun o V_q hq => ?_)
        obtain ⟨G61, A62, rfl, rfl, hW63, hF64, p65, -⟩ := hq
        have hF67 := Fr_tr hF0 hF64 (Fr_sub (by decide)) (Fr_sub (by decide))
        refine .inl ⟨rfl, ?_⟩
        refine jx_go (tg := 630) rfl rfl ?_
        refine jx_rt (v := none) rfl rfl rfl rfl rfl rfl ?_
        exact ⟨_, _, om, it, rfl, rfl, hW63, hF67, ((hF64.1 113 rfl).trans (e_om)), ((hF64.1 111 rfl).trans (e_it)), by omega, by omega, by omega, by omega, (by rcases p65 with h9 | h9; exact absurd h9.1 (by omega); exact opR_dvf (by omega) h9.2), trivial⟩
      · have _q := h60
        refine jx_ar (pc_q := 274) (st_q := [.int (i32 (1)), .int (i32 (p)), .ref 66]) rfl rfl rfl rfl ?_
        refine jx_go (tg := 278) rfl rfl ?_
        refine jx_vr (pc_q := 281) (as := [.int (i32 (p)), .int (i32 (1))]) (st := []) rfl rfl rfl rfl ⟨rfl, rfl, Nat.le_of_ble_eq_true rfl⟩ rfl rfl (c_fault2 (dd := d) (hd := by omega) (hW := hW) (p := p) (is := 1)   (h_p := ⟨(Int.le_trans (by decide : (-2147483648 : Int) ≤ -2147483648) h_p.1), (Int.le_trans h_p.2 (by decide : (2147483647 : Int) ≤ 2147483647))⟩) (h_is := ⟨(by decide), (by decide)⟩)  (p_0 := by omega) (p_1 := by omega)) (fun o V_q hq => ?_)
        obtain ⟨G68, A69, rfl, rfl, hW70, hF71, p72, -⟩ := hq
        have hF74 := Fr_tr hF0 hF71 (Fr_sub (by decide)) (Fr_sub (by decide))
        refine .inl ⟨rfl, ?_⟩
        refine jx_go (tg := 630) rfl rfl ?_
        refine jx_rt (v := none) rfl rfl rfl rfl rfl rfl ?_
        exact ⟨_, _, om, it, rfl, rfl, hW70, hF74, ((hF71.1 113 rfl).trans (e_om)), ((hF71.1 111 rfl).trans (e_it)), by omega, by omega, by omega, by omega, (by rcases p72 with h9 | h9; exact absurd h9.1 (by omega); exact opR_dvf (by omega) h9.2), trivial⟩
    · have _q := h59
      refine jx_ld (pc_q := 227) (l_q := L25) (st_q := [.ref 66]) rfl (jl_aloadn gL25_0) ?_
      refine jx_ld (pc_q := 228) (l_q := L25) (st_q := [.int (i32 (p)), .ref 66]) rfl (jl_iloadn gL25_1) ?_
      refine jx_ld (pc_q := 229) (l_q := L25) (st_q := [.int (i32 (op1)), .int (i32 (p)), .ref 66]) rfl (jl_iloadn gL25_2) ?_
      refine jx_ar (pc_q := 230) (st_q := [.int (i32 (4)), .int (i32 (op1)), .int (i32 (p)), .ref 66]) rfl rfl rfl rfl ?_
      refine jx_icmp_ne (pc_q := 233) (tg := 251) rfl rfl rfl (Int.le_trans (by decide : (-2147483648 : Int) ≤ -2147483648) h_op1.1) (Int.le_trans h_op1.2 (by decide : (2147483647 : Int) ≤ 2147483647)) (by decide) (by decide) (fun h75 => ?_) (fun h75 => ?_)
      · have _q := h75
        refine jx_ld (pc_q := 252) (l_q := L25) (st_q := [.int (i32 (ra)), .int (i32 (p)), .ref 66]) rfl (jl_iloadn gL25_3) ?_
        refine jx_ar (pc_q := 253) (st_q := [.int (i32 (-1)), .int (i32 (ra)), .int (i32 (p)), .ref 66]) rfl rfl rfl rfl ?_
        refine jx_icmp_ne (pc_q := 256) (tg := 260) rfl rfl rfl (Int.le_trans (by decide : (-2147483648 : Int) ≤ -2147483648) b_ra.1) (Int.le_trans b_ra.2 (by decide : (2147483647 : Int) ≤ 2147483647)) (by decide) (by decide) (fun h76 => ?_) (fun h76 => ?_)
        · have _q := h76
          refine jx_ld (pc_q := 262) (l_q := L25) (st_q := [.int (i32 (rb)), .int (i32 (p)), .ref 66]) rfl (jl_iload gL25_4) ?_
          refine jx_ld (pc_q := 263) (l_q := L25) (st_q := [.int (i32 (ra)), .int (i32 (rb)), .int (i32 (p)), .ref 66]) rfl (jl_iloadn gL25_3) ?_
          refine jx_remw (pc_q := 264) rfl rfl (by omega) (by omega) (by omega) (fun r77 hr77 => ?_)
          refine jx_vr (pc_q := 267) (as := [.int (i32 (p)), .int (i32 (r77))]) (st := []) rfl rfl rfl rfl ⟨rfl, rfl, Nat.le_of_ble_eq_true rfl⟩ rfl rfl (c_two (dd := d) (hd := by omega) (hW := hW) (p := p) (v := r77)   (h_p := ⟨(Int.le_trans (by decide : (-2147483648 : Int) ≤ -2147483648) h_p.1), (Int.le_trans h_p.2 (by decide : (2147483647 : Int) ≤ 2147483647))⟩) (h_v := ⟨(by omega), (by omega)⟩)  (p_0 := by omega) (p_1 := by omega)) (fun o V_q hq => ?_)
          obtain ⟨G78, A79, rfl, rfl, hW80, hF81, p82, -⟩ := hq
          have hF84 := Fr_tr hF0 hF81 (Fr_sub (by decide)) (Fr_sub (by decide))
          refine .inl ⟨rfl, ?_⟩
          refine jx_ld (pc_q := 268) (l_q := L25) (st_q := [.ref 66]) rfl (jl_aloadn gL25_0) ?_
          refine jx_ld (pc_q := 269) (l_q := L25) (st_q := [.int (i32 (p)), .ref 66]) rfl (jl_iloadn gL25_1) ?_
          refine jx_ld (pc_q := 270) (l_q := L25) (st_q := [.int (i32 (ra)), .int (i32 (p)), .ref 66]) rfl (jl_iloadn gL25_3) ?_
          refine jx_if_ne (pc_q := 273) (tg := 277) rfl rfl rfl (Int.le_trans (by decide : (-2147483648 : Int) ≤ -2147483648) b_ra.1) (Int.le_trans b_ra.2 (by decide : (2147483647 : Int) ≤ 2147483647)) (fun h85 => ?_) (fun h85 => ?_)
          · have _q := h85
            refine jx_ar (pc_q := 278) (st_q := [.int (i32 (0)), .int (i32 (p)), .ref 66]) rfl rfl rfl rfl ?_
            refine jx_vr (pc_q := 281) (as := [.int (i32 (p)), .int (i32 (0))]) (st := []) rfl rfl rfl rfl ⟨rfl, rfl, Nat.le_of_ble_eq_true rfl⟩ rfl rfl (c_fault2 (dd := d) (hd := by omega) (hW := hW80) (p := p) (is := 0)   (h_p := ⟨(Int.le_trans (by decide : (-2147483648 : Int) ≤ -2147483648) h_p.1), (Int.le_trans h_p.2 (by decide : (2147483647 : Int) ≤ 2147483647))⟩) (h_is := ⟨(by decide), (by decide)⟩)  (p_0 := by omega) (p_1 := by omega)) (fun o V_q hq => ?_)
            obtain ⟨G86, A87, rfl, rfl, hW88, hF89, p90, -⟩ := hq
            have hF92 := Fr_tr hF84 hF89 (Fr_sub (by decide)) (Fr_sub (by decide))
            refine .inl ⟨rfl, ?_⟩
            refine jx_go (tg := 630) rfl rfl ?_
            refine jx_rt (v := none) rfl rfl rfl rfl rfl rfl ?_
            exact ⟨_, _, om, it, rfl, rfl, hW88, hF92, ((hF89.1 113 rfl).trans ((hF81.1 113 rfl).trans (e_om))), ((hF89.1 111 rfl).trans ((hF81.1 111 rfl).trans (e_it))), by omega, by omega, by omega, by omega, (by rcases p90 with h9 | h9; exact opR_ari _ (by omega) (h9.2.trans p82); exact absurd h9.1 (by omega)), trivial⟩
          · have _q := h85
            refine jx_ar (pc_q := 274) (st_q := [.int (i32 (1)), .int (i32 (p)), .ref 66]) rfl rfl rfl rfl ?_
            refine jx_go (tg := 278) rfl rfl ?_
            refine jx_vr (pc_q := 281) (as := [.int (i32 (p)), .int (i32 (1))]) (st := []) rfl rfl rfl rfl ⟨rfl, rfl, Nat.le_of_ble_eq_true rfl⟩ rfl rfl (c_fault2 (dd := d) (hd := by omega) (hW := hW80) (p := p) (is := 1)   (h_p := ⟨(Int.le_trans (by decide : (-2147483648 : Int) ≤ -2147483648) h_p.1), (Int.le_trans h_p.2 (by decide : (2147483647 : Int) ≤ 2147483647))⟩) (h_is := ⟨(by decide), (by decide)⟩)  (p_0 := by omega) (p_1 := by omega)) (fun o V_q hq => ?_)
            obtain ⟨G93, A94, rfl, rfl, hW95, hF96, p97, -⟩ := hq
            have hF99 := Fr_tr hF84 hF96 (Fr_sub (by decide)) (Fr_sub (by decide))
            refine .inl ⟨rfl, ?_⟩
            refine jx_go (tg := 630) rfl rfl ?_
            refine jx_rt (v := none) rfl rfl rfl rfl rfl rfl ?_
            exact ⟨_, _, om, it, rfl, rfl, hW95, hF99, ((hF96.1 113 rfl).trans ((hF81.1 113 rfl).trans (e_om))), ((hF96.1 111 rfl).trans ((hF81.1 111 rfl).trans (e_it))), by omega, by omega, by omega, by omega, (by rcases p97 with h9 | h9; exact opR_ari _ (by omega) (h9.2.trans p82); exact absurd h9.1 (by omega)), trivial⟩
        · have _q := h76
          refine jx_ar (pc_q := 257) (st_q := [.int (i32 (0)), .int (i32 (p)), .ref 66]) rfl rfl rfl rfl ?_
          refine jx_go (tg := 264) rfl rfl ?_
          refine jx_vr (pc_q := 267) (as := [.int (i32 (p)), .int (i32 (0))]) (st := []) rfl rfl rfl rfl ⟨rfl, rfl, Nat.le_of_ble_eq_true rfl⟩ rfl rfl (c_two (dd := d) (hd := by omega) (hW := hW) (p := p) (v := 0)   (h_p := ⟨(Int.le_trans (by decide : (-2147483648 : Int) ≤ -2147483648) h_p.1), (Int.le_trans h_p.2 (by decide : (2147483647 : Int) ≤ 2147483647))⟩) (h_v := ⟨(by decide), (by decide)⟩)  (p_0 := by omega) (p_1 := by omega)) (fun o V_q hq => ?_)
          obtain ⟨G100, A101, rfl, rfl, hW102, hF103, p104, -⟩ := hq
          have hF106 := Fr_tr hF0 hF103 (Fr_sub (by decide)) (Fr_sub (by decide))
          refine .inl ⟨rfl, ?_⟩
          refine jx_ld (pc_q := 268) (l_q := L25) (st_q := [.ref 66]) rfl (jl_aloadn gL25_0) ?_
          refine jx_ld (pc_q := 269) (l_q := L25) (st_q := [.int (i32 (p)), .ref 66]) rfl (jl_iloadn gL25_1) ?_
          refine jx_ld (pc_q := 270) (l_q := L25) (st_q := [.int (i32 (ra)), .int (i32 (p)), .ref 66]) rfl (jl_iloadn gL25_3) ?_
          refine jx_if_ne (pc_q := 273) (tg := 277) rfl rfl rfl (Int.le_trans (by decide : (-2147483648 : Int) ≤ -2147483648) b_ra.1) (Int.le_trans b_ra.2 (by decide : (2147483647 : Int) ≤ 2147483647)) (fun h107 => ?_) (fun h107 => ?_)
          · have _q := h107
            refine jx_ar (pc_q := 278) (st_q := [.int (i32 (0)), .int (i32 (p)), .ref 66]) rfl rfl rfl rfl ?_
            refine jx_vr (pc_q := 281) (as := [.int (i32 (p)), .int (i32 (0))]) (st := []) rfl rfl rfl rfl ⟨rfl, rfl, Nat.le_of_ble_eq_true rfl⟩ rfl rfl (c_fault2 (dd := d) (hd := by omega) (hW := hW102) (p := p) (is := 0)   (h_p := ⟨(Int.le_trans (by decide : (-2147483648 : Int) ≤ -2147483648) h_p.1), (Int.le_trans h_p.2 (by decide : (2147483647 : Int) ≤ 2147483647))⟩) (h_is := ⟨(by decide), (by decide)⟩)  (p_0 := by omega) (p_1 := by omega)) (fun o V_q hq => ?_)
            obtain ⟨G108, A109, rfl, rfl, hW110, hF111, p112, -⟩ := hq
            have hF114 := Fr_tr hF106 hF111 (Fr_sub (by decide)) (Fr_sub (by decide))
            refine .inl ⟨rfl, ?_⟩
            refine jx_go (tg := 630) rfl rfl ?_
            refine jx_rt (v := none) rfl rfl rfl rfl rfl rfl ?_
            exact ⟨_, _, om, it, rfl, rfl, hW110, hF114, ((hF111.1 113 rfl).trans ((hF103.1 113 rfl).trans (e_om))), ((hF111.1 111 rfl).trans ((hF103.1 111 rfl).trans (e_it))), by omega, by omega, by omega, by omega, (by rcases p112 with h9 | h9; exact opR_ari _ (by omega) (h9.2.trans p104); exact absurd h9.1 (by omega)), trivial⟩
          · have _q := h107
            refine jx_ar (pc_q := 274) (st_q := [.int (i32 (1)), .int (i32 (p)), .ref 66]) rfl rfl rfl rfl ?_
            refine jx_go (tg := 278) rfl rfl ?_
            refine jx_vr (pc_q := 281) (as := [.int (i32 (p)), .int (i32 (1))]) (st := []) rfl rfl rfl rfl ⟨rfl, rfl, Nat.le_of_ble_eq_true rfl⟩ rfl rfl (c_fault2 (dd := d) (hd := by omega) (hW := hW102) (p := p) (is := 1)   (h_p := ⟨(Int.le_trans (by decide : (-2147483648 : Int) ≤ -2147483648) h_p.1), (Int.le_trans h_p.2 (by decide : (2147483647 : Int) ≤ 2147483647))⟩) (h_is := ⟨(by decide), (by decide)⟩)  (p_0 := by omega) (p_1 := by omega)) (fun o V_q hq => ?_)
            obtain ⟨G115, A116, rfl, rfl, hW117, hF118, p119, -⟩ := hq
            have hF121 := Fr_tr hF106 hF118 (Fr_sub (by decide)) (Fr_sub (by decide))
            refine .inl ⟨rfl, ?_⟩
            refine jx_go (tg := 630) rfl rfl ?_
            refine jx_rt (v := none) rfl rfl rfl rfl rfl rfl ?_
            exact ⟨_, _, om, it, rfl, rfl, hW117, hF121, ((hF118.1 113 rfl).trans ((hF103.1 113 rfl).trans (e_om))), ((hF118.1 111 rfl).trans ((hF103.1 111 rfl).trans (e_it))), by omega, by omega, by omega, by omega, (by rcases p119 with h9 | h9; exact opR_ari _ (by omega) (h9.2.trans p104); exact absurd h9.1 (by omega)), trivial⟩
      · have _q := h75
        refine jx_ld (pc_q := 234) (l_q := L25) (st_q := [.int (i32 (ra)), .int (i32 (p)), .ref 66]) rfl (jl_iloadn gL25_3) ?_
        refine jx_ar (pc_q := 235) (st_q := [.int (i32 (-1)), .int (i32 (ra)), .int (i32 (p)), .ref 66]) rfl rfl rfl rfl ?_
        refine jx_icmp_ne (pc_q := 238) (tg := 244) rfl rfl rfl (Int.le_trans (by decide : (-2147483648 : Int) ≤ -2147483648) b_ra.1) (Int.le_trans b_ra.2 (by decide : (2147483647 : Int) ≤ 2147483647)) (by decide) (by decide) (fun h122 => ?_) (fun h122 => ?_)
        · have _q := h122
          refine jx_ld (pc_q := 246) (l_q := L25) (st_q := [.int (i32 (rb)), .int (i32 (p)), .ref 66]) rfl (jl_iload gL25_4) ?_
          refine jx_ld (pc_q := 247) (l_q := L25) (st_q := [.int (i32 (ra)), .int (i32 (rb)), .int (i32 (p)), .ref 66]) rfl (jl_iloadn gL25_3) ?_
          refine jx_divw (pc_q := 248) rfl rfl (by omega) (by omega) (by omega) (fun r123 hr123 => ?_)
          refine jx_go (tg := 264) rfl rfl ?_
          refine jx_vr (pc_q := 267) (as := [.int (i32 (p)), .int (i32 (r123))]) (st := []) rfl rfl rfl rfl ⟨rfl, rfl, Nat.le_of_ble_eq_true rfl⟩ rfl rfl (c_two (dd := d) (hd := by omega) (hW := hW) (p := p) (v := r123)   (h_p := ⟨(Int.le_trans (by decide : (-2147483648 : Int) ≤ -2147483648) h_p.1), (Int.le_trans h_p.2 (by decide : (2147483647 : Int) ≤ 2147483647))⟩) (h_v := ⟨(by omega), (by omega)⟩)  (p_0 := by omega) (p_1 := by omega)) (fun o V_q hq => ?_)
          obtain ⟨G124, A125, rfl, rfl, hW126, hF127, p128, -⟩ := hq
          have hF130 := Fr_tr hF0 hF127 (Fr_sub (by decide)) (Fr_sub (by decide))
          refine .inl ⟨rfl, ?_⟩
          refine jx_ld (pc_q := 268) (l_q := L25) (st_q := [.ref 66]) rfl (jl_aloadn gL25_0) ?_
          refine jx_ld (pc_q := 269) (l_q := L25) (st_q := [.int (i32 (p)), .ref 66]) rfl (jl_iloadn gL25_1) ?_
          refine jx_ld (pc_q := 270) (l_q := L25) (st_q := [.int (i32 (ra)), .int (i32 (p)), .ref 66]) rfl (jl_iloadn gL25_3) ?_
          refine jx_if_ne (pc_q := 273) (tg := 277) rfl rfl rfl (Int.le_trans (by decide : (-2147483648 : Int) ≤ -2147483648) b_ra.1) (Int.le_trans b_ra.2 (by decide : (2147483647 : Int) ≤ 2147483647)) (fun h131 => ?_) (fun h131 => ?_)
          · have _q := h131
            refine jx_ar (pc_q := 278) (st_q := [.int (i32 (0)), .int (i32 (p)), .ref 66]) rfl rfl rfl rfl ?_
            refine jx_vr (pc_q := 281) (as := [.int (i32 (p)), .int (i32 (0))]) (st := []) rfl rfl rfl rfl ⟨rfl, rfl, Nat.le_of_ble_eq_true rfl⟩ rfl rfl (c_fault2 (dd := d) (hd := by omega) (hW := hW126) (p := p) (is := 0)   (h_p := ⟨(Int.le_trans (by decide : (-2147483648 : Int) ≤ -2147483648) h_p.1), (Int.le_trans h_p.2 (by decide : (2147483647 : Int) ≤ 2147483647))⟩) (h_is := ⟨(by decide), (by decide)⟩)  (p_0 := by omega) (p_1 := by omega)) (fun o V_q hq => ?_)
            obtain ⟨G132, A133, rfl, rfl, hW134, hF135, p136, -⟩ := hq
            have hF138 := Fr_tr hF130 hF135 (Fr_sub (by decide)) (Fr_sub (by decide))
            refine .inl ⟨rfl, ?_⟩
            refine jx_go (tg := 630) rfl rfl ?_
            refine jx_rt (v := none) rfl rfl rfl rfl rfl rfl ?_
            exact ⟨_, _, om, it, rfl, rfl, hW134, hF138, ((hF135.1 113 rfl).trans ((hF127.1 113 rfl).trans (e_om))), ((hF135.1 111 rfl).trans ((hF127.1 111 rfl).trans (e_it))), by omega, by omega, by omega, by omega, (by rcases p136 with h9 | h9; exact opR_ari _ (by omega) (h9.2.trans p128); exact absurd h9.1 (by omega)), trivial⟩
          · have _q := h131
            refine jx_ar (pc_q := 274) (st_q := [.int (i32 (1)), .int (i32 (p)), .ref 66]) rfl rfl rfl rfl ?_
            refine jx_go (tg := 278) rfl rfl ?_
            refine jx_vr (pc_q := 281) (as := [.int (i32 (p)), .int (i32 (1))]) (st := []) rfl rfl rfl rfl ⟨rfl, rfl, Nat.le_of_ble_eq_true rfl⟩ rfl rfl (c_fault2 (dd := d) (hd := by omega) (hW := hW126) (p := p) (is := 1)   (h_p := ⟨(Int.le_trans (by decide : (-2147483648 : Int) ≤ -2147483648) h_p.1), (Int.le_trans h_p.2 (by decide : (2147483647 : Int) ≤ 2147483647))⟩) (h_is := ⟨(by decide), (by decide)⟩)  (p_0 := by omega) (p_1 := by omega)) (fun o V_q hq => ?_)
            obtain ⟨G139, A140, rfl, rfl, hW141, hF142, p143, -⟩ := hq
            have hF145 := Fr_tr hF130 hF142 (Fr_sub (by decide)) (Fr_sub (by decide))
            refine .inl ⟨rfl, ?_⟩
            refine jx_go (tg := 630) rfl rfl ?_
            refine jx_rt (v := none) rfl rfl rfl rfl rfl rfl ?_
            exact ⟨_, _, om, it, rfl, rfl, hW141, hF145, ((hF142.1 113 rfl).trans ((hF127.1 113 rfl).trans (e_om))), ((hF142.1 111 rfl).trans ((hF127.1 111 rfl).trans (e_it))), by omega, by omega, by omega, by omega, (by rcases p143 with h9 | h9; exact opR_ari _ (by omega) (h9.2.trans p128); exact absurd h9.1 (by omega)), trivial⟩
        · have _q := h122
          refine jx_ld (pc_q := 240) (l_q := L25) (st_q := [.int (i32 (rb)), .int (i32 (p)), .ref 66]) rfl (jl_iload gL25_4) ?_
          refine jx_neg (pc_q := 241) rfl rfl ?_
          obtain ⟨v146, ev146⟩ : ∃ z, z = (i32 (-rb)).toInt := ⟨_, rfl⟩; have fv146 : i32 (-rb) = i32 v146 := (by rw [ev146]; exact (i32_of _).symm); rw [fv146]; have rv146 : (-2147483648 : Int) ≤ v146 ∧ v146 ≤ 2147483647 := ev146 ▸ i32_rg _
          refine jx_go (tg := 264) rfl rfl ?_
          refine jx_vr (pc_q := 267) (as := [.int (i32 (p)), .int (i32 (v146))]) (st := []) rfl rfl rfl rfl ⟨rfl, rfl, Nat.le_of_ble_eq_true rfl⟩ rfl rfl (c_two (dd := d) (hd := by omega) (hW := hW) (p := p) (v := v146)   (h_p := ⟨(Int.le_trans (by decide : (-2147483648 : Int) ≤ -2147483648) h_p.1), (Int.le_trans h_p.2 (by decide : (2147483647 : Int) ≤ 2147483647))⟩) (h_v := ⟨(Int.le_trans (by decide : (-2147483648 : Int) ≤ -2147483648) rv146.1), (Int.le_trans rv146.2 (by decide : (2147483647 : Int) ≤ 2147483647))⟩)  (p_0 := by omega) (p_1 := by omega)) (fun o V_q hq => ?_)
          obtain ⟨G147, A148, rfl, rfl, hW149, hF150, p151, -⟩ := hq
          have hF153 := Fr_tr hF0 hF150 (Fr_sub (by decide)) (Fr_sub (by decide))
          refine .inl ⟨rfl, ?_⟩
          refine jx_ld (pc_q := 268) (l_q := L25) (st_q := [.ref 66]) rfl (jl_aloadn gL25_0) ?_
          refine jx_ld (pc_q := 269) (l_q := L25) (st_q := [.int (i32 (p)), .ref 66]) rfl (jl_iloadn gL25_1) ?_
          refine jx_ld (pc_q := 270) (l_q := L25) (st_q := [.int (i32 (ra)), .int (i32 (p)), .ref 66]) rfl (jl_iloadn gL25_3) ?_
          refine jx_if_ne (pc_q := 273) (tg := 277) rfl rfl rfl (Int.le_trans (by decide : (-2147483648 : Int) ≤ -2147483648) b_ra.1) (Int.le_trans b_ra.2 (by decide : (2147483647 : Int) ≤ 2147483647)) (fun h154 => ?_) (fun h154 => ?_)
          · have _q := h154
            refine jx_ar (pc_q := 278) (st_q := [.int (i32 (0)), .int (i32 (p)), .ref 66]) rfl rfl rfl rfl ?_
            refine jx_vr (pc_q := 281) (as := [.int (i32 (p)), .int (i32 (0))]) (st := []) rfl rfl rfl rfl ⟨rfl, rfl, Nat.le_of_ble_eq_true rfl⟩ rfl rfl (c_fault2 (dd := d) (hd := by omega) (hW := hW149) (p := p) (is := 0)   (h_p := ⟨(Int.le_trans (by decide : (-2147483648 : Int) ≤ -2147483648) h_p.1), (Int.le_trans h_p.2 (by decide : (2147483647 : Int) ≤ 2147483647))⟩) (h_is := ⟨(by decide), (by decide)⟩)  (p_0 := by omega) (p_1 := by omega)) (fun o V_q hq => ?_)
            obtain ⟨G155, A156, rfl, rfl, hW157, hF158, p159, -⟩ := hq
            have hF161 := Fr_tr hF153 hF158 (Fr_sub (by decide)) (Fr_sub (by decide))
            refine .inl ⟨rfl, ?_⟩
            refine jx_go (tg := 630) rfl rfl ?_
            refine jx_rt (v := none) rfl rfl rfl rfl rfl rfl ?_
            exact ⟨_, _, om, it, rfl, rfl, hW157, hF161, ((hF158.1 113 rfl).trans ((hF150.1 113 rfl).trans (e_om))), ((hF158.1 111 rfl).trans ((hF150.1 111 rfl).trans (e_it))), by omega, by omega, by omega, by omega, (by rcases p159 with h9 | h9; exact opR_ari _ (by omega) (h9.2.trans p151); exact absurd h9.1 (by omega)), trivial⟩
          · have _q := h154
            refine jx_ar (pc_q := 274) (st_q := [.int (i32 (1)), .int (i32 (p)), .ref 66]) rfl rfl rfl rfl ?_
            refine jx_go (tg := 278) rfl rfl ?_
            refine jx_vr (pc_q := 281) (as := [.int (i32 (p)), .int (i32 (1))]) (st := []) rfl rfl rfl rfl ⟨rfl, rfl, Nat.le_of_ble_eq_true rfl⟩ rfl rfl (c_fault2 (dd := d) (hd := by omega) (hW := hW149) (p := p) (is := 1)   (h_p := ⟨(Int.le_trans (by decide : (-2147483648 : Int) ≤ -2147483648) h_p.1), (Int.le_trans h_p.2 (by decide : (2147483647 : Int) ≤ 2147483647))⟩) (h_is := ⟨(by decide), (by decide)⟩)  (p_0 := by omega) (p_1 := by omega)) (fun o V_q hq => ?_)
            obtain ⟨G162, A163, rfl, rfl, hW164, hF165, p166, -⟩ := hq
            have hF168 := Fr_tr hF153 hF165 (Fr_sub (by decide)) (Fr_sub (by decide))
            refine .inl ⟨rfl, ?_⟩
            refine jx_go (tg := 630) rfl rfl ?_
            refine jx_rt (v := none) rfl rfl rfl rfl rfl rfl ?_
            exact ⟨_, _, om, it, rfl, rfl, hW164, hF168, ((hF165.1 113 rfl).trans ((hF150.1 113 rfl).trans (e_om))), ((hF165.1 111 rfl).trans ((hF150.1 111 rfl).trans (e_it))), by omega, by omega, by omega, by omega, (by rcases p166 with h9 | h9; exact opR_ari _ (by omega) (h9.2.trans p151); exact absurd h9.1 (by omega)), trivial⟩
  · refine jx_swe (z := 5) (tg := 222) h26 rfl rfl rfl rfl ?_
    have _q : True := trivial
    refine jx_ld (pc_q := 223) (l_q := L25) (st_q := [.int (i32 (ra))]) rfl (jl_iloadn gL25_3) ?_
    refine jx_if_eq (pc_q := 226) (tg := 267) rfl rfl rfl (Int.le_trans (by decide : (-2147483648 : Int) ≤ -2147483648) b_ra.1) (Int.le_trans b_ra.2 (by decide : (2147483647 : Int) ≤ 2147483647)) (fun h169 => ?_) (fun h169 => ?_)
    · have _q := h169
      refine jx_ld (pc_q := 268) (l_q := L25) (st_q := [.ref 66]) rfl (jl_aloadn gL25_0) ?_
      refine jx_ld (pc_q := 269) (l_q := L25) (st_q := [.int (i32 (p)), .ref 66]) rfl (jl_iloadn gL25_1) ?_
      refine jx_ld (pc_q := 270) (l_q := L25) (st_q := [.int (i32 (ra)), .int (i32 (p)), .ref 66]) rfl (jl_iloadn gL25_3) ?_
      refine jx_if_ne (pc_q := 273) (tg := 277) rfl rfl rfl (Int.le_trans (by decide : (-2147483648 : Int) ≤ -2147483648) b_ra.1) (Int.le_trans b_ra.2 (by decide : (2147483647 : Int) ≤ 2147483647)) (fun h170 => ?_) (fun h170 => ?_)
      · have _q := h170
        refine jx_ar (pc_q := 278) (st_q := [.int (i32 (0)), .int (i32 (p)), .ref 66]) rfl rfl rfl rfl ?_
        refine jx_vr (pc_q := 281) (as := [.int (i32 (p)), .int (i32 (0))]) (st := []) rfl rfl rfl rfl ⟨rfl, rfl, Nat.le_of_ble_eq_true rfl⟩ rfl rfl (c_fault2 (dd := d) (hd := by omega) (hW := hW) (p := p) (is := 0)   (h_p := ⟨(Int.le_trans (by decide : (-2147483648 : Int) ≤ -2147483648) h_p.1), (Int.le_trans h_p.2 (by decide : (2147483647 : Int) ≤ 2147483647))⟩) (h_is := ⟨(by decide), (by decide)⟩)  (p_0 := by omega) (p_1 := by omega)) (fun o V_q hq => ?_)
        obtain ⟨G171, A172, rfl, rfl, hW173, hF174, p175, -⟩ := hq
        have hF177 := Fr_tr hF0 hF174 (Fr_sub (by decide)) (Fr_sub (by decide))
        refine .inl ⟨rfl, ?_⟩
        refine jx_go (tg := 630) rfl rfl ?_
        refine jx_rt (v := none) rfl rfl rfl rfl rfl rfl ?_
        exact ⟨_, _, om, it, rfl, rfl, hW173, hF177, ((hF174.1 113 rfl).trans (e_om)), ((hF174.1 111 rfl).trans (e_it)), by omega, by omega, by omega, by omega, (by rcases p175 with h9 | h9; exact absurd h9.1 (by omega); exact opR_dvf (by omega) h9.2), trivial⟩
      · have _q := h170
        refine jx_ar (pc_q := 274) (st_q := [.int (i32 (1)), .int (i32 (p)), .ref 66]) rfl rfl rfl rfl ?_
        refine jx_go (tg := 278) rfl rfl ?_
        refine jx_vr (pc_q := 281) (as := [.int (i32 (p)), .int (i32 (1))]) (st := []) rfl rfl rfl rfl ⟨rfl, rfl, Nat.le_of_ble_eq_true rfl⟩ rfl rfl (c_fault2 (dd := d) (hd := by omega) (hW := hW) (p := p) (is := 1)   (h_p := ⟨(Int.le_trans (by decide : (-2147483648 : Int) ≤ -2147483648) h_p.1), (Int.le_trans h_p.2 (by decide : (2147483647 : Int) ≤ 2147483647))⟩) (h_is := ⟨(by decide), (by decide)⟩)  (p_0 := by omega) (p_1 := by omega)) (fun o V_q hq => ?_)
        obtain ⟨G178, A179, rfl, rfl, hW180, hF181, p182, -⟩ := hq
        have hF184 := Fr_tr hF0 hF181 (Fr_sub (by decide)) (Fr_sub (by decide))
        refine .inl ⟨rfl, ?_⟩
        refine jx_go (tg := 630) rfl rfl ?_
        refine jx_rt (v := none) rfl rfl rfl rfl rfl rfl ?_
        exact ⟨_, _, om, it, rfl, rfl, hW180, hF184, ((hF181.1 113 rfl).trans (e_om)), ((hF181.1 111 rfl).trans (e_it)), by omega, by omega, by omega, by omega, (by rcases p182 with h9 | h9; exact absurd h9.1 (by omega); exact opR_dvf (by omega) h9.2), trivial⟩
    · have _q := h169
      refine jx_ld (pc_q := 227) (l_q := L25) (st_q := [.ref 66]) rfl (jl_aloadn gL25_0) ?_
      refine jx_ld (pc_q := 228) (l_q := L25) (st_q := [.int (i32 (p)), .ref 66]) rfl (jl_iloadn gL25_1) ?_
      refine jx_ld (pc_q := 229) (l_q := L25) (st_q := [.int (i32 (op1)), .int (i32 (p)), .ref 66]) rfl (jl_iloadn gL25_2) ?_
      refine jx_ar (pc_q := 230) (st_q := [.int (i32 (4)), .int (i32 (op1)), .int (i32 (p)), .ref 66]) rfl rfl rfl rfl ?_
      refine jx_icmp_ne (pc_q := 233) (tg := 251) rfl rfl rfl (Int.le_trans (by decide : (-2147483648 : Int) ≤ -2147483648) h_op1.1) (Int.le_trans h_op1.2 (by decide : (2147483647 : Int) ≤ 2147483647)) (by decide) (by decide) (fun h185 => ?_) (fun h185 => ?_)
      · have _q := h185
        refine jx_ld (pc_q := 252) (l_q := L25) (st_q := [.int (i32 (ra)), .int (i32 (p)), .ref 66]) rfl (jl_iloadn gL25_3) ?_
        refine jx_ar (pc_q := 253) (st_q := [.int (i32 (-1)), .int (i32 (ra)), .int (i32 (p)), .ref 66]) rfl rfl rfl rfl ?_
        refine jx_icmp_ne (pc_q := 256) (tg := 260) rfl rfl rfl (Int.le_trans (by decide : (-2147483648 : Int) ≤ -2147483648) b_ra.1) (Int.le_trans b_ra.2 (by decide : (2147483647 : Int) ≤ 2147483647)) (by decide) (by decide) (fun h186 => ?_) (fun h186 => ?_)
        · have _q := h186
          refine jx_ld (pc_q := 262) (l_q := L25) (st_q := [.int (i32 (rb)), .int (i32 (p)), .ref 66]) rfl (jl_iload gL25_4) ?_
          refine jx_ld (pc_q := 263) (l_q := L25) (st_q := [.int (i32 (ra)), .int (i32 (rb)), .int (i32 (p)), .ref 66]) rfl (jl_iloadn gL25_3) ?_
          refine jx_remw (pc_q := 264) rfl rfl (by omega) (by omega) (by omega) (fun r187 hr187 => ?_)
          refine jx_vr (pc_q := 267) (as := [.int (i32 (p)), .int (i32 (r187))]) (st := []) rfl rfl rfl rfl ⟨rfl, rfl, Nat.le_of_ble_eq_true rfl⟩ rfl rfl (c_two (dd := d) (hd := by omega) (hW := hW) (p := p) (v := r187)   (h_p := ⟨(Int.le_trans (by decide : (-2147483648 : Int) ≤ -2147483648) h_p.1), (Int.le_trans h_p.2 (by decide : (2147483647 : Int) ≤ 2147483647))⟩) (h_v := ⟨(by omega), (by omega)⟩)  (p_0 := by omega) (p_1 := by omega)) (fun o V_q hq => ?_)
          obtain ⟨G188, A189, rfl, rfl, hW190, hF191, p192, -⟩ := hq
          have hF194 := Fr_tr hF0 hF191 (Fr_sub (by decide)) (Fr_sub (by decide))
          refine .inl ⟨rfl, ?_⟩
          refine jx_ld (pc_q := 268) (l_q := L25) (st_q := [.ref 66]) rfl (jl_aloadn gL25_0) ?_
          refine jx_ld (pc_q := 269) (l_q := L25) (st_q := [.int (i32 (p)), .ref 66]) rfl (jl_iloadn gL25_1) ?_
          refine jx_ld (pc_q := 270) (l_q := L25) (st_q := [.int (i32 (ra)), .int (i32 (p)), .ref 66]) rfl (jl_iloadn gL25_3) ?_
          refine jx_if_ne (pc_q := 273) (tg := 277) rfl rfl rfl (Int.le_trans (by decide : (-2147483648 : Int) ≤ -2147483648) b_ra.1) (Int.le_trans b_ra.2 (by decide : (2147483647 : Int) ≤ 2147483647)) (fun h195 => ?_) (fun h195 => ?_)
          · have _q := h195
            refine jx_ar (pc_q := 278) (st_q := [.int (i32 (0)), .int (i32 (p)), .ref 66]) rfl rfl rfl rfl ?_
            refine jx_vr (pc_q := 281) (as := [.int (i32 (p)), .int (i32 (0))]) (st := []) rfl rfl rfl rfl ⟨rfl, rfl, Nat.le_of_ble_eq_true rfl⟩ rfl rfl (c_fault2 (dd := d) (hd := by omega) (hW := hW190) (p := p) (is := 0)   (h_p := ⟨(Int.le_trans (by decide : (-2147483648 : Int) ≤ -2147483648) h_p.1), (Int.le_trans h_p.2 (by decide : (2147483647 : Int) ≤ 2147483647))⟩) (h_is := ⟨(by decide), (by decide)⟩)  (p_0 := by omega) (p_1 := by omega)) (fun o V_q hq => ?_)
            obtain ⟨G196, A197, rfl, rfl, hW198, hF199, p200, -⟩ := hq
            have hF202 := Fr_tr hF194 hF199 (Fr_sub (by decide)) (Fr_sub (by decide))
            refine .inl ⟨rfl, ?_⟩
            refine jx_go (tg := 630) rfl rfl ?_
            refine jx_rt (v := none) rfl rfl rfl rfl rfl rfl ?_
            exact ⟨_, _, om, it, rfl, rfl, hW198, hF202, ((hF199.1 113 rfl).trans ((hF191.1 113 rfl).trans (e_om))), ((hF199.1 111 rfl).trans ((hF191.1 111 rfl).trans (e_it))), by omega, by omega, by omega, by omega, (by rcases p200 with h9 | h9; exact opR_ari _ (by omega) (h9.2.trans p192); exact absurd h9.1 (by omega)), trivial⟩
          · have _q := h195
            refine jx_ar (pc_q := 274) (st_q := [.int (i32 (1)), .int (i32 (p)), .ref 66]) rfl rfl rfl rfl ?_
            refine jx_go (tg := 278) rfl rfl ?_
            refine jx_vr (pc_q := 281) (as := [.int (i32 (p)), .int (i32 (1))]) (st := []) rfl rfl rfl rfl ⟨rfl, rfl, Nat.le_of_ble_eq_true rfl⟩ rfl rfl (c_fault2 (dd := d) (hd := by omega) (hW := hW190) (p := p) (is := 1)   (h_p := ⟨(Int.le_trans (by decide : (-2147483648 : Int) ≤ -2147483648) h_p.1), (Int.le_trans h_p.2 (by decide : (2147483647 : Int) ≤ 2147483647))⟩) (h_is := ⟨(by decide), (by decide)⟩)  (p_0 := by omega) (p_1 := by omega)) (fun o V_q hq => ?_)
            obtain ⟨G203, A204, rfl, rfl, hW205, hF206, p207, -⟩ := hq
            have hF209 := Fr_tr hF194 hF206 (Fr_sub (by decide)) (Fr_sub (by decide))
            refine .inl ⟨rfl, ?_⟩
            refine jx_go (tg := 630) rfl rfl ?_
            refine jx_rt (v := none) rfl rfl rfl rfl rfl rfl ?_
            exact ⟨_, _, om, it, rfl, rfl, hW205, hF209, ((hF206.1 113 rfl).trans ((hF191.1 113 rfl).trans (e_om))), ((hF206.1 111 rfl).trans ((hF191.1 111 rfl).trans (e_it))), by omega, by omega, by omega, by omega, (by rcases p207 with h9 | h9; exact opR_ari _ (by omega) (h9.2.trans p192); exact absurd h9.1 (by omega)), trivial⟩
        · have _q := h186
          refine jx_ar (pc_q := 257) (st_q := [.int (i32 (0)), .int (i32 (p)), .ref 66]) rfl rfl rfl rfl ?_
          refine jx_go (tg := 264) rfl rfl ?_
          refine jx_vr (pc_q := 267) (as := [.int (i32 (p)), .int (i32 (0))]) (st := []) rfl rfl rfl rfl ⟨rfl, rfl, Nat.le_of_ble_eq_true rfl⟩ rfl rfl (c_two (dd := d) (hd := by omega) (hW := hW) (p := p) (v := 0)   (h_p := ⟨(Int.le_trans (by decide : (-2147483648 : Int) ≤ -2147483648) h_p.1), (Int.le_trans h_p.2 (by decide : (2147483647 : Int) ≤ 2147483647))⟩) (h_v := ⟨(by decide), (by decide)⟩)  (p_0 := by omega) (p_1 := by omega)) (fun o V_q hq => ?_)
          obtain ⟨G210, A211, rfl, rfl, hW212, hF213, p214, -⟩ := hq
          have hF216 := Fr_tr hF0 hF213 (Fr_sub (by decide)) (Fr_sub (by decide))
          refine .inl ⟨rfl, ?_⟩
          refine jx_ld (pc_q := 268) (l_q := L25) (st_q := [.ref 66]) rfl (jl_aloadn gL25_0) ?_
          refine jx_ld (pc_q := 269) (l_q := L25) (st_q := [.int (i32 (p)), .ref 66]) rfl (jl_iloadn gL25_1) ?_
          refine jx_ld (pc_q := 270) (l_q := L25) (st_q := [.int (i32 (ra)), .int (i32 (p)), .ref 66]) rfl (jl_iloadn gL25_3) ?_
          refine jx_if_ne (pc_q := 273) (tg := 277) rfl rfl rfl (Int.le_trans (by decide : (-2147483648 : Int) ≤ -2147483648) b_ra.1) (Int.le_trans b_ra.2 (by decide : (2147483647 : Int) ≤ 2147483647)) (fun h217 => ?_) (fun h217 => ?_)
          · have _q := h217
            refine jx_ar (pc_q := 278) (st_q := [.int (i32 (0)), .int (i32 (p)), .ref 66]) rfl rfl rfl rfl ?_
            refine jx_vr (pc_q := 281) (as := [.int (i32 (p)), .int (i32 (0))]) (st := []) rfl rfl rfl rfl ⟨rfl, rfl, Nat.le_of_ble_eq_true rfl⟩ rfl rfl (c_fault2 (dd := d) (hd := by omega) (hW := hW212) (p := p) (is := 0)   (h_p := ⟨(Int.le_trans (by decide : (-2147483648 : Int) ≤ -2147483648) h_p.1), (Int.le_trans h_p.2 (by decide : (2147483647 : Int) ≤ 2147483647))⟩) (h_is := ⟨(by decide), (by decide)⟩)  (p_0 := by omega) (p_1 := by omega)) (fun o V_q hq => ?_)
            obtain ⟨G218, A219, rfl, rfl, hW220, hF221, p222, -⟩ := hq
            have hF224 := Fr_tr hF216 hF221 (Fr_sub (by decide)) (Fr_sub (by decide))
            refine .inl ⟨rfl, ?_⟩
            refine jx_go (tg := 630) rfl rfl ?_
            refine jx_rt (v := none) rfl rfl rfl rfl rfl rfl ?_
            exact ⟨_, _, om, it, rfl, rfl, hW220, hF224, ((hF221.1 113 rfl).trans ((hF213.1 113 rfl).trans (e_om))), ((hF221.1 111 rfl).trans ((hF213.1 111 rfl).trans (e_it))), by omega, by omega, by omega, by omega, (by rcases p222 with h9 | h9; exact opR_ari _ (by omega) (h9.2.trans p214); exact absurd h9.1 (by omega)), trivial⟩
          · have _q := h217
            refine jx_ar (pc_q := 274) (st_q := [.int (i32 (1)), .int (i32 (p)), .ref 66]) rfl rfl rfl rfl ?_
            refine jx_go (tg := 278) rfl rfl ?_
            refine jx_vr (pc_q := 281) (as := [.int (i32 (p)), .int (i32 (1))]) (st := []) rfl rfl rfl rfl ⟨rfl, rfl, Nat.le_of_ble_eq_true rfl⟩ rfl rfl (c_fault2 (dd := d) (hd := by omega) (hW := hW212) (p := p) (is := 1)   (h_p := ⟨(Int.le_trans (by decide : (-2147483648 : Int) ≤ -2147483648) h_p.1), (Int.le_trans h_p.2 (by decide : (2147483647 : Int) ≤ 2147483647))⟩) (h_is := ⟨(by decide), (by decide)⟩)  (p_0 := by omega) (p_1 := by omega)) (fun o V_q hq => ?_)
            obtain ⟨G225, A226, rfl, rfl, hW227, hF228, p229, -⟩ := hq
            have hF231 := Fr_tr hF216 hF228 (Fr_sub (by decide)) (Fr_sub (by decide))
            refine .inl ⟨rfl, ?_⟩
            refine jx_go (tg := 630) rfl rfl ?_
            refine jx_rt (v := none) rfl rfl rfl rfl rfl rfl ?_
            exact ⟨_, _, om, it, rfl, rfl, hW227, hF231, ((hF228.1 113 rfl).trans ((hF213.1 113 rfl).trans (e_om))), ((hF228.1 111 rfl).trans ((hF213.1 111 rfl).trans (e_it))), by omega, by omega, by omega, by omega, (by rcases p229 with h9 | h9; exact opR_ari _ (by omega) (h9.2.trans p214); exact absurd h9.1 (by omega)), trivial⟩
      · have _q := h185
        refine jx_ld (pc_q := 234) (l_q := L25) (st_q := [.int (i32 (ra)), .int (i32 (p)), .ref 66]) rfl (jl_iloadn gL25_3) ?_
        refine jx_ar (pc_q := 235) (st_q := [.int (i32 (-1)), .int (i32 (ra)), .int (i32 (p)), .ref 66]) rfl rfl rfl rfl ?_
        refine jx_icmp_ne (pc_q := 238) (tg := 244) rfl rfl rfl (Int.le_trans (by decide : (-2147483648 : Int) ≤ -2147483648) b_ra.1) (Int.le_trans b_ra.2 (by decide : (2147483647 : Int) ≤ 2147483647)) (by decide) (by decide) (fun h232 => ?_) (fun h232 => ?_)
        · have _q := h232
          refine jx_ld (pc_q := 246) (l_q := L25) (st_q := [.int (i32 (rb)), .int (i32 (p)), .ref 66]) rfl (jl_iload gL25_4) ?_
          refine jx_ld (pc_q := 247) (l_q := L25) (st_q := [.int (i32 (ra)), .int (i32 (rb)), .int (i32 (p)), .ref 66]) rfl (jl_iloadn gL25_3) ?_
          refine jx_divw (pc_q := 248) rfl rfl (by omega) (by omega) (by omega) (fun r233 hr233 => ?_)
          refine jx_go (tg := 264) rfl rfl ?_
          refine jx_vr (pc_q := 267) (as := [.int (i32 (p)), .int (i32 (r233))]) (st := []) rfl rfl rfl rfl ⟨rfl, rfl, Nat.le_of_ble_eq_true rfl⟩ rfl rfl (c_two (dd := d) (hd := by omega) (hW := hW) (p := p) (v := r233)   (h_p := ⟨(Int.le_trans (by decide : (-2147483648 : Int) ≤ -2147483648) h_p.1), (Int.le_trans h_p.2 (by decide : (2147483647 : Int) ≤ 2147483647))⟩) (h_v := ⟨(by omega), (by omega)⟩)  (p_0 := by omega) (p_1 := by omega)) (fun o V_q hq => ?_)
          obtain ⟨G234, A235, rfl, rfl, hW236, hF237, p238, -⟩ := hq
          have hF240 := Fr_tr hF0 hF237 (Fr_sub (by decide)) (Fr_sub (by decide))
          refine .inl ⟨rfl, ?_⟩
          refine jx_ld (pc_q := 268) (l_q := L25) (st_q := [.ref 66]) rfl (jl_aloadn gL25_0) ?_
          refine jx_ld (pc_q := 269) (l_q := L25) (st_q := [.int (i32 (p)), .ref 66]) rfl (jl_iloadn gL25_1) ?_
          refine jx_ld (pc_q := 270) (l_q := L25) (st_q := [.int (i32 (ra)), .int (i32 (p)), .ref 66]) rfl (jl_iloadn gL25_3) ?_
          refine jx_if_ne (pc_q := 273) (tg := 277) rfl rfl rfl (Int.le_trans (by decide : (-2147483648 : Int) ≤ -2147483648) b_ra.1) (Int.le_trans b_ra.2 (by decide : (2147483647 : Int) ≤ 2147483647)) (fun h241 => ?_) (fun h241 => ?_)
          · have _q := h241
            refine jx_ar (pc_q := 278) (st_q := [.int (i32 (0)), .int (i32 (p)), .ref 66]) rfl rfl rfl rfl ?_
            refine jx_vr (pc_q := 281) (as := [.int (i32 (p)), .int (i32 (0))]) (st := []) rfl rfl rfl rfl ⟨rfl, rfl, Nat.le_of_ble_eq_true rfl⟩ rfl rfl (c_fault2 (dd := d) (hd := by omega) (hW := hW236) (p := p) (is := 0)   (h_p := ⟨(Int.le_trans (by decide : (-2147483648 : Int) ≤ -2147483648) h_p.1), (Int.le_trans h_p.2 (by decide : (2147483647 : Int) ≤ 2147483647))⟩) (h_is := ⟨(by decide), (by decide)⟩)  (p_0 := by omega) (p_1 := by omega)) (fun o V_q hq => ?_)
            obtain ⟨G242, A243, rfl, rfl, hW244, hF245, p246, -⟩ := hq
            have hF248 := Fr_tr hF240 hF245 (Fr_sub (by decide)) (Fr_sub (by decide))
            refine .inl ⟨rfl, ?_⟩
            refine jx_go (tg := 630) rfl rfl ?_
            refine jx_rt (v := none) rfl rfl rfl rfl rfl rfl ?_
            exact ⟨_, _, om, it, rfl, rfl, hW244, hF248, ((hF245.1 113 rfl).trans ((hF237.1 113 rfl).trans (e_om))), ((hF245.1 111 rfl).trans ((hF237.1 111 rfl).trans (e_it))), by omega, by omega, by omega, by omega, (by rcases p246 with h9 | h9; exact opR_ari _ (by omega) (h9.2.trans p238); exact absurd h9.1 (by omega)), trivial⟩
          · have _q := h241
            refine jx_ar (pc_q := 274) (st_q := [.int (i32 (1)), .int (i32 (p)), .ref 66]) rfl rfl rfl rfl ?_
            refine jx_go (tg := 278) rfl rfl ?_
            refine jx_vr (pc_q := 281) (as := [.int (i32 (p)), .int (i32 (1))]) (st := []) rfl rfl rfl rfl ⟨rfl, rfl, Nat.le_of_ble_eq_true rfl⟩ rfl rfl (c_fault2 (dd := d) (hd := by omega) (hW := hW236) (p := p) (is := 1)   (h_p := ⟨(Int.le_trans (by decide : (-2147483648 : Int) ≤ -2147483648) h_p.1), (Int.le_trans h_p.2 (by decide : (2147483647 : Int) ≤ 2147483647))⟩) (h_is := ⟨(by decide), (by decide)⟩)  (p_0 := by omega) (p_1 := by omega)) (fun o V_q hq => ?_)
            obtain ⟨G249, A250, rfl, rfl, hW251, hF252, p253, -⟩ := hq
            have hF255 := Fr_tr hF240 hF252 (Fr_sub (by decide)) (Fr_sub (by decide))
            refine .inl ⟨rfl, ?_⟩
            refine jx_go (tg := 630) rfl rfl ?_
            refine jx_rt (v := none) rfl rfl rfl rfl rfl rfl ?_
            exact ⟨_, _, om, it, rfl, rfl, hW251, hF255, ((hF252.1 113 rfl).trans ((hF237.1 113 rfl).trans (e_om))), ((hF252.1 111 rfl).trans ((hF237.1 111 rfl).trans (e_it))), by omega, by omega, by omega, by omega, (by rcases p253 with h9 | h9; exact opR_ari _ (by omega) (h9.2.trans p238); exact absurd h9.1 (by omega)), trivial⟩
        · have _q := h232
          refine jx_ld (pc_q := 240) (l_q := L25) (st_q := [.int (i32 (rb)), .int (i32 (p)), .ref 66]) rfl (jl_iload gL25_4) ?_
          refine jx_neg (pc_q := 241) rfl rfl ?_
          obtain ⟨v256, ev256⟩ : ∃ z, z = (i32 (-rb)).toInt := ⟨_, rfl⟩; have fv256 : i32 (-rb) = i32 v256 := (by rw [ev256]; exact (i32_of _).symm); rw [fv256]; have rv256 : (-2147483648 : Int) ≤ v256 ∧ v256 ≤ 2147483647 := ev256 ▸ i32_rg _
          refine jx_go (tg := 264) rfl rfl ?_
          refine jx_vr (pc_q := 267) (as := [.int (i32 (p)), .int (i32 (v256))]) (st := []) rfl rfl rfl rfl ⟨rfl, rfl, Nat.le_of_ble_eq_true rfl⟩ rfl rfl (c_two (dd := d) (hd := by omega) (hW := hW) (p := p) (v := v256)   (h_p := ⟨(Int.le_trans (by decide : (-2147483648 : Int) ≤ -2147483648) h_p.1), (Int.le_trans h_p.2 (by decide : (2147483647 : Int) ≤ 2147483647))⟩) (h_v := ⟨(Int.le_trans (by decide : (-2147483648 : Int) ≤ -2147483648) rv256.1), (Int.le_trans rv256.2 (by decide : (2147483647 : Int) ≤ 2147483647))⟩)  (p_0 := by omega) (p_1 := by omega)) (fun o V_q hq => ?_)
          obtain ⟨G257, A258, rfl, rfl, hW259, hF260, p261, -⟩ := hq
          have hF263 := Fr_tr hF0 hF260 (Fr_sub (by decide)) (Fr_sub (by decide))
          refine .inl ⟨rfl, ?_⟩
          refine jx_ld (pc_q := 268) (l_q := L25) (st_q := [.ref 66]) rfl (jl_aloadn gL25_0) ?_
          refine jx_ld (pc_q := 269) (l_q := L25) (st_q := [.int (i32 (p)), .ref 66]) rfl (jl_iloadn gL25_1) ?_
          refine jx_ld (pc_q := 270) (l_q := L25) (st_q := [.int (i32 (ra)), .int (i32 (p)), .ref 66]) rfl (jl_iloadn gL25_3) ?_
          refine jx_if_ne (pc_q := 273) (tg := 277) rfl rfl rfl (Int.le_trans (by decide : (-2147483648 : Int) ≤ -2147483648) b_ra.1) (Int.le_trans b_ra.2 (by decide : (2147483647 : Int) ≤ 2147483647)) (fun h264 => ?_) (fun h264 => ?_)
          · have _q := h264
            refine jx_ar (pc_q := 278) (st_q := [.int (i32 (0)), .int (i32 (p)), .ref 66]) rfl rfl rfl rfl ?_
            refine jx_vr (pc_q := 281) (as := [.int (i32 (p)), .int (i32 (0))]) (st := []) rfl rfl rfl rfl ⟨rfl, rfl, Nat.le_of_ble_eq_true rfl⟩ rfl rfl (c_fault2 (dd := d) (hd := by omega) (hW := hW259) (p := p) (is := 0)   (h_p := ⟨(Int.le_trans (by decide : (-2147483648 : Int) ≤ -2147483648) h_p.1), (Int.le_trans h_p.2 (by decide : (2147483647 : Int) ≤ 2147483647))⟩) (h_is := ⟨(by decide), (by decide)⟩)  (p_0 := by omega) (p_1 := by omega)) (fun o V_q hq => ?_)
            obtain ⟨G265, A266, rfl, rfl, hW267, hF268, p269, -⟩ := hq
            have hF271 := Fr_tr hF263 hF268 (Fr_sub (by decide)) (Fr_sub (by decide))
            refine .inl ⟨rfl, ?_⟩
            refine jx_go (tg := 630) rfl rfl ?_
            refine jx_rt (v := none) rfl rfl rfl rfl rfl rfl ?_
            exact ⟨_, _, om, it, rfl, rfl, hW267, hF271, ((hF268.1 113 rfl).trans ((hF260.1 113 rfl).trans (e_om))), ((hF268.1 111 rfl).trans ((hF260.1 111 rfl).trans (e_it))), by omega, by omega, by omega, by omega, (by rcases p269 with h9 | h9; exact opR_ari _ (by omega) (h9.2.trans p261); exact absurd h9.1 (by omega)), trivial⟩
          · have _q := h264
            refine jx_ar (pc_q := 274) (st_q := [.int (i32 (1)), .int (i32 (p)), .ref 66]) rfl rfl rfl rfl ?_
            refine jx_go (tg := 278) rfl rfl ?_
            refine jx_vr (pc_q := 281) (as := [.int (i32 (p)), .int (i32 (1))]) (st := []) rfl rfl rfl rfl ⟨rfl, rfl, Nat.le_of_ble_eq_true rfl⟩ rfl rfl (c_fault2 (dd := d) (hd := by omega) (hW := hW259) (p := p) (is := 1)   (h_p := ⟨(Int.le_trans (by decide : (-2147483648 : Int) ≤ -2147483648) h_p.1), (Int.le_trans h_p.2 (by decide : (2147483647 : Int) ≤ 2147483647))⟩) (h_is := ⟨(by decide), (by decide)⟩)  (p_0 := by omega) (p_1 := by omega)) (fun o V_q hq => ?_)
            obtain ⟨G272, A273, rfl, rfl, hW274, hF275, p276, -⟩ := hq
            have hF278 := Fr_tr hF263 hF275 (Fr_sub (by decide)) (Fr_sub (by decide))
            refine .inl ⟨rfl, ?_⟩
            refine jx_go (tg := 630) rfl rfl ?_
            refine jx_rt (v := none) rfl rfl rfl rfl rfl rfl ?_
            exact ⟨_, _, om, it, rfl, rfl, hW274, hF278, ((hF275.1 113 rfl).trans ((hF260.1 113 rfl).trans (e_om))), ((hF275.1 111 rfl).trans ((hF260.1 111 rfl).trans (e_it))), by omega, by omega, by omega, by omega, (by rcases p276 with h9 | h9; exact opR_ari _ (by omega) (h9.2.trans p261); exact absurd h9.1 (by omega)), trivial⟩
  · refine jx_swe (z := 6) (tg := 284) h26 rfl rfl rfl rfl ?_
    have _q : True := trivial
    refine jx_ld (pc_q := 285) (l_q := L25) (st_q := [.ref 66]) rfl (jl_aloadn gL25_0) ?_
    refine jx_ld (pc_q := 286) (l_q := L25) (st_q := [.int (i32 (p)), .ref 66]) rfl (jl_iloadn gL25_1) ?_
    refine jx_ld (pc_q := 288) (l_q := L25) (st_q := [.int (i32 (rb)), .int (i32 (p)), .ref 66]) rfl (jl_iload gL25_4) ?_
    refine jx_ld (pc_q := 289) (l_q := L25) (st_q := [.int (i32 (ra)), .int (i32 (rb)), .int (i32 (p)), .ref 66]) rfl (jl_iloadn gL25_3) ?_
    refine jx_icmp_le (pc_q := 292) (tg := 296) rfl rfl rfl (Int.le_trans (by decide : (-2147483648 : Int) ≤ -2147483648) b_rb.1) (Int.le_trans b_rb.2 (by decide : (2147483647 : Int) ≤ 2147483647)) (Int.le_trans (by decide : (-2147483648 : Int) ≤ -2147483648) b_ra.1) (Int.le_trans b_ra.2 (by decide : (2147483647 : Int) ≤ 2147483647)) (fun h279 => ?_) (fun h279 => ?_)
    · have _q := h279
      refine jx_ar (pc_q := 297) (st_q := [.int (i32 (0)), .int (i32 (p)), .ref 66]) rfl rfl rfl rfl ?_
      refine jx_vr (pc_q := 300) (as := [.int (i32 (p)), .int (i32 (0))]) (st := []) rfl rfl rfl rfl ⟨rfl, rfl, Nat.le_of_ble_eq_true rfl⟩ rfl rfl (c_two (dd := d) (hd := by omega) (hW := hW) (p := p) (v := 0)   (h_p := ⟨(Int.le_trans (by decide : (-2147483648 : Int) ≤ -2147483648) h_p.1), (Int.le_trans h_p.2 (by decide : (2147483647 : Int) ≤ 2147483647))⟩) (h_v := ⟨(by decide), (by decide)⟩)  (p_0 := by omega) (p_1 := by omega)) (fun o V_q hq => ?_)
      obtain ⟨G280, A281, rfl, rfl, hW282, hF283, p284, -⟩ := hq
      have hF286 := Fr_tr hF0 hF283 (Fr_sub (by decide)) (Fr_sub (by decide))
      refine .inl ⟨rfl, ?_⟩
      refine jx_go (tg := 630) rfl rfl ?_
      refine jx_rt (v := none) rfl rfl rfl rfl rfl rfl ?_
      exact ⟨_, _, om, it, rfl, rfl, hW282, hF286, ((hF283.1 113 rfl).trans (e_om)), ((hF283.1 111 rfl).trans (e_it)), by omega, by omega, by omega, by omega, (opR_ari _ (by omega) p284), trivial⟩
    · have _q := h279
      refine jx_ar (pc_q := 293) (st_q := [.int (i32 (1)), .int (i32 (p)), .ref 66]) rfl rfl rfl rfl ?_
      refine jx_go (tg := 297) rfl rfl ?_
      refine jx_vr (pc_q := 300) (as := [.int (i32 (p)), .int (i32 (1))]) (st := []) rfl rfl rfl rfl ⟨rfl, rfl, Nat.le_of_ble_eq_true rfl⟩ rfl rfl (c_two (dd := d) (hd := by omega) (hW := hW) (p := p) (v := 1)   (h_p := ⟨(Int.le_trans (by decide : (-2147483648 : Int) ≤ -2147483648) h_p.1), (Int.le_trans h_p.2 (by decide : (2147483647 : Int) ≤ 2147483647))⟩) (h_v := ⟨(by decide), (by decide)⟩)  (p_0 := by omega) (p_1 := by omega)) (fun o V_q hq => ?_)
      obtain ⟨G287, A288, rfl, rfl, hW289, hF290, p291, -⟩ := hq
      have hF293 := Fr_tr hF0 hF290 (Fr_sub (by decide)) (Fr_sub (by decide))
      refine .inl ⟨rfl, ?_⟩
      refine jx_go (tg := 630) rfl rfl ?_
      refine jx_rt (v := none) rfl rfl rfl rfl rfl rfl ?_
      exact ⟨_, _, om, it, rfl, rfl, hW289, hF293, ((hF290.1 113 rfl).trans (e_om)), ((hF290.1 111 rfl).trans (e_it)), by omega, by omega, by omega, by omega, (opR_ari _ (by omega) p291), trivial⟩
  · refine jx_swe (z := 7) (tg := 303) h26 rfl rfl rfl rfl ?_
    have _q : True := trivial
    refine jx_ld (pc_q := 304) (l_q := L25) (st_q := [.ref 66]) rfl (jl_aloadn gL25_0) ?_
    refine jx_ld (pc_q := 305) (l_q := L25) (st_q := [.int (i32 (p)), .ref 66]) rfl (jl_iloadn gL25_1) ?_
    refine jx_ld (pc_q := 306) (l_q := L25) (st_q := [.int (i32 (ra)), .int (i32 (p)), .ref 66]) rfl (jl_iloadn gL25_3) ?_
    refine jx_ld (pc_q := 308) (l_q := L25) (st_q := [.int (i32 (rb)), .int (i32 (ra)), .int (i32 (p)), .ref 66]) rfl (jl_iload gL25_4) ?_
    refine jx_and (pc_q := 309) rfl rfl ?_
    obtain ⟨b294, eb294⟩ : ∃ z, z = (i32 (ra) &&& i32 (rb)).toInt := ⟨_, rfl⟩
    rw [← eb294]
    have rb294 : (-2147483648 : Int) ≤ b294 ∧ b294 ≤ 2147483647 := eb294 ▸ i32_rg _
    refine jx_vr (pc_q := 312) (as := [.int (i32 (p)), .int (i32 (b294))]) (st := []) rfl rfl rfl rfl ⟨rfl, rfl, Nat.le_of_ble_eq_true rfl⟩ rfl rfl (c_two (dd := d) (hd := by omega) (hW := hW) (p := p) (v := b294)   (h_p := ⟨(Int.le_trans (by decide : (-2147483648 : Int) ≤ -2147483648) h_p.1), (Int.le_trans h_p.2 (by decide : (2147483647 : Int) ≤ 2147483647))⟩) (h_v := ⟨(Int.le_trans (by decide : (-2147483648 : Int) ≤ -2147483648) rb294.1), (Int.le_trans rb294.2 (by decide : (2147483647 : Int) ≤ 2147483647))⟩)  (p_0 := by omega) (p_1 := by omega)) (fun o V_q hq => ?_)
    obtain ⟨G295, A296, rfl, rfl, hW297, hF298, p299, -⟩ := hq
    have hF301 := Fr_tr hF0 hF298 (Fr_sub (by decide)) (Fr_sub (by decide))
    refine .inl ⟨rfl, ?_⟩
    refine jx_go (tg := 630) rfl rfl ?_
    refine jx_rt (v := none) rfl rfl rfl rfl rfl rfl ?_
    exact ⟨_, _, om, it, rfl, rfl, hW297, hF301, ((hF298.1 113 rfl).trans (e_om)), ((hF298.1 111 rfl).trans (e_it)), by omega, by omega, by omega, by omega, (opR_ari _ (by omega) p299), trivial⟩
  · refine jx_swe (z := 8) (tg := 315) h26 rfl rfl rfl rfl ?_
    have _q : True := trivial
    refine jx_ld (pc_q := 316) (l_q := L25) (st_q := [.ref 66]) rfl (jl_aloadn gL25_0) ?_
    refine jx_ld (pc_q := 317) (l_q := L25) (st_q := [.int (i32 (p)), .ref 66]) rfl (jl_iloadn gL25_1) ?_
    refine jx_ld (pc_q := 318) (l_q := L25) (st_q := [.int (i32 (ra)), .int (i32 (p)), .ref 66]) rfl (jl_iloadn gL25_3) ?_
    refine jx_ld (pc_q := 320) (l_q := L25) (st_q := [.int (i32 (rb)), .int (i32 (ra)), .int (i32 (p)), .ref 66]) rfl (jl_iload gL25_4) ?_
    refine jx_or (pc_q := 321) rfl rfl ?_
    obtain ⟨b302, eb302⟩ : ∃ z, z = (i32 (ra) ||| i32 (rb)).toInt := ⟨_, rfl⟩
    rw [← eb302]
    have rb302 : (-2147483648 : Int) ≤ b302 ∧ b302 ≤ 2147483647 := eb302 ▸ i32_rg _
    refine jx_vr (pc_q := 324) (as := [.int (i32 (p)), .int (i32 (b302))]) (st := []) rfl rfl rfl rfl ⟨rfl, rfl, Nat.le_of_ble_eq_true rfl⟩ rfl rfl (c_two (dd := d) (hd := by omega) (hW := hW) (p := p) (v := b302)   (h_p := ⟨(Int.le_trans (by decide : (-2147483648 : Int) ≤ -2147483648) h_p.1), (Int.le_trans h_p.2 (by decide : (2147483647 : Int) ≤ 2147483647))⟩) (h_v := ⟨(Int.le_trans (by decide : (-2147483648 : Int) ≤ -2147483648) rb302.1), (Int.le_trans rb302.2 (by decide : (2147483647 : Int) ≤ 2147483647))⟩)  (p_0 := by omega) (p_1 := by omega)) (fun o V_q hq => ?_)
    obtain ⟨G303, A304, rfl, rfl, hW305, hF306, p307, -⟩ := hq
    have hF309 := Fr_tr hF0 hF306 (Fr_sub (by decide)) (Fr_sub (by decide))
    refine .inl ⟨rfl, ?_⟩
    refine jx_go (tg := 630) rfl rfl ?_
    refine jx_rt (v := none) rfl rfl rfl rfl rfl rfl ?_
    exact ⟨_, _, om, it, rfl, rfl, hW305, hF309, ((hF306.1 113 rfl).trans (e_om)), ((hF306.1 111 rfl).trans (e_it)), by omega, by omega, by omega, by omega, (opR_ari _ (by omega) p307), trivial⟩
  · refine jx_swe (z := 9) (tg := 327) h26 rfl rfl rfl rfl ?_
    have _q : True := trivial
    refine jx_ld (pc_q := 328) (l_q := L25) (st_q := [.ref 66]) rfl (jl_aloadn gL25_0) ?_
    refine jx_ld (pc_q := 329) (l_q := L25) (st_q := [.int (i32 (p)), .ref 66]) rfl (jl_iloadn gL25_1) ?_
    refine jx_ld (pc_q := 331) (l_q := L25) (st_q := [.int (i32 (rb)), .int (i32 (p)), .ref 66]) rfl (jl_iload gL25_4) ?_
    refine jx_ld (pc_q := 332) (l_q := L25) (st_q := [.int (i32 (ra)), .int (i32 (rb)), .int (i32 (p)), .ref 66]) rfl (jl_iloadn gL25_3) ?_
    refine jx_ar (pc_q := 334) (st_q := [.int (i32 (31)), .int (i32 (ra)), .int (i32 (rb)), .int (i32 (p)), .ref 66]) rfl rfl rfl rfl ?_
    refine jx_and (pc_q := 335) rfl rfl ?_
    obtain ⟨b310, eb310⟩ : ∃ z, z = (i32 (ra) &&& i32 (31)).toInt := ⟨_, rfl⟩
    rw [← eb310]
    have rb310 : (-2147483648 : Int) ≤ b310 ∧ b310 ≤ 2147483647 := eb310 ▸ i32_rg _
    refine jx_shl (pc_q := 336) rfl rfl ?_
    obtain ⟨b311, eb311⟩ : ∃ z, z = (i32 (rb) <<< (i32 (b310) &&& 31)).toInt := ⟨_, rfl⟩
    rw [← eb311]
    have rb311 : (-2147483648 : Int) ≤ b311 ∧ b311 ≤ 2147483647 := eb311 ▸ i32_rg _
    refine jx_vr (pc_q := 339) (as := [.int (i32 (p)), .int (i32 (b311))]) (st := []) rfl rfl rfl rfl ⟨rfl, rfl, Nat.le_of_ble_eq_true rfl⟩ rfl rfl (c_two (dd := d) (hd := by omega) (hW := hW) (p := p) (v := b311)   (h_p := ⟨(Int.le_trans (by decide : (-2147483648 : Int) ≤ -2147483648) h_p.1), (Int.le_trans h_p.2 (by decide : (2147483647 : Int) ≤ 2147483647))⟩) (h_v := ⟨(Int.le_trans (by decide : (-2147483648 : Int) ≤ -2147483648) rb311.1), (Int.le_trans rb311.2 (by decide : (2147483647 : Int) ≤ 2147483647))⟩)  (p_0 := by omega) (p_1 := by omega)) (fun o V_q hq => ?_)
    obtain ⟨G312, A313, rfl, rfl, hW314, hF315, p316, -⟩ := hq
    have hF318 := Fr_tr hF0 hF315 (Fr_sub (by decide)) (Fr_sub (by decide))
    refine .inl ⟨rfl, ?_⟩
    refine jx_go (tg := 630) rfl rfl ?_
    refine jx_rt (v := none) rfl rfl rfl rfl rfl rfl ?_
    exact ⟨_, _, om, it, rfl, rfl, hW314, hF318, ((hF315.1 113 rfl).trans (e_om)), ((hF315.1 111 rfl).trans (e_it)), by omega, by omega, by omega, by omega, (opR_ari _ (by omega) p316), trivial⟩
  · refine jx_swe (z := 10) (tg := 342) h26 rfl rfl rfl rfl ?_
    have _q : True := trivial
    refine jx_ld (pc_q := 343) (l_q := L25) (st_q := [.ref 66]) rfl (jl_aloadn gL25_0) ?_
    refine jx_ld (pc_q := 344) (l_q := L25) (st_q := [.int (i32 (p)), .ref 66]) rfl (jl_iloadn gL25_1) ?_
    refine jx_ld (pc_q := 346) (l_q := L25) (st_q := [.int (i32 (rb)), .int (i32 (p)), .ref 66]) rfl (jl_iload gL25_4) ?_
    refine jx_ld (pc_q := 347) (l_q := L25) (st_q := [.int (i32 (ra)), .int (i32 (rb)), .int (i32 (p)), .ref 66]) rfl (jl_iloadn gL25_3) ?_
    refine jx_ar (pc_q := 349) (st_q := [.int (i32 (31)), .int (i32 (ra)), .int (i32 (rb)), .int (i32 (p)), .ref 66]) rfl rfl rfl rfl ?_
    refine jx_and (pc_q := 350) rfl rfl ?_
    obtain ⟨b319, eb319⟩ : ∃ z, z = (i32 (ra) &&& i32 (31)).toInt := ⟨_, rfl⟩
    rw [← eb319]
    have rb319 : (-2147483648 : Int) ≤ b319 ∧ b319 ≤ 2147483647 := eb319 ▸ i32_rg _
    refine jx_ushrw (pc_q := 351) rfl rfl (fun r320 hr320 => ?_)
    refine jx_vr (pc_q := 354) (as := [.int (i32 (p)), .int (i32 (r320))]) (st := []) rfl rfl rfl rfl ⟨rfl, rfl, Nat.le_of_ble_eq_true rfl⟩ rfl rfl (c_two (dd := d) (hd := by omega) (hW := hW) (p := p) (v := r320)   (h_p := ⟨(Int.le_trans (by decide : (-2147483648 : Int) ≤ -2147483648) h_p.1), (Int.le_trans h_p.2 (by decide : (2147483647 : Int) ≤ 2147483647))⟩) (h_v := ⟨(by omega), (by omega)⟩)  (p_0 := by omega) (p_1 := by omega)) (fun o V_q hq => ?_)
    obtain ⟨G321, A322, rfl, rfl, hW323, hF324, p325, -⟩ := hq
    have hF327 := Fr_tr hF0 hF324 (Fr_sub (by decide)) (Fr_sub (by decide))
    refine .inl ⟨rfl, ?_⟩
    refine jx_go (tg := 630) rfl rfl ?_
    refine jx_rt (v := none) rfl rfl rfl rfl rfl rfl ?_
    exact ⟨_, _, om, it, rfl, rfl, hW323, hF327, ((hF324.1 113 rfl).trans (e_om)), ((hF324.1 111 rfl).trans (e_it)), by omega, by omega, by omega, by omega, (opR_ari _ (by omega) p325), trivial⟩
  · refine jx_swe (z := 11) (tg := 186) h26 rfl rfl rfl rfl ?_
    have _q : True := trivial
    refine jx_ld (pc_q := 187) (l_q := L25) (st_q := [.ref 66]) rfl (jl_aloadn gL25_0) ?_
    refine jx_ld (pc_q := 188) (l_q := L25) (st_q := [.int (i32 (p)), .ref 66]) rfl (jl_iloadn gL25_1) ?_
    refine jx_ld (pc_q := 189) (l_q := L25) (st_q := [.int (i32 (ra)), .int (i32 (p)), .ref 66]) rfl (jl_iloadn gL25_3) ?_
    refine jx_ld (pc_q := 191) (l_q := L25) (st_q := [.int (i32 (rb)), .int (i32 (ra)), .int (i32 (p)), .ref 66]) rfl (jl_iload gL25_4) ?_
    refine jx_add (pc_q := 192) rfl rfl ?_
    obtain ⟨v328, ev328⟩ : ∃ z, z = (i32 (ra + rb)).toInt := ⟨_, rfl⟩; have fv328 : i32 (ra + rb) = i32 v328 := (by rw [ev328]; exact (i32_of _).symm); rw [fv328]; have rv328 : (-2147483648 : Int) ≤ v328 ∧ v328 ≤ 2147483647 := ev328 ▸ i32_rg _
    refine jx_vr (pc_q := 195) (as := [.int (i32 (p)), .int (i32 (v328))]) (st := []) rfl rfl rfl rfl ⟨rfl, rfl, Nat.le_of_ble_eq_true rfl⟩ rfl rfl (c_two (dd := d) (hd := by omega) (hW := hW) (p := p) (v := v328)   (h_p := ⟨(Int.le_trans (by decide : (-2147483648 : Int) ≤ -2147483648) h_p.1), (Int.le_trans h_p.2 (by decide : (2147483647 : Int) ≤ 2147483647))⟩) (h_v := ⟨(Int.le_trans (by decide : (-2147483648 : Int) ≤ -2147483648) rv328.1), (Int.le_trans rv328.2 (by decide : (2147483647 : Int) ≤ 2147483647))⟩)  (p_0 := by omega) (p_1 := by omega)) (fun o V_q hq => ?_)
    obtain ⟨G329, A330, rfl, rfl, hW331, hF332, p333, -⟩ := hq
    have hF335 := Fr_tr hF0 hF332 (Fr_sub (by decide)) (Fr_sub (by decide))
    refine .inl ⟨rfl, ?_⟩
    refine jx_go (tg := 630) rfl rfl ?_
    refine jx_rt (v := none) rfl rfl rfl rfl rfl rfl ?_
    exact ⟨_, _, om, it, rfl, rfl, hW331, hF335, ((hF332.1 113 rfl).trans (e_om)), ((hF332.1 111 rfl).trans (e_it)), by omega, by omega, by omega, by omega, (opR_add _ _ (by omega) e_ra e_rb (p333.trans (by rw [ev328]))), trivial⟩
  · refine jx_swe (z := 12) (tg := 357) h26 rfl rfl rfl rfl ?_
    have _q : True := trivial
    refine jx_ld (pc_q := 358) (l_q := L25) (st_q := [.ref 66]) rfl (jl_aloadn gL25_0) ?_
    refine jx_ld (pc_q := 359) (l_q := L25) (st_q := [.int (i32 (p)), .ref 66]) rfl (jl_iloadn gL25_1) ?_
    refine jx_vr (pc_q := 362) (as := [.int (i32 (p))]) (st := []) rfl rfl rfl rfl ⟨rfl, rfl, Nat.le_of_ble_eq_true rfl⟩ rfl rfl (c_take (dd := d) (hd := by omega) (hW := hW) (p := p)   (h_p := ⟨(Int.le_trans (by decide : (-2147483648 : Int) ≤ -2147483648) h_p.1), (Int.le_trans h_p.2 (by decide : (2147483647 : Int) ≤ 2147483647))⟩)  (p_0 := by omega) (p_1 := by omega)) (fun o V_q hq => ?_)
    obtain ⟨G336, A337, rfl, rfl, hW338, hF339, p340, -⟩ := hq
    have hF342 := Fr_tr hF0 hF339 (Fr_sub (by decide)) (Fr_sub (by decide))
    refine .inl ⟨rfl, ?_⟩
    refine jx_ld (pc_q := 363) (l_q := L25) (st_q := [.ref 66]) rfl (jl_aloadn gL25_0) ?_
    refine jx_ld (pc_q := 364) (l_q := L25) (st_q := [.int (i32 (p)), .ref 66]) rfl (jl_iloadn gL25_1) ?_
    refine jx_ld (pc_q := 366) (l_q := L25) (st_q := [.int (i32 (rb)), .int (i32 (p)), .ref 66]) rfl (jl_iload gL25_4) ?_
    refine jx_if_lt (pc_q := 369) (tg := 375) rfl rfl rfl (Int.le_trans (by decide : (-2147483648 : Int) ≤ -2147483648) b_rb.1) (Int.le_trans b_rb.2 (by decide : (2147483647 : Int) ≤ 2147483647)) (fun h343 => ?_) (fun h343 => ?_)
    · have _q := h343
      refine jx_ar (pc_q := 376) (st_q := [.int (i32 (1)), .int (i32 (p)), .ref 66]) rfl rfl rfl rfl ?_
      refine jx_go (tg := 380) rfl rfl ?_
      refine jx_vr (pc_q := 383) (as := [.int (i32 (p)), .int (i32 (1))]) (st := []) rfl rfl rfl rfl ⟨rfl, rfl, Nat.le_of_ble_eq_true rfl⟩ rfl rfl (c_fault2 (dd := d) (hd := by omega) (hW := hW338) (p := p) (is := 1)   (h_p := ⟨(Int.le_trans (by decide : (-2147483648 : Int) ≤ -2147483648) h_p.1), (Int.le_trans h_p.2 (by decide : (2147483647 : Int) ≤ 2147483647))⟩) (h_is := ⟨(by decide), (by decide)⟩)  (p_0 := by omega) (p_1 := by omega)) (fun o V_q hq => ?_)
      obtain ⟨G344, A345, rfl, rfl, hW346, hF347, p348, -⟩ := hq
      have hF350 := Fr_tr hF342 hF347 (Fr_sub (by decide)) (Fr_sub (by decide))
      refine .inl ⟨rfl, ?_⟩
      refine jx_go (tg := 630) rfl rfl ?_
      refine jx_rt (v := none) rfl rfl rfl rfl rfl rfl ?_
      exact ⟨_, _, om, it, rfl, rfl, hW346, hF350, ((hF347.1 113 rfl).trans ((hF339.1 113 rfl).trans (e_om))), ((hF347.1 111 rfl).trans ((hF339.1 111 rfl).trans (e_it))), by omega, by omega, by omega, by omega, (by rcases p348 with h9 | h9; exact opR_chk0 _ _ (by omega) e_ra e_rb (by omega) (h9.2.trans p340); exact opR_chk1 _ _ _ (by omega) e_ra e_rb (by omega) p340 h9.2), trivial⟩
    · have _q := h343
      refine jx_ld (pc_q := 371) (l_q := L25) (st_q := [.int (i32 (rb)), .int (i32 (p)), .ref 66]) rfl (jl_iload gL25_4) ?_
      refine jx_ld (pc_q := 372) (l_q := L25) (st_q := [.int (i32 (ra)), .int (i32 (rb)), .int (i32 (p)), .ref 66]) rfl (jl_iloadn gL25_3) ?_
      refine jx_icmp_lt (pc_q := 375) (tg := 379) rfl rfl rfl (Int.le_trans (by decide : (-2147483648 : Int) ≤ -2147483648) b_rb.1) (Int.le_trans b_rb.2 (by decide : (2147483647 : Int) ≤ 2147483647)) (Int.le_trans (by decide : (-2147483648 : Int) ≤ -2147483648) b_ra.1) (Int.le_trans b_ra.2 (by decide : (2147483647 : Int) ≤ 2147483647)) (fun h351 => ?_) (fun h351 => ?_)
      · have _q := h351
        refine jx_ar (pc_q := 380) (st_q := [.int (i32 (0)), .int (i32 (p)), .ref 66]) rfl rfl rfl rfl ?_
        refine jx_vr (pc_q := 383) (as := [.int (i32 (p)), .int (i32 (0))]) (st := []) rfl rfl rfl rfl ⟨rfl, rfl, Nat.le_of_ble_eq_true rfl⟩ rfl rfl (c_fault2 (dd := d) (hd := by omega) (hW := hW338) (p := p) (is := 0)   (h_p := ⟨(Int.le_trans (by decide : (-2147483648 : Int) ≤ -2147483648) h_p.1), (Int.le_trans h_p.2 (by decide : (2147483647 : Int) ≤ 2147483647))⟩) (h_is := ⟨(by decide), (by decide)⟩)  (p_0 := by omega) (p_1 := by omega)) (fun o V_q hq => ?_)
        obtain ⟨G352, A353, rfl, rfl, hW354, hF355, p356, -⟩ := hq
        have hF358 := Fr_tr hF342 hF355 (Fr_sub (by decide)) (Fr_sub (by decide))
        refine .inl ⟨rfl, ?_⟩
        refine jx_go (tg := 630) rfl rfl ?_
        refine jx_rt (v := none) rfl rfl rfl rfl rfl rfl ?_
        exact ⟨_, _, om, it, rfl, rfl, hW354, hF358, ((hF355.1 113 rfl).trans ((hF339.1 113 rfl).trans (e_om))), ((hF355.1 111 rfl).trans ((hF339.1 111 rfl).trans (e_it))), by omega, by omega, by omega, by omega, (by rcases p356 with h9 | h9; exact opR_chk0 _ _ (by omega) e_ra e_rb (by omega) (h9.2.trans p340); exact opR_chk1 _ _ _ (by omega) e_ra e_rb (by omega) p340 h9.2), trivial⟩
      · have _q := h351
        refine jx_ar (pc_q := 376) (st_q := [.int (i32 (1)), .int (i32 (p)), .ref 66]) rfl rfl rfl rfl ?_
        refine jx_go (tg := 380) rfl rfl ?_
        refine jx_vr (pc_q := 383) (as := [.int (i32 (p)), .int (i32 (1))]) (st := []) rfl rfl rfl rfl ⟨rfl, rfl, Nat.le_of_ble_eq_true rfl⟩ rfl rfl (c_fault2 (dd := d) (hd := by omega) (hW := hW338) (p := p) (is := 1)   (h_p := ⟨(Int.le_trans (by decide : (-2147483648 : Int) ≤ -2147483648) h_p.1), (Int.le_trans h_p.2 (by decide : (2147483647 : Int) ≤ 2147483647))⟩) (h_is := ⟨(by decide), (by decide)⟩)  (p_0 := by omega) (p_1 := by omega)) (fun o V_q hq => ?_)
        obtain ⟨G359, A360, rfl, rfl, hW361, hF362, p363, -⟩ := hq
        have hF365 := Fr_tr hF342 hF362 (Fr_sub (by decide)) (Fr_sub (by decide))
        refine .inl ⟨rfl, ?_⟩
        refine jx_go (tg := 630) rfl rfl ?_
        refine jx_rt (v := none) rfl rfl rfl rfl rfl rfl ?_
        exact ⟨_, _, om, it, rfl, rfl, hW361, hF365, ((hF362.1 113 rfl).trans ((hF339.1 113 rfl).trans (e_om))), ((hF362.1 111 rfl).trans ((hF339.1 111 rfl).trans (e_it))), by omega, by omega, by omega, by omega, (by rcases p363 with h9 | h9; exact opR_chk0 _ _ (by omega) e_ra e_rb (by omega) (h9.2.trans p340); exact opR_chk1 _ _ _ (by omega) e_ra e_rb (by omega) p340 h9.2), trivial⟩
  · refine jx_swe (z := 13) (tg := 386) h26 rfl rfl rfl rfl ?_
    have _q : True := trivial
    refine jx_ld (pc_q := 387) (l_q := L25) (st_q := [.ref 66]) rfl (jl_aloadn gL25_0) ?_
    refine jr_get (pc_q := 390) (i := 91) (v := .ref 127) rfl rfl (by decide) rfl rfl ?_
    refine jx_ld (pc_q := 391) (l_q := L25) (st_q := [.int (i32 (p)), .ref 127]) rfl (jl_iloadn gL25_1) ?_
    refine jx_ld (pc_q := 392) (l_q := L25) (st_q := [.ref 66, .int (i32 (p)), .ref 127]) rfl (jl_aloadn gL25_0) ?_
    refine jr_get (pc_q := 395) (i := 94) (v := .ref 130) rfl rfl (by decide) rfl rfl ?_
    refine jx_ld (pc_q := 396) (l_q := L25) (st_q := [.int (i32 (p)), .ref 130, .int (i32 (p)), .ref 127]) rfl (jl_iloadn gL25_1) ?_
    refine jr_ldv (pc_q := 397) (i := 63) (m := 6) (z := p) (y := ri) rfl (by decide) rfl (by decide) (by omega) (by omega) rfl (show A 63 (p).toNat = ri from (e_ri)) ?_
    refine jx_ld (pc_q := 398) (l_q := L25) (st_q := [.int (i32 (ra)), .int (i32 (ri)), .int (i32 (p)), .ref 127]) rfl (jl_iloadn gL25_3) ?_
    refine jx_add (pc_q := 399) rfl rfl ?_
    obtain ⟨v366, ev366⟩ : ∃ z, z = (i32 (ri + ra)).toInt := ⟨_, rfl⟩; have fv366 : i32 (ri + ra) = i32 v366 := (by rw [ev366]; exact (i32_of _).symm); rw [fv366]; have rv366 : (-2147483648 : Int) ≤ v366 ∧ v366 ≤ 2147483647 := ev366 ▸ i32_rg _
    refine jr_st (pc_q := 400) (i := 60) (m := 6) (z := p) (y := v366) rfl (by decide) rfl (by decide) (by omega) (by omega) rfl ?_
    have hW368 : Wk G (uA A 60 (p).toNat (v366)) := Wk_a hW (show (-2147483648 : Int) ≤ v366 by omega) (show v366 ≤ (2147483647 : Int) by omega)
    have hF369 := Fr_a (z := v366) (k := 60) (n := (p).toNat) hF0 (by decide)
    obtain ⟨A367, eA367⟩ : ∃ q, q = uA A 60 (p).toNat (v366) := ⟨_, rfl⟩
    rw [← eA367]
    rw [← eA367] at hW368 hF369
    have q370 : A367 60 (p).toNat = v366 := by rw [eA367]; exact uA_eq
    refine jx_go (tg := 630) rfl rfl ?_
    refine jx_rt (v := none) rfl rfl rfl rfl rfl rfl ?_
    exact ⟨_, _, om, it, rfl, rfl, hW368, hF369, (e_om), (e_it), by omega, by omega, by omega, by omega, (opR_ldpi _ _ (by omega) e_ra e_ri (eA367.trans (by rw [ev366]))), trivial⟩
  · refine jx_swe (z := 14) (tg := 403) h26 rfl rfl rfl rfl ?_
    have _q : True := trivial
    refine jx_ar (pc_q := 404) (st_q := [.int (i32 (0))]) rfl rfl rfl rfl ?_
    refine jx_ld (pc_q := 406) (l_q := jSto1 L25 6 (.int (i32 (0)))) (st_q := []) rfl rfl ?_
    obtain ⟨L371, eL371⟩ : ∃ q, q = jSto1 L25 6 (.int (i32 (0))) := ⟨_, rfl⟩
    rw [← eL371]
    have gL371_0 : jGet L371 0 = some (.ref 66) := eL371 ▸ jg_ne (by decide) gL25_0 rfl
    have gL371_1 : jGet L371 1 = some (.int (i32 (p))) := eL371 ▸ jg_ne (by decide) gL25_1 rfl
    have gL371_2 : jGet L371 2 = some (.int (i32 (op1))) := eL371 ▸ jg_ne (by decide) gL25_2 rfl
    have gL371_3 : jGet L371 3 = some (.int (i32 (ra))) := eL371 ▸ jg_ne (by decide) gL25_3 rfl
    have gL371_4 : jGet L371 4 = some (.int (i32 (rb))) := eL371 ▸ jg_ne (by decide) gL25_4 rfl
    have gL371_5 : jGet L371 5 = some (.int (i32 (rw))) := eL371 ▸ jg_ne (by decide) gL25_5 rfl
    have gL371_6 : jGet L371 6 = some (.int (i32 (0))) := eL371 ▸ jg_eq
    exact c_operate_at_406 (X := X) (d := d) (c0 := c0) (c1 := c1) (G := G) (A := A) (T := T) (p := p) (op1 := op1) (m0 := m0) (m1 := m1) (rw := rw) (rn := rn) (it := it) (im := im) (om := om) (ri := ri) (ra := ra) (rb := rb) (rc := rc) (hd := hd) (hW := hW) (e_m0 := e_m0) (e_m1 := e_m1) (e_rw := e_rw) (e_rn := e_rn) (e_it := e_it) (e_im := e_im) (e_om := e_om) (e_ri := e_ri) (e_ra := e_ra) (e_rb := e_rb) (e_rc := e_rc) (h_p := h_p) (h_op1 := h_op1) (p_0 := p_0) (p_1 := p_1) (p_2 := p_2) (p_3 := p_3) (p_4 := p_4) (p_5 := p_5) (p_6 := p_6) (p_7 := p_7) (p_8 := p_8) (p_9 := p_9) (p_10 := p_10) (p_11 := p_11) (p_12 := p_12) (p_13 := p_13) (p_14 := p_14) _ L371 G A (0) (rc) (om) (it) rfl gL371_0 gL371_1 gL371_2 gL371_3 gL371_4 gL371_5 gL371_6 hW hF0 ((e_rc)) ((e_om)) ((e_it)) (by omega) (by omega) (by omega) (by omega) (by omega) (by omega) (by omega) (rfl)
  · refine jx_swe (z := 15) (tg := 458) h26 rfl rfl rfl rfl ?_
    have _q : True := trivial
    refine jx_ld (pc_q := 459) (l_q := L25) (st_q := [.ref 66]) rfl (jl_aloadn gL25_0) ?_
    refine jx_ld (pc_q := 460) (l_q := L25) (st_q := [.int (i32 (p)), .ref 66]) rfl (jl_iloadn gL25_1) ?_
    refine jx_ld (pc_q := 461) (l_q := L25) (st_q := [.int (i32 (ra)), .int (i32 (p)), .ref 66]) rfl (jl_iloadn gL25_3) ?_
    refine jx_ar (pc_q := 462) (st_q := [.int (i32 (1)), .int (i32 (ra)), .int (i32 (p)), .ref 66]) rfl rfl rfl rfl ?_
    refine jx_sub (pc_q := 463) rfl rfl ?_
    obtain ⟨v372, ev372⟩ : ∃ z, z = (i32 (ra - 1)).toInt := ⟨_, rfl⟩; have fv372 : i32 (ra - 1) = i32 v372 := (by rw [ev372]; exact (i32_of _).symm); rw [fv372]; have rv372 : (-2147483648 : Int) ≤ v372 ∧ v372 ≤ 2147483647 := ev372 ▸ i32_rg _
    refine jx_ld (pc_q := 465) (l_q := L25) (st_q := [.int (i32 (rb)), .int (i32 (v372)), .int (i32 (p)), .ref 66]) rfl (jl_iload gL25_4) ?_
    refine jx_vr (pc_q := 468) (as := [.int (i32 (p)), .int (i32 (v372)), .int (i32 (rb))]) (st := []) rfl rfl rfl rfl ⟨rfl, rfl, Nat.le_of_ble_eq_true rfl⟩ rfl rfl (c_store (dd := d) (hd := by omega) (hW := hW) (p := p) (a := v372) (v := rb)   (h_p := ⟨(Int.le_trans (by decide : (-2147483648 : Int) ≤ -2147483648) h_p.1), (Int.le_trans h_p.2 (by decide : (2147483647 : Int) ≤ 2147483647))⟩) (h_a := ⟨(Int.le_trans (by decide : (-2147483648 : Int) ≤ -2147483648) rv372.1), (Int.le_trans rv372.2 (by decide : (2147483647 : Int) ≤ 2147483647))⟩) (h_v := ⟨(Int.le_trans (by decide : (-2147483648 : Int) ≤ -2147483648) b_rb.1), (Int.le_trans b_rb.2 (by decide : (2147483647 : Int) ≤ 2147483647))⟩)  (p_0 := by omega) (p_1 := by omega)) (fun o V_q hq => ?_)
    obtain ⟨G373, A374, rfl, rfl, hW375, hF376, p377, -⟩ := hq
    have hF379 := Fr_tr hF0 hF376 (Fr_sub (by decide)) (Fr_sub (by decide))
    refine .inl ⟨rfl, ?_⟩
    refine jx_ld (pc_q := 469) (l_q := L25) (st_q := [.ref 66]) rfl (jl_aloadn gL25_0) ?_
    refine jx_ld (pc_q := 470) (l_q := L25) (st_q := [.int (i32 (p)), .ref 66]) rfl (jl_iloadn gL25_1) ?_
    refine jx_ld (pc_q := 471) (l_q := L25) (st_q := [.int (i32 (ra)), .int (i32 (p)), .ref 66]) rfl (jl_iloadn gL25_3) ?_
    refine jx_ar (pc_q := 472) (st_q := [.int (i32 (3)), .int (i32 (ra)), .int (i32 (p)), .ref 66]) rfl rfl rfl rfl ?_
    refine jx_sub (pc_q := 473) rfl rfl ?_
    obtain ⟨v380, ev380⟩ : ∃ z, z = (i32 (ra - 3)).toInt := ⟨_, rfl⟩; have fv380 : i32 (ra - 3) = i32 v380 := (by rw [ev380]; exact (i32_of _).symm); rw [fv380]; have rv380 : (-2147483648 : Int) ≤ v380 ∧ v380 ≤ 2147483647 := ev380 ▸ i32_rg _
    refine jx_ar (pc_q := 474) (st_q := [.int (i32 (0)), .int (i32 (v380)), .int (i32 (p)), .ref 66]) rfl rfl rfl rfl ?_
    refine jx_vr (pc_q := 477) (as := [.int (i32 (p)), .int (i32 (v380)), .int (i32 (0))]) (st := []) rfl rfl rfl rfl ⟨rfl, rfl, Nat.le_of_ble_eq_true rfl⟩ rfl rfl (c_store (dd := d) (hd := by omega) (hW := hW375) (p := p) (a := v380) (v := 0)   (h_p := ⟨(Int.le_trans (by decide : (-2147483648 : Int) ≤ -2147483648) h_p.1), (Int.le_trans h_p.2 (by decide : (2147483647 : Int) ≤ 2147483647))⟩) (h_a := ⟨(Int.le_trans (by decide : (-2147483648 : Int) ≤ -2147483648) rv380.1), (Int.le_trans rv380.2 (by decide : (2147483647 : Int) ≤ 2147483647))⟩) (h_v := ⟨(by decide), (by decide)⟩)  (p_0 := by omega) (p_1 := by omega)) (fun o V_q hq => ?_)
    obtain ⟨G381, A382, rfl, rfl, hW383, hF384, p385, -⟩ := hq
    have hF387 := Fr_tr hF379 hF384 (Fr_sub (by decide)) (Fr_sub (by decide))
    refine .inl ⟨rfl, ?_⟩
    refine jx_ld (pc_q := 478) (l_q := L25) (st_q := [.ref 66]) rfl (jl_aloadn gL25_0) ?_
    refine jx_ld (pc_q := 479) (l_q := L25) (st_q := [.int (i32 (p)), .ref 66]) rfl (jl_iloadn gL25_1) ?_
    refine jx_vr (pc_q := 482) (as := [.int (i32 (p))]) (st := []) rfl rfl rfl rfl ⟨rfl, rfl, Nat.le_of_ble_eq_true rfl⟩ rfl rfl (c_take (dd := d) (hd := by omega) (hW := hW383) (p := p)   (h_p := ⟨(Int.le_trans (by decide : (-2147483648 : Int) ≤ -2147483648) h_p.1), (Int.le_trans h_p.2 (by decide : (2147483647 : Int) ≤ 2147483647))⟩)  (p_0 := by omega) (p_1 := by omega)) (fun o V_q hq => ?_)
    obtain ⟨G388, A389, rfl, rfl, hW390, hF391, p392, -⟩ := hq
    have hF394 := Fr_tr hF387 hF391 (Fr_sub (by decide)) (Fr_sub (by decide))
    refine .inl ⟨rfl, ?_⟩
    refine jx_ld (pc_q := 483) (l_q := L25) (st_q := [.ref 66]) rfl (jl_aloadn gL25_0) ?_
    refine jx_ld (pc_q := 484) (l_q := L25) (st_q := [.int (i32 (p)), .ref 66]) rfl (jl_iloadn gL25_1) ?_
    refine jx_vr (pc_q := 487) (as := [.int (i32 (p))]) (st := []) rfl rfl rfl rfl ⟨rfl, rfl, Nat.le_of_ble_eq_true rfl⟩ rfl rfl (c_take (dd := d) (hd := by omega) (hW := hW390) (p := p)   (h_p := ⟨(Int.le_trans (by decide : (-2147483648 : Int) ≤ -2147483648) h_p.1), (Int.le_trans h_p.2 (by decide : (2147483647 : Int) ≤ 2147483647))⟩)  (p_0 := by omega) (p_1 := by omega)) (fun o V_q hq => ?_)
    obtain ⟨G395, A396, rfl, rfl, hW397, hF398, p399, -⟩ := hq
    have hF401 := Fr_tr hF394 hF398 (Fr_sub (by decide)) (Fr_sub (by decide))
    refine .inl ⟨rfl, ?_⟩
    refine jx_ld (pc_q := 488) (l_q := L25) (st_q := [.ref 66]) rfl (jl_aloadn gL25_0) ?_
    refine jx_ld (pc_q := 489) (l_q := L25) (st_q := [.int (i32 (p)), .ref 66]) rfl (jl_iloadn gL25_1) ?_
    refine jx_ar (pc_q := 490) (st_q := [.int (i32 (2)), .int (i32 (p)), .ref 66]) rfl rfl rfl rfl ?_
    refine jx_ld (pc_q := 491) (l_q := L25) (st_q := [.int (i32 (ra)), .int (i32 (2)), .int (i32 (p)), .ref 66]) rfl (jl_iloadn gL25_3) ?_
    refine jx_mul (pc_q := 492) rfl rfl ?_
    refine jx_ld (pc_q := 493) (l_q := L25) (st_q := [.int (i32 (op1)), .int (i32 ((2 * ra))), .int (i32 (p)), .ref 66]) rfl (jl_iloadn gL25_2) ?_
    refine jx_ar (pc_q := 495) (st_q := [.int (i32 (16)), .int (i32 (op1)), .int (i32 ((2 * ra))), .int (i32 (p)), .ref 66]) rfl rfl rfl rfl ?_
    refine jx_icmp_ne (pc_q := 498) (tg := 502) rfl rfl rfl (Int.le_trans (by decide : (-2147483648 : Int) ≤ -2147483648) h_op1.1) (Int.le_trans h_op1.2 (by decide : (2147483647 : Int) ≤ 2147483647)) (by decide) (by decide) (fun h402 => ?_) (fun h402 => ?_)
    · have _q := h402
      refine jx_ld (pc_q := 503) (l_q := L25) (st_q := [.ref 66, .int (i32 ((2 * ra))), .int (i32 (p)), .ref 66]) rfl (jl_aloadn gL25_0) ?_
      refine jr_get (pc_q := 506) (i := 97) (v := .ref 133) rfl rfl (by decide) rfl rfl ?_
      refine jx_ld (pc_q := 507) (l_q := L25) (st_q := [.int (i32 (p)), .ref 133, .int (i32 ((2 * ra))), .int (i32 (p)), .ref 66]) rfl (jl_iloadn gL25_1) ?_
      refine jr_ldv (pc_q := 508) (i := 66) (m := 6) (z := p) (y := rn) rfl (by decide) rfl (by decide) (by omega) (by omega) rfl (show A396 66 (p).toNat = rn from (congrFun ((hF398.2 66 rfl).trans ((hF391.2 66 rfl).trans ((hF384.2 66 rfl).trans (hF376.2 66 rfl)))) _).trans (e_rn)) ?_
      refine jx_ar (pc_q := 509) (st_q := [.int (i32 (1)), .int (i32 (rn)), .int (i32 ((2 * ra))), .int (i32 (p)), .ref 66]) rfl rfl rfl rfl ?_
      refine jx_and (pc_q := 510) rfl rfl ?_
      obtain ⟨b403, eb403⟩ : ∃ z, z = (i32 (rn) &&& i32 (1)).toInt := ⟨_, rfl⟩
      rw [← eb403]
      have rb403 : (-2147483648 : Int) ≤ b403 ∧ b403 ≤ 2147483647 := eb403 ▸ i32_rg _
      have hb403 := (show b403 = (i32 rn &&& i32 1).toInt from eb403).trans (and_1f (by omega) (by omega))
      refine jx_add (pc_q := 511) rfl rfl ?_
      obtain ⟨v404, ev404⟩ : ∃ z, z = (i32 ((2 * ra) + b403)).toInt := ⟨_, rfl⟩; have fv404 : i32 ((2 * ra) + b403) = i32 v404 := (by rw [ev404]; exact (i32_of _).symm); rw [fv404]; have rv404 : (-2147483648 : Int) ≤ v404 ∧ v404 ≤ 2147483647 := ev404 ▸ i32_rg _
      refine jx_vr (pc_q := 514) (as := [.int (i32 (p)), .int (i32 (v404))]) (st := []) rfl rfl rfl rfl ⟨rfl, rfl, Nat.le_of_ble_eq_true rfl⟩ rfl rfl (c_makeReady (dd := d) (hd := by omega) (hW := hW397) (p := p) (d2 := v404) (m0 := m0) (e_m0 := show A396 72 ((2 * p)).toNat = m0 from (congrFun ((hF398.2 72 rfl).trans ((hF391.2 72 rfl).trans ((hF384.2 72 rfl).trans (hF376.2 72 rfl)))) _).trans (e_m0)) (m1 := m1) (e_m1 := show A396 72 (((2 * p) + 1)).toNat = m1 from (congrFun ((hF398.2 72 rfl).trans ((hF391.2 72 rfl).trans ((hF384.2 72 rfl).trans (hF376.2 72 rfl)))) _).trans (e_m1))  (h_p := ⟨(Int.le_trans (by decide : (-2147483648 : Int) ≤ -2147483648) h_p.1), (Int.le_trans h_p.2 (by decide : (2147483647 : Int) ≤ 2147483647))⟩) (h_d2 := ⟨(Int.le_trans (by decide : (-2147483648 : Int) ≤ -2147483648) rv404.1), (Int.le_trans rv404.2 (by decide : (2147483647 : Int) ≤ 2147483647))⟩)  (p_0 := by omega) (p_1 := by omega) (p_2 := by omega) (p_3 := by omega) (p_4 := by omega) (p_5 := by omega)) (fun o V_q hq => ?_)
      obtain ⟨G405, A406, rfl, rfl, hW407, hF408, p409, -⟩ := hq
      have hF411 := Fr_tr hF401 hF408 (Fr_sub (by decide)) (Fr_sub (by decide))
      refine .inl ⟨rfl, ?_⟩
      refine jx_go (tg := 630) rfl rfl ?_
      refine jx_rt (v := none) rfl rfl rfl rfl rfl rfl ?_
      exact ⟨_, _, om, it, rfl, rfl, hW407, hF411, ((hF408.1 113 rfl).trans ((hF398.1 113 rfl).trans ((hF391.1 113 rfl).trans ((hF384.1 113 rfl).trans ((hF376.1 113 rfl).trans (e_om)))))), ((hF408.1 111 rfl).trans ((hF398.1 111 rfl).trans ((hF391.1 111 rfl).trans ((hF384.1 111 rfl).trans ((hF376.1 111 rfl).trans (e_it)))))), by omega, by omega, by omega, by omega, (opR_stp _ _ _ _ _ _ _ _ _ _ _ (by omega) e_ra e_rb e_rn ev372 ev380 p377 p385 p392 p399 (by omega) ev404 p409), trivial⟩
    · have _q := h402
      refine jx_ar (pc_q := 499) (st_q := [.int (i32 (0)), .int (i32 ((2 * ra))), .int (i32 (p)), .ref 66]) rfl rfl rfl rfl ?_
      refine jx_go (tg := 510) rfl rfl ?_
      have _q : True := trivial
      refine jx_add (pc_q := 511) rfl rfl ?_
      obtain ⟨v412, ev412⟩ : ∃ z, z = (i32 ((2 * ra) + 0)).toInt := ⟨_, rfl⟩; have fv412 : i32 ((2 * ra) + 0) = i32 v412 := (by rw [ev412]; exact (i32_of _).symm); rw [fv412]; have rv412 : (-2147483648 : Int) ≤ v412 ∧ v412 ≤ 2147483647 := ev412 ▸ i32_rg _
      refine jx_vr (pc_q := 514) (as := [.int (i32 (p)), .int (i32 (v412))]) (st := []) rfl rfl rfl rfl ⟨rfl, rfl, Nat.le_of_ble_eq_true rfl⟩ rfl rfl (c_makeReady (dd := d) (hd := by omega) (hW := hW397) (p := p) (d2 := v412) (m0 := m0) (e_m0 := show A396 72 ((2 * p)).toNat = m0 from (congrFun ((hF398.2 72 rfl).trans ((hF391.2 72 rfl).trans ((hF384.2 72 rfl).trans (hF376.2 72 rfl)))) _).trans (e_m0)) (m1 := m1) (e_m1 := show A396 72 (((2 * p) + 1)).toNat = m1 from (congrFun ((hF398.2 72 rfl).trans ((hF391.2 72 rfl).trans ((hF384.2 72 rfl).trans (hF376.2 72 rfl)))) _).trans (e_m1))  (h_p := ⟨(Int.le_trans (by decide : (-2147483648 : Int) ≤ -2147483648) h_p.1), (Int.le_trans h_p.2 (by decide : (2147483647 : Int) ≤ 2147483647))⟩) (h_d2 := ⟨(Int.le_trans (by decide : (-2147483648 : Int) ≤ -2147483648) rv412.1), (Int.le_trans rv412.2 (by decide : (2147483647 : Int) ≤ 2147483647))⟩)  (p_0 := by omega) (p_1 := by omega) (p_2 := by omega) (p_3 := by omega) (p_4 := by omega) (p_5 := by omega)) (fun o V_q hq => ?_)
      obtain ⟨G413, A414, rfl, rfl, hW415, hF416, p417, -⟩ := hq
      have hF419 := Fr_tr hF401 hF416 (Fr_sub (by decide)) (Fr_sub (by decide))
      refine .inl ⟨rfl, ?_⟩
      refine jx_go (tg := 630) rfl rfl ?_
      refine jx_rt (v := none) rfl rfl rfl rfl rfl rfl ?_
      exact ⟨_, _, om, it, rfl, rfl, hW415, hF419, ((hF416.1 113 rfl).trans ((hF398.1 113 rfl).trans ((hF391.1 113 rfl).trans ((hF384.1 113 rfl).trans ((hF376.1 113 rfl).trans (e_om)))))), ((hF416.1 111 rfl).trans ((hF398.1 111 rfl).trans ((hF391.1 111 rfl).trans ((hF384.1 111 rfl).trans ((hF376.1 111 rfl).trans (e_it)))))), by omega, by omega, by omega, by omega, (opR_stp _ _ _ _ _ _ _ _ _ _ _ (by omega) e_ra e_rb e_rn ev372 ev380 p377 p385 p392 p399 (by omega) ev412 p417), trivial⟩
  · refine jx_swe (z := 16) (tg := 458) h26 rfl rfl rfl rfl ?_
    have _q : True := trivial
    refine jx_ld (pc_q := 459) (l_q := L25) (st_q := [.ref 66]) rfl (jl_aloadn gL25_0) ?_
    refine jx_ld (pc_q := 460) (l_q := L25) (st_q := [.int (i32 (p)), .ref 66]) rfl (jl_iloadn gL25_1) ?_
    refine jx_ld (pc_q := 461) (l_q := L25) (st_q := [.int (i32 (ra)), .int (i32 (p)), .ref 66]) rfl (jl_iloadn gL25_3) ?_
    refine jx_ar (pc_q := 462) (st_q := [.int (i32 (1)), .int (i32 (ra)), .int (i32 (p)), .ref 66]) rfl rfl rfl rfl ?_
    refine jx_sub (pc_q := 463) rfl rfl ?_
    obtain ⟨v420, ev420⟩ : ∃ z, z = (i32 (ra - 1)).toInt := ⟨_, rfl⟩; have fv420 : i32 (ra - 1) = i32 v420 := (by rw [ev420]; exact (i32_of _).symm); rw [fv420]; have rv420 : (-2147483648 : Int) ≤ v420 ∧ v420 ≤ 2147483647 := ev420 ▸ i32_rg _
    refine jx_ld (pc_q := 465) (l_q := L25) (st_q := [.int (i32 (rb)), .int (i32 (v420)), .int (i32 (p)), .ref 66]) rfl (jl_iload gL25_4) ?_
    refine jx_vr (pc_q := 468) (as := [.int (i32 (p)), .int (i32 (v420)), .int (i32 (rb))]) (st := []) rfl rfl rfl rfl ⟨rfl, rfl, Nat.le_of_ble_eq_true rfl⟩ rfl rfl (c_store (dd := d) (hd := by omega) (hW := hW) (p := p) (a := v420) (v := rb)   (h_p := ⟨(Int.le_trans (by decide : (-2147483648 : Int) ≤ -2147483648) h_p.1), (Int.le_trans h_p.2 (by decide : (2147483647 : Int) ≤ 2147483647))⟩) (h_a := ⟨(Int.le_trans (by decide : (-2147483648 : Int) ≤ -2147483648) rv420.1), (Int.le_trans rv420.2 (by decide : (2147483647 : Int) ≤ 2147483647))⟩) (h_v := ⟨(Int.le_trans (by decide : (-2147483648 : Int) ≤ -2147483648) b_rb.1), (Int.le_trans b_rb.2 (by decide : (2147483647 : Int) ≤ 2147483647))⟩)  (p_0 := by omega) (p_1 := by omega)) (fun o V_q hq => ?_)
    obtain ⟨G421, A422, rfl, rfl, hW423, hF424, p425, -⟩ := hq
    have hF427 := Fr_tr hF0 hF424 (Fr_sub (by decide)) (Fr_sub (by decide))
    refine .inl ⟨rfl, ?_⟩
    refine jx_ld (pc_q := 469) (l_q := L25) (st_q := [.ref 66]) rfl (jl_aloadn gL25_0) ?_
    refine jx_ld (pc_q := 470) (l_q := L25) (st_q := [.int (i32 (p)), .ref 66]) rfl (jl_iloadn gL25_1) ?_
    refine jx_ld (pc_q := 471) (l_q := L25) (st_q := [.int (i32 (ra)), .int (i32 (p)), .ref 66]) rfl (jl_iloadn gL25_3) ?_
    refine jx_ar (pc_q := 472) (st_q := [.int (i32 (3)), .int (i32 (ra)), .int (i32 (p)), .ref 66]) rfl rfl rfl rfl ?_
    refine jx_sub (pc_q := 473) rfl rfl ?_
    obtain ⟨v428, ev428⟩ : ∃ z, z = (i32 (ra - 3)).toInt := ⟨_, rfl⟩; have fv428 : i32 (ra - 3) = i32 v428 := (by rw [ev428]; exact (i32_of _).symm); rw [fv428]; have rv428 : (-2147483648 : Int) ≤ v428 ∧ v428 ≤ 2147483647 := ev428 ▸ i32_rg _
    refine jx_ar (pc_q := 474) (st_q := [.int (i32 (0)), .int (i32 (v428)), .int (i32 (p)), .ref 66]) rfl rfl rfl rfl ?_
    refine jx_vr (pc_q := 477) (as := [.int (i32 (p)), .int (i32 (v428)), .int (i32 (0))]) (st := []) rfl rfl rfl rfl ⟨rfl, rfl, Nat.le_of_ble_eq_true rfl⟩ rfl rfl (c_store (dd := d) (hd := by omega) (hW := hW423) (p := p) (a := v428) (v := 0)   (h_p := ⟨(Int.le_trans (by decide : (-2147483648 : Int) ≤ -2147483648) h_p.1), (Int.le_trans h_p.2 (by decide : (2147483647 : Int) ≤ 2147483647))⟩) (h_a := ⟨(Int.le_trans (by decide : (-2147483648 : Int) ≤ -2147483648) rv428.1), (Int.le_trans rv428.2 (by decide : (2147483647 : Int) ≤ 2147483647))⟩) (h_v := ⟨(by decide), (by decide)⟩)  (p_0 := by omega) (p_1 := by omega)) (fun o V_q hq => ?_)
    obtain ⟨G429, A430, rfl, rfl, hW431, hF432, p433, -⟩ := hq
    have hF435 := Fr_tr hF427 hF432 (Fr_sub (by decide)) (Fr_sub (by decide))
    refine .inl ⟨rfl, ?_⟩
    refine jx_ld (pc_q := 478) (l_q := L25) (st_q := [.ref 66]) rfl (jl_aloadn gL25_0) ?_
    refine jx_ld (pc_q := 479) (l_q := L25) (st_q := [.int (i32 (p)), .ref 66]) rfl (jl_iloadn gL25_1) ?_
    refine jx_vr (pc_q := 482) (as := [.int (i32 (p))]) (st := []) rfl rfl rfl rfl ⟨rfl, rfl, Nat.le_of_ble_eq_true rfl⟩ rfl rfl (c_take (dd := d) (hd := by omega) (hW := hW431) (p := p)   (h_p := ⟨(Int.le_trans (by decide : (-2147483648 : Int) ≤ -2147483648) h_p.1), (Int.le_trans h_p.2 (by decide : (2147483647 : Int) ≤ 2147483647))⟩)  (p_0 := by omega) (p_1 := by omega)) (fun o V_q hq => ?_)
    obtain ⟨G436, A437, rfl, rfl, hW438, hF439, p440, -⟩ := hq
    have hF442 := Fr_tr hF435 hF439 (Fr_sub (by decide)) (Fr_sub (by decide))
    refine .inl ⟨rfl, ?_⟩
    refine jx_ld (pc_q := 483) (l_q := L25) (st_q := [.ref 66]) rfl (jl_aloadn gL25_0) ?_
    refine jx_ld (pc_q := 484) (l_q := L25) (st_q := [.int (i32 (p)), .ref 66]) rfl (jl_iloadn gL25_1) ?_
    refine jx_vr (pc_q := 487) (as := [.int (i32 (p))]) (st := []) rfl rfl rfl rfl ⟨rfl, rfl, Nat.le_of_ble_eq_true rfl⟩ rfl rfl (c_take (dd := d) (hd := by omega) (hW := hW438) (p := p)   (h_p := ⟨(Int.le_trans (by decide : (-2147483648 : Int) ≤ -2147483648) h_p.1), (Int.le_trans h_p.2 (by decide : (2147483647 : Int) ≤ 2147483647))⟩)  (p_0 := by omega) (p_1 := by omega)) (fun o V_q hq => ?_)
    obtain ⟨G443, A444, rfl, rfl, hW445, hF446, p447, -⟩ := hq
    have hF449 := Fr_tr hF442 hF446 (Fr_sub (by decide)) (Fr_sub (by decide))
    refine .inl ⟨rfl, ?_⟩
    refine jx_ld (pc_q := 488) (l_q := L25) (st_q := [.ref 66]) rfl (jl_aloadn gL25_0) ?_
    refine jx_ld (pc_q := 489) (l_q := L25) (st_q := [.int (i32 (p)), .ref 66]) rfl (jl_iloadn gL25_1) ?_
    refine jx_ar (pc_q := 490) (st_q := [.int (i32 (2)), .int (i32 (p)), .ref 66]) rfl rfl rfl rfl ?_
    refine jx_ld (pc_q := 491) (l_q := L25) (st_q := [.int (i32 (ra)), .int (i32 (2)), .int (i32 (p)), .ref 66]) rfl (jl_iloadn gL25_3) ?_
    refine jx_mul (pc_q := 492) rfl rfl ?_
    refine jx_ld (pc_q := 493) (l_q := L25) (st_q := [.int (i32 (op1)), .int (i32 ((2 * ra))), .int (i32 (p)), .ref 66]) rfl (jl_iloadn gL25_2) ?_
    refine jx_ar (pc_q := 495) (st_q := [.int (i32 (16)), .int (i32 (op1)), .int (i32 ((2 * ra))), .int (i32 (p)), .ref 66]) rfl rfl rfl rfl ?_
    refine jx_icmp_ne (pc_q := 498) (tg := 502) rfl rfl rfl (Int.le_trans (by decide : (-2147483648 : Int) ≤ -2147483648) h_op1.1) (Int.le_trans h_op1.2 (by decide : (2147483647 : Int) ≤ 2147483647)) (by decide) (by decide) (fun h450 => ?_) (fun h450 => ?_)
    · have _q := h450
      refine jx_ld (pc_q := 503) (l_q := L25) (st_q := [.ref 66, .int (i32 ((2 * ra))), .int (i32 (p)), .ref 66]) rfl (jl_aloadn gL25_0) ?_
      refine jr_get (pc_q := 506) (i := 97) (v := .ref 133) rfl rfl (by decide) rfl rfl ?_
      refine jx_ld (pc_q := 507) (l_q := L25) (st_q := [.int (i32 (p)), .ref 133, .int (i32 ((2 * ra))), .int (i32 (p)), .ref 66]) rfl (jl_iloadn gL25_1) ?_
      refine jr_ldv (pc_q := 508) (i := 66) (m := 6) (z := p) (y := rn) rfl (by decide) rfl (by decide) (by omega) (by omega) rfl (show A444 66 (p).toNat = rn from (congrFun ((hF446.2 66 rfl).trans ((hF439.2 66 rfl).trans ((hF432.2 66 rfl).trans (hF424.2 66 rfl)))) _).trans (e_rn)) ?_
      refine jx_ar (pc_q := 509) (st_q := [.int (i32 (1)), .int (i32 (rn)), .int (i32 ((2 * ra))), .int (i32 (p)), .ref 66]) rfl rfl rfl rfl ?_
      refine jx_and (pc_q := 510) rfl rfl ?_
      obtain ⟨b451, eb451⟩ : ∃ z, z = (i32 (rn) &&& i32 (1)).toInt := ⟨_, rfl⟩
      rw [← eb451]
      have rb451 : (-2147483648 : Int) ≤ b451 ∧ b451 ≤ 2147483647 := eb451 ▸ i32_rg _
      have hb451 := (show b451 = (i32 rn &&& i32 1).toInt from eb451).trans (and_1f (by omega) (by omega))
      refine jx_add (pc_q := 511) rfl rfl ?_
      obtain ⟨v452, ev452⟩ : ∃ z, z = (i32 ((2 * ra) + b451)).toInt := ⟨_, rfl⟩; have fv452 : i32 ((2 * ra) + b451) = i32 v452 := (by rw [ev452]; exact (i32_of _).symm); rw [fv452]; have rv452 : (-2147483648 : Int) ≤ v452 ∧ v452 ≤ 2147483647 := ev452 ▸ i32_rg _
      refine jx_vr (pc_q := 514) (as := [.int (i32 (p)), .int (i32 (v452))]) (st := []) rfl rfl rfl rfl ⟨rfl, rfl, Nat.le_of_ble_eq_true rfl⟩ rfl rfl (c_makeReady (dd := d) (hd := by omega) (hW := hW445) (p := p) (d2 := v452) (m0 := m0) (e_m0 := show A444 72 ((2 * p)).toNat = m0 from (congrFun ((hF446.2 72 rfl).trans ((hF439.2 72 rfl).trans ((hF432.2 72 rfl).trans (hF424.2 72 rfl)))) _).trans (e_m0)) (m1 := m1) (e_m1 := show A444 72 (((2 * p) + 1)).toNat = m1 from (congrFun ((hF446.2 72 rfl).trans ((hF439.2 72 rfl).trans ((hF432.2 72 rfl).trans (hF424.2 72 rfl)))) _).trans (e_m1))  (h_p := ⟨(Int.le_trans (by decide : (-2147483648 : Int) ≤ -2147483648) h_p.1), (Int.le_trans h_p.2 (by decide : (2147483647 : Int) ≤ 2147483647))⟩) (h_d2 := ⟨(Int.le_trans (by decide : (-2147483648 : Int) ≤ -2147483648) rv452.1), (Int.le_trans rv452.2 (by decide : (2147483647 : Int) ≤ 2147483647))⟩)  (p_0 := by omega) (p_1 := by omega) (p_2 := by omega) (p_3 := by omega) (p_4 := by omega) (p_5 := by omega)) (fun o V_q hq => ?_)
      obtain ⟨G453, A454, rfl, rfl, hW455, hF456, p457, -⟩ := hq
      have hF459 := Fr_tr hF449 hF456 (Fr_sub (by decide)) (Fr_sub (by decide))
      refine .inl ⟨rfl, ?_⟩
      refine jx_go (tg := 630) rfl rfl ?_
      refine jx_rt (v := none) rfl rfl rfl rfl rfl rfl ?_
      exact ⟨_, _, om, it, rfl, rfl, hW455, hF459, ((hF456.1 113 rfl).trans ((hF446.1 113 rfl).trans ((hF439.1 113 rfl).trans ((hF432.1 113 rfl).trans ((hF424.1 113 rfl).trans (e_om)))))), ((hF456.1 111 rfl).trans ((hF446.1 111 rfl).trans ((hF439.1 111 rfl).trans ((hF432.1 111 rfl).trans ((hF424.1 111 rfl).trans (e_it)))))), by omega, by omega, by omega, by omega, (opR_stp _ _ _ _ _ _ _ _ _ _ _ (by omega) e_ra e_rb e_rn ev420 ev428 p425 p433 p440 p447 (by omega) ev452 p457), trivial⟩
    · have _q := h450
      refine jx_ar (pc_q := 499) (st_q := [.int (i32 (0)), .int (i32 ((2 * ra))), .int (i32 (p)), .ref 66]) rfl rfl rfl rfl ?_
      refine jx_go (tg := 510) rfl rfl ?_
      have _q : True := trivial
      refine jx_add (pc_q := 511) rfl rfl ?_
      obtain ⟨v460, ev460⟩ : ∃ z, z = (i32 ((2 * ra) + 0)).toInt := ⟨_, rfl⟩; have fv460 : i32 ((2 * ra) + 0) = i32 v460 := (by rw [ev460]; exact (i32_of _).symm); rw [fv460]; have rv460 : (-2147483648 : Int) ≤ v460 ∧ v460 ≤ 2147483647 := ev460 ▸ i32_rg _
      refine jx_vr (pc_q := 514) (as := [.int (i32 (p)), .int (i32 (v460))]) (st := []) rfl rfl rfl rfl ⟨rfl, rfl, Nat.le_of_ble_eq_true rfl⟩ rfl rfl (c_makeReady (dd := d) (hd := by omega) (hW := hW445) (p := p) (d2 := v460) (m0 := m0) (e_m0 := show A444 72 ((2 * p)).toNat = m0 from (congrFun ((hF446.2 72 rfl).trans ((hF439.2 72 rfl).trans ((hF432.2 72 rfl).trans (hF424.2 72 rfl)))) _).trans (e_m0)) (m1 := m1) (e_m1 := show A444 72 (((2 * p) + 1)).toNat = m1 from (congrFun ((hF446.2 72 rfl).trans ((hF439.2 72 rfl).trans ((hF432.2 72 rfl).trans (hF424.2 72 rfl)))) _).trans (e_m1))  (h_p := ⟨(Int.le_trans (by decide : (-2147483648 : Int) ≤ -2147483648) h_p.1), (Int.le_trans h_p.2 (by decide : (2147483647 : Int) ≤ 2147483647))⟩) (h_d2 := ⟨(Int.le_trans (by decide : (-2147483648 : Int) ≤ -2147483648) rv460.1), (Int.le_trans rv460.2 (by decide : (2147483647 : Int) ≤ 2147483647))⟩)  (p_0 := by omega) (p_1 := by omega) (p_2 := by omega) (p_3 := by omega) (p_4 := by omega) (p_5 := by omega)) (fun o V_q hq => ?_)
      obtain ⟨G461, A462, rfl, rfl, hW463, hF464, p465, -⟩ := hq
      have hF467 := Fr_tr hF449 hF464 (Fr_sub (by decide)) (Fr_sub (by decide))
      refine .inl ⟨rfl, ?_⟩
      refine jx_go (tg := 630) rfl rfl ?_
      refine jx_rt (v := none) rfl rfl rfl rfl rfl rfl ?_
      exact ⟨_, _, om, it, rfl, rfl, hW463, hF467, ((hF464.1 113 rfl).trans ((hF446.1 113 rfl).trans ((hF439.1 113 rfl).trans ((hF432.1 113 rfl).trans ((hF424.1 113 rfl).trans (e_om)))))), ((hF464.1 111 rfl).trans ((hF446.1 111 rfl).trans ((hF439.1 111 rfl).trans ((hF432.1 111 rfl).trans ((hF424.1 111 rfl).trans (e_it)))))), by omega, by omega, by omega, by omega, (opR_stp _ _ _ _ _ _ _ _ _ _ _ (by omega) e_ra e_rb e_rn ev420 ev428 p425 p433 p440 p447 (by omega) ev460 p465), trivial⟩
  · refine jx_swe (z := 17) (tg := 517) h26 rfl rfl rfl rfl ?_
    have _q : True := trivial
    refine jx_ld (pc_q := 518) (l_q := L25) (st_q := [.ref 66]) rfl (jl_aloadn gL25_0) ?_
    refine jx_ld (pc_q := 519) (l_q := L25) (st_q := [.int (i32 (p)), .ref 66]) rfl (jl_iloadn gL25_1) ?_
    refine jx_ld (pc_q := 520) (l_q := L25) (st_q := [.int (i32 (ra)), .int (i32 (p)), .ref 66]) rfl (jl_iloadn gL25_3) ?_
    refine jx_vr (pc_q := 523) (as := [.int (i32 (p)), .int (i32 (ra))]) (st := []) rfl rfl rfl rfl ⟨rfl, rfl, Nat.le_of_ble_eq_true rfl⟩ rfl rfl (c_endBranch (dd := d) (hd := by omega) (hW := hW) (p := p) (w := ra) (m0 := m0) (e_m0 := show A 72 ((2 * p)).toNat = m0 from (e_m0)) (m1 := m1) (e_m1 := show A 72 (((2 * p) + 1)).toNat = m1 from (e_m1))  (h_p := ⟨(Int.le_trans (by decide : (-2147483648 : Int) ≤ -2147483648) h_p.1), (Int.le_trans h_p.2 (by decide : (2147483647 : Int) ≤ 2147483647))⟩) (h_w := ⟨(Int.le_trans (by decide : (-2147483648 : Int) ≤ -2147483648) b_ra.1), (Int.le_trans b_ra.2 (by decide : (2147483647 : Int) ≤ 2147483647))⟩)  (p_0 := by omega) (p_1 := by omega) (p_2 := by omega) (p_3 := by omega) (p_4 := by omega) (p_5 := by omega) (p_6 := by omega) (p_7 := by omega)) (fun o V_q hq => ?_)
    obtain ⟨G468, A469, rfl, rfl, hW470, hF471, p472, -⟩ := hq
    have hF474 := Fr_tr hF0 hF471 (Fr_sub (by decide)) (Fr_sub (by decide))
    refine .inl ⟨rfl, ?_⟩
    refine jx_go (tg := 630) rfl rfl ?_
    refine jx_rt (v := none) rfl rfl rfl rfl rfl rfl ?_
    exact ⟨_, _, om, it, rfl, rfl, hW470, hF474, ((hF471.1 113 rfl).trans (e_om)), ((hF471.1 111 rfl).trans (e_it)), by omega, by omega, by omega, by omega, (opR_endp _ (by omega) e_ra p472), trivial⟩
  · refine jx_swe (z := 18) (tg := 526) h26 rfl rfl rfl rfl ?_
    have _q : True := trivial
    refine jx_ld (pc_q := 527) (l_q := L25) (st_q := [.ref 66]) rfl (jl_aloadn gL25_0) ?_
    refine jx_ld (pc_q := 528) (l_q := L25) (st_q := [.int (i32 (p)), .ref 66]) rfl (jl_iloadn gL25_1) ?_
    refine jx_vr (pc_q := 531) (as := [.int (i32 (p))]) (st := []) rfl rfl rfl rfl ⟨rfl, rfl, Nat.le_of_ble_eq_true rfl⟩ rfl rfl (c_gone (dd := d) (hd := by omega) (hW := hW) (p := p)   (h_p := ⟨(Int.le_trans (by decide : (-2147483648 : Int) ≤ -2147483648) h_p.1), (Int.le_trans h_p.2 (by decide : (2147483647 : Int) ≤ 2147483647))⟩)  (p_0 := by omega) (p_1 := by omega)) (fun o V_q hq => ?_)
    obtain ⟨G475, A476, rfl, rfl, hW477, hF478, p479, -⟩ := hq
    have hF481 := Fr_tr hF0 hF478 (Fr_sub (by decide)) (Fr_sub (by decide))
    refine .inl ⟨rfl, ?_⟩
    refine jx_go (tg := 630) rfl rfl ?_
    refine jx_rt (v := none) rfl rfl rfl rfl rfl rfl ?_
    exact ⟨_, _, om, it, rfl, rfl, hW477, hF481, ((hF478.1 113 rfl).trans (e_om)), ((hF478.1 111 rfl).trans (e_it)), by omega, by omega, by omega, by omega, (opR_stop (by omega) p479), trivial⟩
  · refine jx_swe (z := 19) (tg := 534) h26 rfl rfl rfl rfl ?_
    have _q : True := trivial
    refine jx_ld (pc_q := 535) (l_q := L25) (st_q := [.ref 66]) rfl (jl_aloadn gL25_0) ?_
    refine jr_get (pc_q := 538) (i := 94) (v := .ref 130) rfl rfl (by decide) rfl rfl ?_
    refine jx_ld (pc_q := 539) (l_q := L25) (st_q := [.int (i32 (p)), .ref 130]) rfl (jl_iloadn gL25_1) ?_
    refine jx_ld (pc_q := 540) (l_q := L25) (st_q := [.ref 66, .int (i32 (p)), .ref 130]) rfl (jl_aloadn gL25_0) ?_
    refine jx_ld (pc_q := 541) (l_q := L25) (st_q := [.int (i32 (p)), .ref 66, .int (i32 (p)), .ref 130]) rfl (jl_iloadn gL25_1) ?_
    refine jx_ld (pc_q := 543) (l_q := L25) (st_q := [.int (i32 (rw)), .int (i32 (p)), .ref 66, .int (i32 (p)), .ref 130]) rfl (jl_iload gL25_5) ?_
    refine jx_vr (pc_q := 546) (as := [.int (i32 (p)), .int (i32 (rw))]) (st := [.int (i32 (p)), .ref 130]) rfl rfl rfl rfl ⟨rfl, rfl, Nat.le_of_ble_eq_true rfl⟩ rfl rfl (c_load (dd := d) (hd := by omega) (hW := hW) (p := p) (a := rw)   (h_p := ⟨(Int.le_trans (by decide : (-2147483648 : Int) ≤ -2147483648) h_p.1), (Int.le_trans h_p.2 (by decide : (2147483647 : Int) ≤ 2147483647))⟩) (h_a := ⟨(Int.le_trans (by decide : (-2147483648 : Int) ≤ -2147483648) b_rw.1), (Int.le_trans b_rw.2 (by decide : (2147483647 : Int) ≤ 2147483647))⟩)  (p_0 := by omega) (p_1 := by omega)) (fun o V_q hq => ?_)
    obtain ⟨r482, rfl, rfl, b483, p484, -⟩ := hq
    refine .inr ⟨_, rfl, ?_⟩
    refine jr_st (pc_q := 547) (i := 63) (m := 6) (z := p) (y := r482) rfl (by decide) rfl (by decide) (by omega) (by omega) rfl ?_
    have hW487 : Wk G (uA A 63 (p).toNat (r482)) := Wk_a hW (show (-2147483648 : Int) ≤ r482 by omega) (show r482 ≤ (2147483647 : Int) by omega)
    have hF488 := Fr_a (z := r482) (k := 63) (n := (p).toNat) hF0 (by decide)
    obtain ⟨A486, eA486⟩ : ∃ q, q = uA A 63 (p).toNat (r482) := ⟨_, rfl⟩
    rw [← eA486]
    rw [← eA486] at hW487 hF488
    have q489 : A486 63 (p).toNat = r482 := by rw [eA486]; exact uA_eq
    refine jx_ld (pc_q := 548) (l_q := L25) (st_q := [.ref 66]) rfl (jl_aloadn gL25_0) ?_
    refine jr_get (pc_q := 551) (i := 95) (v := .ref 131) rfl rfl (by decide) rfl rfl ?_
    refine jx_ld (pc_q := 552) (l_q := L25) (st_q := [.int (i32 (p)), .ref 131]) rfl (jl_iloadn gL25_1) ?_
    refine jx_ld (pc_q := 554) (l_q := L25) (st_q := [.int (i32 (rw)), .int (i32 (p)), .ref 131]) rfl (jl_iload gL25_5) ?_
    refine jx_ar (pc_q := 555) (st_q := [.int (i32 (4)), .int (i32 (rw)), .int (i32 (p)), .ref 131]) rfl rfl rfl rfl ?_
    refine jx_add (pc_q := 556) rfl rfl ?_
    refine jr_st (pc_q := 557) (i := 64) (m := 6) (z := p) (y := (rw + 4)) rfl (by decide) rfl (by decide) (by omega) (by omega) rfl ?_
    have hW491 : Wk G (uA A486 64 (p).toNat ((rw + 4))) := Wk_a hW487 (show (-2147483648 : Int) ≤ (rw + 4) by omega) (show (rw + 4) ≤ (2147483647 : Int) by omega)
    have hF492 := Fr_a (z := (rw + 4)) (k := 64) (n := (p).toNat) hF488 (by decide)
    obtain ⟨A490, eA490⟩ : ∃ q, q = uA A486 64 (p).toNat ((rw + 4)) := ⟨_, rfl⟩
    rw [← eA490]
    rw [← eA490] at hW491 hF492
    have q493 : A490 64 (p).toNat = (rw + 4) := by rw [eA490]; exact uA_eq
    refine jx_ld (pc_q := 558) (l_q := L25) (st_q := [.ref 66]) rfl (jl_aloadn gL25_0) ?_
    refine jr_get (pc_q := 561) (i := 97) (v := .ref 133) rfl rfl (by decide) rfl rfl ?_
    refine jx_ld (pc_q := 562) (l_q := L25) (st_q := [.int (i32 (p)), .ref 133]) rfl (jl_iloadn gL25_1) ?_
    refine jx_ar (pc_q := 563) (st_q := [.int (i32 (2)), .int (i32 (p)), .ref 133]) rfl rfl rfl rfl ?_
    refine jx_ld (pc_q := 564) (l_q := L25) (st_q := [.ref 66, .int (i32 (2)), .int (i32 (p)), .ref 133]) rfl (jl_aloadn gL25_0) ?_
    refine jr_get (pc_q := 567) (i := 95) (v := .ref 131) rfl rfl (by decide) rfl rfl ?_
    refine jx_ld (pc_q := 568) (l_q := L25) (st_q := [.int (i32 (p)), .ref 131, .int (i32 (2)), .int (i32 (p)), .ref 133]) rfl (jl_iloadn gL25_1) ?_
    refine jr_ldv (pc_q := 569) (i := 64) (m := 6) (z := p) (y := (rw + 4)) rfl (by decide) rfl (by decide) (by omega) (by omega) rfl (show A490 64 (p).toNat = (rw + 4) from (q493)) ?_
    refine jx_mul (pc_q := 570) rfl rfl ?_
    refine jx_ld (pc_q := 571) (l_q := L25) (st_q := [.ref 66, .int (i32 ((2 * (rw + 4)))), .int (i32 (p)), .ref 133]) rfl (jl_aloadn gL25_0) ?_
    refine jr_get (pc_q := 574) (i := 97) (v := .ref 133) rfl rfl (by decide) rfl rfl ?_
    refine jx_ld (pc_q := 575) (l_q := L25) (st_q := [.int (i32 (p)), .ref 133, .int (i32 ((2 * (rw + 4)))), .int (i32 (p)), .ref 133]) rfl (jl_iloadn gL25_1) ?_
    refine jr_ldv (pc_q := 576) (i := 66) (m := 6) (z := p) (y := rn) rfl (by decide) rfl (by decide) (by omega) (by omega) rfl (show A490 66 (p).toNat = rn from (congrFun (((congrFun eA490 66).trans (uA_ne (by decide))).trans ((congrFun eA486 66).trans (uA_ne (by decide)))) _).trans (e_rn)) ?_
    refine jx_ar (pc_q := 577) (st_q := [.int (i32 (1)), .int (i32 (rn)), .int (i32 ((2 * (rw + 4)))), .int (i32 (p)), .ref 133]) rfl rfl rfl rfl ?_
    refine jx_and (pc_q := 578) rfl rfl ?_
    obtain ⟨b494, eb494⟩ : ∃ z, z = (i32 (rn) &&& i32 (1)).toInt := ⟨_, rfl⟩
    rw [← eb494]
    have rb494 : (-2147483648 : Int) ≤ b494 ∧ b494 ≤ 2147483647 := eb494 ▸ i32_rg _
    have hb494 := (show b494 = (i32 rn &&& i32 1).toInt from eb494).trans (and_1f (by omega) (by omega))
    refine jx_add (pc_q := 579) rfl rfl ?_
    refine jr_st (pc_q := 580) (i := 66) (m := 6) (z := p) (y := ((2 * (rw + 4)) + b494)) rfl (by decide) rfl (by decide) (by omega) (by omega) rfl ?_
    have hW496 : Wk G (uA A490 66 (p).toNat (((2 * (rw + 4)) + b494))) := Wk_a hW491 (show (-2147483648 : Int) ≤ ((2 * (rw + 4)) + b494) by omega) (show ((2 * (rw + 4)) + b494) ≤ (2147483647 : Int) by omega)
    have hF497 := Fr_a (z := ((2 * (rw + 4)) + b494)) (k := 66) (n := (p).toNat) hF492 (by decide)
    obtain ⟨A495, eA495⟩ : ∃ q, q = uA A490 66 (p).toNat (((2 * (rw + 4)) + b494)) := ⟨_, rfl⟩
    rw [← eA495]
    rw [← eA495] at hW496 hF497
    have q498 : A495 66 (p).toNat = ((2 * (rw + 4)) + b494) := by rw [eA495]; exact uA_eq
    refine jx_go (tg := 630) rfl rfl ?_
    refine jx_rt (v := none) rfl rfl rfl rfl rfl rfl ?_
    exact ⟨_, _, om, it, rfl, rfl, hW496, hF497, (e_om), (e_it), by omega, by omega, by omega, by omega, (opR_ret _ _ _ _ _ _ (by omega) e_rw e_rn p484 hb494 eA486 eA490 eA495), trivial⟩
  · refine jx_swe (z := 20) (tg := 621) h26 rfl rfl rfl rfl ?_
    have _q : True := trivial
    refine jx_ld (pc_q := 622) (l_q := L25) (st_q := [.ref 66]) rfl (jl_aloadn gL25_0) ?_
    refine jx_ld (pc_q := 623) (l_q := L25) (st_q := [.int (i32 (p)), .ref 66]) rfl (jl_iloadn gL25_1) ?_
    refine jx_ld (pc_q := 624) (l_q := L25) (st_q := [.int (i32 (op1)), .int (i32 (p)), .ref 66]) rfl (jl_iloadn gL25_2) ?_
    refine jx_ld (pc_q := 625) (l_q := L25) (st_q := [.int (i32 (ra)), .int (i32 (op1)), .int (i32 (p)), .ref 66]) rfl (jl_iloadn gL25_3) ?_
    refine jx_ld (pc_q := 627) (l_q := L25) (st_q := [.int (i32 (rb)), .int (i32 (ra)), .int (i32 (op1)), .int (i32 (p)), .ref 66]) rfl (jl_iload gL25_4) ?_
    refine jx_vr (pc_q := 630) (as := [.int (i32 (p)), .int (i32 (op1)), .int (i32 (ra)), .int (i32 (rb))]) (st := []) rfl rfl rfl rfl ⟨rfl, rfl, Nat.le_of_ble_eq_true rfl⟩ rfl rfl (c_speak (dd := d) (hd := by omega) (hW := hW) (p := p) (op1 := op1) (a := ra) (b := rb) (m0 := m0) (e_m0 := show A 72 ((2 * p)).toNat = m0 from (e_m0)) (m1 := m1) (e_m1 := show A 72 (((2 * p) + 1)).toNat = m1 from (e_m1)) (rw := rw) (e_rw := show A 64 (p).toNat = rw from (e_rw)) (rn := rn) (e_rn := show A 66 (p).toNat = rn from (e_rn)) (it := it) (e_it := show G 111 = it from (e_it)) (im := im) (e_im := show G 110 = im from (e_im)) (om := om) (e_om := show G 113 = om from (e_om)) (rc := rc) (e_rc := show A 62 (p).toNat = rc from (e_rc)) (ri := ri) (e_ri := show A 63 (p).toNat = ri from (e_ri))  (h_p := ⟨(Int.le_trans (by decide : (-2147483648 : Int) ≤ -2147483648) h_p.1), (Int.le_trans h_p.2 (by decide : (2147483647 : Int) ≤ 2147483647))⟩) (h_op1 := ⟨(Int.le_trans (by decide : (-2147483648 : Int) ≤ -2147483648) h_op1.1), (Int.le_trans h_op1.2 (by decide : (2147483647 : Int) ≤ 2147483647))⟩) (h_a := ⟨(Int.le_trans (by decide : (-2147483648 : Int) ≤ -2147483648) b_ra.1), (Int.le_trans b_ra.2 (by decide : (2147483647 : Int) ≤ 2147483647))⟩) (h_b := ⟨(Int.le_trans (by decide : (-2147483648 : Int) ≤ -2147483648) b_rb.1), (Int.le_trans b_rb.2 (by decide : (2147483647 : Int) ≤ 2147483647))⟩)  (p_0 := by omega) (p_1 := by omega) (p_2 := by omega) (p_3 := by omega) (p_4 := by omega) (p_5 := by omega) (p_6 := by omega) (p_7 := by omega) (p_8 := by omega) (p_9 := by omega) (p_10 := by omega) (p_11 := by omega) (p_12 := by omega) (p_13 := by omega)) (fun o V_q hq => ?_)
    obtain ⟨G499, A500, om2_501, it2_502, rfl, rfl, hW503, hF504, e505, e506, p507, p508, p509, p510, p511, -⟩ := hq
    have hF513 := Fr_tr hF0 hF504 (Fr_sub (by decide)) (Fr_sub (by decide))
    have bom2_501 : (-2147483648 : Int) ≤ om2_501 ∧ om2_501 ≤ 2147483647 := e505 ▸ hW503.1 113
    have bit2_502 : (-2147483648 : Int) ≤ it2_502 ∧ it2_502 ≤ 2147483647 := e506 ▸ hW503.1 111
    refine .inl ⟨rfl, ?_⟩
    refine jx_rt (v := none) rfl rfl rfl rfl rfl rfl ?_
    exact ⟨_, _, om2_501, it2_502, rfl, rfl, hW503, hF513, (e505), (e506), by omega, by omega, by omega, by omega, (opR_spk _ _ (by omega) e_ra e_rb p511), trivial⟩
  · refine jx_swe (z := 21) (tg := 621) h26 rfl rfl rfl rfl ?_
    have _q : True := trivial
    refine jx_ld (pc_q := 622) (l_q := L25) (st_q := [.ref 66]) rfl (jl_aloadn gL25_0) ?_
    refine jx_ld (pc_q := 623) (l_q := L25) (st_q := [.int (i32 (p)), .ref 66]) rfl (jl_iloadn gL25_1) ?_
    refine jx_ld (pc_q := 624) (l_q := L25) (st_q := [.int (i32 (op1)), .int (i32 (p)), .ref 66]) rfl (jl_iloadn gL25_2) ?_
    refine jx_ld (pc_q := 625) (l_q := L25) (st_q := [.int (i32 (ra)), .int (i32 (op1)), .int (i32 (p)), .ref 66]) rfl (jl_iloadn gL25_3) ?_
    refine jx_ld (pc_q := 627) (l_q := L25) (st_q := [.int (i32 (rb)), .int (i32 (ra)), .int (i32 (op1)), .int (i32 (p)), .ref 66]) rfl (jl_iload gL25_4) ?_
    refine jx_vr (pc_q := 630) (as := [.int (i32 (p)), .int (i32 (op1)), .int (i32 (ra)), .int (i32 (rb))]) (st := []) rfl rfl rfl rfl ⟨rfl, rfl, Nat.le_of_ble_eq_true rfl⟩ rfl rfl (c_speak (dd := d) (hd := by omega) (hW := hW) (p := p) (op1 := op1) (a := ra) (b := rb) (m0 := m0) (e_m0 := show A 72 ((2 * p)).toNat = m0 from (e_m0)) (m1 := m1) (e_m1 := show A 72 (((2 * p) + 1)).toNat = m1 from (e_m1)) (rw := rw) (e_rw := show A 64 (p).toNat = rw from (e_rw)) (rn := rn) (e_rn := show A 66 (p).toNat = rn from (e_rn)) (it := it) (e_it := show G 111 = it from (e_it)) (im := im) (e_im := show G 110 = im from (e_im)) (om := om) (e_om := show G 113 = om from (e_om)) (rc := rc) (e_rc := show A 62 (p).toNat = rc from (e_rc)) (ri := ri) (e_ri := show A 63 (p).toNat = ri from (e_ri))  (h_p := ⟨(Int.le_trans (by decide : (-2147483648 : Int) ≤ -2147483648) h_p.1), (Int.le_trans h_p.2 (by decide : (2147483647 : Int) ≤ 2147483647))⟩) (h_op1 := ⟨(Int.le_trans (by decide : (-2147483648 : Int) ≤ -2147483648) h_op1.1), (Int.le_trans h_op1.2 (by decide : (2147483647 : Int) ≤ 2147483647))⟩) (h_a := ⟨(Int.le_trans (by decide : (-2147483648 : Int) ≤ -2147483648) b_ra.1), (Int.le_trans b_ra.2 (by decide : (2147483647 : Int) ≤ 2147483647))⟩) (h_b := ⟨(Int.le_trans (by decide : (-2147483648 : Int) ≤ -2147483648) b_rb.1), (Int.le_trans b_rb.2 (by decide : (2147483647 : Int) ≤ 2147483647))⟩)  (p_0 := by omega) (p_1 := by omega) (p_2 := by omega) (p_3 := by omega) (p_4 := by omega) (p_5 := by omega) (p_6 := by omega) (p_7 := by omega) (p_8 := by omega) (p_9 := by omega) (p_10 := by omega) (p_11 := by omega) (p_12 := by omega) (p_13 := by omega)) (fun o V_q hq => ?_)
    obtain ⟨G514, A515, om2_516, it2_517, rfl, rfl, hW518, hF519, e520, e521, p522, p523, p524, p525, p526, -⟩ := hq
    have hF528 := Fr_tr hF0 hF519 (Fr_sub (by decide)) (Fr_sub (by decide))
    have bom2_516 : (-2147483648 : Int) ≤ om2_516 ∧ om2_516 ≤ 2147483647 := e520 ▸ hW518.1 113
    have bit2_517 : (-2147483648 : Int) ≤ it2_517 ∧ it2_517 ≤ 2147483647 := e521 ▸ hW518.1 111
    refine .inl ⟨rfl, ?_⟩
    refine jx_rt (v := none) rfl rfl rfl rfl rfl rfl ?_
    exact ⟨_, _, om2_516, it2_517, rfl, rfl, hW518, hF528, (e520), (e521), by omega, by omega, by omega, by omega, (opR_spk _ _ (by omega) e_ra e_rb p526), trivial⟩
  · refine jx_swe (z := 22) (tg := 621) h26 rfl rfl rfl rfl ?_
    have _q : True := trivial
    refine jx_ld (pc_q := 622) (l_q := L25) (st_q := [.ref 66]) rfl (jl_aloadn gL25_0) ?_
    refine jx_ld (pc_q := 623) (l_q := L25) (st_q := [.int (i32 (p)), .ref 66]) rfl (jl_iloadn gL25_1) ?_
    refine jx_ld (pc_q := 624) (l_q := L25) (st_q := [.int (i32 (op1)), .int (i32 (p)), .ref 66]) rfl (jl_iloadn gL25_2) ?_
    refine jx_ld (pc_q := 625) (l_q := L25) (st_q := [.int (i32 (ra)), .int (i32 (op1)), .int (i32 (p)), .ref 66]) rfl (jl_iloadn gL25_3) ?_
    refine jx_ld (pc_q := 627) (l_q := L25) (st_q := [.int (i32 (rb)), .int (i32 (ra)), .int (i32 (op1)), .int (i32 (p)), .ref 66]) rfl (jl_iload gL25_4) ?_
    refine jx_vr (pc_q := 630) (as := [.int (i32 (p)), .int (i32 (op1)), .int (i32 (ra)), .int (i32 (rb))]) (st := []) rfl rfl rfl rfl ⟨rfl, rfl, Nat.le_of_ble_eq_true rfl⟩ rfl rfl (c_speak (dd := d) (hd := by omega) (hW := hW) (p := p) (op1 := op1) (a := ra) (b := rb) (m0 := m0) (e_m0 := show A 72 ((2 * p)).toNat = m0 from (e_m0)) (m1 := m1) (e_m1 := show A 72 (((2 * p) + 1)).toNat = m1 from (e_m1)) (rw := rw) (e_rw := show A 64 (p).toNat = rw from (e_rw)) (rn := rn) (e_rn := show A 66 (p).toNat = rn from (e_rn)) (it := it) (e_it := show G 111 = it from (e_it)) (im := im) (e_im := show G 110 = im from (e_im)) (om := om) (e_om := show G 113 = om from (e_om)) (rc := rc) (e_rc := show A 62 (p).toNat = rc from (e_rc)) (ri := ri) (e_ri := show A 63 (p).toNat = ri from (e_ri))  (h_p := ⟨(Int.le_trans (by decide : (-2147483648 : Int) ≤ -2147483648) h_p.1), (Int.le_trans h_p.2 (by decide : (2147483647 : Int) ≤ 2147483647))⟩) (h_op1 := ⟨(Int.le_trans (by decide : (-2147483648 : Int) ≤ -2147483648) h_op1.1), (Int.le_trans h_op1.2 (by decide : (2147483647 : Int) ≤ 2147483647))⟩) (h_a := ⟨(Int.le_trans (by decide : (-2147483648 : Int) ≤ -2147483648) b_ra.1), (Int.le_trans b_ra.2 (by decide : (2147483647 : Int) ≤ 2147483647))⟩) (h_b := ⟨(Int.le_trans (by decide : (-2147483648 : Int) ≤ -2147483648) b_rb.1), (Int.le_trans b_rb.2 (by decide : (2147483647 : Int) ≤ 2147483647))⟩)  (p_0 := by omega) (p_1 := by omega) (p_2 := by omega) (p_3 := by omega) (p_4 := by omega) (p_5 := by omega) (p_6 := by omega) (p_7 := by omega) (p_8 := by omega) (p_9 := by omega) (p_10 := by omega) (p_11 := by omega) (p_12 := by omega) (p_13 := by omega)) (fun o V_q hq => ?_)
    obtain ⟨G529, A530, om2_531, it2_532, rfl, rfl, hW533, hF534, e535, e536, p537, p538, p539, p540, p541, -⟩ := hq
    have hF543 := Fr_tr hF0 hF534 (Fr_sub (by decide)) (Fr_sub (by decide))
    have bom2_531 : (-2147483648 : Int) ≤ om2_531 ∧ om2_531 ≤ 2147483647 := e535 ▸ hW533.1 113
    have bit2_532 : (-2147483648 : Int) ≤ it2_532 ∧ it2_532 ≤ 2147483647 := e536 ▸ hW533.1 111
    refine .inl ⟨rfl, ?_⟩
    refine jx_rt (v := none) rfl rfl rfl rfl rfl rfl ?_
    exact ⟨_, _, om2_531, it2_532, rfl, rfl, hW533, hF543, (e535), (e536), by omega, by omega, by omega, by omega, (opR_spk _ _ (by omega) e_ra e_rb p541), trivial⟩
  · refine jx_swe (z := 23) (tg := 621) h26 rfl rfl rfl rfl ?_
    have _q : True := trivial
    refine jx_ld (pc_q := 622) (l_q := L25) (st_q := [.ref 66]) rfl (jl_aloadn gL25_0) ?_
    refine jx_ld (pc_q := 623) (l_q := L25) (st_q := [.int (i32 (p)), .ref 66]) rfl (jl_iloadn gL25_1) ?_
    refine jx_ld (pc_q := 624) (l_q := L25) (st_q := [.int (i32 (op1)), .int (i32 (p)), .ref 66]) rfl (jl_iloadn gL25_2) ?_
    refine jx_ld (pc_q := 625) (l_q := L25) (st_q := [.int (i32 (ra)), .int (i32 (op1)), .int (i32 (p)), .ref 66]) rfl (jl_iloadn gL25_3) ?_
    refine jx_ld (pc_q := 627) (l_q := L25) (st_q := [.int (i32 (rb)), .int (i32 (ra)), .int (i32 (op1)), .int (i32 (p)), .ref 66]) rfl (jl_iload gL25_4) ?_
    refine jx_vr (pc_q := 630) (as := [.int (i32 (p)), .int (i32 (op1)), .int (i32 (ra)), .int (i32 (rb))]) (st := []) rfl rfl rfl rfl ⟨rfl, rfl, Nat.le_of_ble_eq_true rfl⟩ rfl rfl (c_speak (dd := d) (hd := by omega) (hW := hW) (p := p) (op1 := op1) (a := ra) (b := rb) (m0 := m0) (e_m0 := show A 72 ((2 * p)).toNat = m0 from (e_m0)) (m1 := m1) (e_m1 := show A 72 (((2 * p) + 1)).toNat = m1 from (e_m1)) (rw := rw) (e_rw := show A 64 (p).toNat = rw from (e_rw)) (rn := rn) (e_rn := show A 66 (p).toNat = rn from (e_rn)) (it := it) (e_it := show G 111 = it from (e_it)) (im := im) (e_im := show G 110 = im from (e_im)) (om := om) (e_om := show G 113 = om from (e_om)) (rc := rc) (e_rc := show A 62 (p).toNat = rc from (e_rc)) (ri := ri) (e_ri := show A 63 (p).toNat = ri from (e_ri))  (h_p := ⟨(Int.le_trans (by decide : (-2147483648 : Int) ≤ -2147483648) h_p.1), (Int.le_trans h_p.2 (by decide : (2147483647 : Int) ≤ 2147483647))⟩) (h_op1 := ⟨(Int.le_trans (by decide : (-2147483648 : Int) ≤ -2147483648) h_op1.1), (Int.le_trans h_op1.2 (by decide : (2147483647 : Int) ≤ 2147483647))⟩) (h_a := ⟨(Int.le_trans (by decide : (-2147483648 : Int) ≤ -2147483648) b_ra.1), (Int.le_trans b_ra.2 (by decide : (2147483647 : Int) ≤ 2147483647))⟩) (h_b := ⟨(Int.le_trans (by decide : (-2147483648 : Int) ≤ -2147483648) b_rb.1), (Int.le_trans b_rb.2 (by decide : (2147483647 : Int) ≤ 2147483647))⟩)  (p_0 := by omega) (p_1 := by omega) (p_2 := by omega) (p_3 := by omega) (p_4 := by omega) (p_5 := by omega) (p_6 := by omega) (p_7 := by omega) (p_8 := by omega) (p_9 := by omega) (p_10 := by omega) (p_11 := by omega) (p_12 := by omega) (p_13 := by omega)) (fun o V_q hq => ?_)
    obtain ⟨G544, A545, om2_546, it2_547, rfl, rfl, hW548, hF549, e550, e551, p552, p553, p554, p555, p556, -⟩ := hq
    have hF558 := Fr_tr hF0 hF549 (Fr_sub (by decide)) (Fr_sub (by decide))
    have bom2_546 : (-2147483648 : Int) ≤ om2_546 ∧ om2_546 ≤ 2147483647 := e550 ▸ hW548.1 113
    have bit2_547 : (-2147483648 : Int) ≤ it2_547 ∧ it2_547 ≤ 2147483647 := e551 ▸ hW548.1 111
    refine .inl ⟨rfl, ?_⟩
    refine jx_rt (v := none) rfl rfl rfl rfl rfl rfl ?_
    exact ⟨_, _, om2_546, it2_547, rfl, rfl, hW548, hF558, (e550), (e551), by omega, by omega, by omega, by omega, (opR_spk _ _ (by omega) e_ra e_rb p556), trivial⟩
  · refine jx_swe (z := 24) (tg := 621) h26 rfl rfl rfl rfl ?_
    have _q : True := trivial
    refine jx_ld (pc_q := 622) (l_q := L25) (st_q := [.ref 66]) rfl (jl_aloadn gL25_0) ?_
    refine jx_ld (pc_q := 623) (l_q := L25) (st_q := [.int (i32 (p)), .ref 66]) rfl (jl_iloadn gL25_1) ?_
    refine jx_ld (pc_q := 624) (l_q := L25) (st_q := [.int (i32 (op1)), .int (i32 (p)), .ref 66]) rfl (jl_iloadn gL25_2) ?_
    refine jx_ld (pc_q := 625) (l_q := L25) (st_q := [.int (i32 (ra)), .int (i32 (op1)), .int (i32 (p)), .ref 66]) rfl (jl_iloadn gL25_3) ?_
    refine jx_ld (pc_q := 627) (l_q := L25) (st_q := [.int (i32 (rb)), .int (i32 (ra)), .int (i32 (op1)), .int (i32 (p)), .ref 66]) rfl (jl_iload gL25_4) ?_
    refine jx_vr (pc_q := 630) (as := [.int (i32 (p)), .int (i32 (op1)), .int (i32 (ra)), .int (i32 (rb))]) (st := []) rfl rfl rfl rfl ⟨rfl, rfl, Nat.le_of_ble_eq_true rfl⟩ rfl rfl (c_speak (dd := d) (hd := by omega) (hW := hW) (p := p) (op1 := op1) (a := ra) (b := rb) (m0 := m0) (e_m0 := show A 72 ((2 * p)).toNat = m0 from (e_m0)) (m1 := m1) (e_m1 := show A 72 (((2 * p) + 1)).toNat = m1 from (e_m1)) (rw := rw) (e_rw := show A 64 (p).toNat = rw from (e_rw)) (rn := rn) (e_rn := show A 66 (p).toNat = rn from (e_rn)) (it := it) (e_it := show G 111 = it from (e_it)) (im := im) (e_im := show G 110 = im from (e_im)) (om := om) (e_om := show G 113 = om from (e_om)) (rc := rc) (e_rc := show A 62 (p).toNat = rc from (e_rc)) (ri := ri) (e_ri := show A 63 (p).toNat = ri from (e_ri))  (h_p := ⟨(Int.le_trans (by decide : (-2147483648 : Int) ≤ -2147483648) h_p.1), (Int.le_trans h_p.2 (by decide : (2147483647 : Int) ≤ 2147483647))⟩) (h_op1 := ⟨(Int.le_trans (by decide : (-2147483648 : Int) ≤ -2147483648) h_op1.1), (Int.le_trans h_op1.2 (by decide : (2147483647 : Int) ≤ 2147483647))⟩) (h_a := ⟨(Int.le_trans (by decide : (-2147483648 : Int) ≤ -2147483648) b_ra.1), (Int.le_trans b_ra.2 (by decide : (2147483647 : Int) ≤ 2147483647))⟩) (h_b := ⟨(Int.le_trans (by decide : (-2147483648 : Int) ≤ -2147483648) b_rb.1), (Int.le_trans b_rb.2 (by decide : (2147483647 : Int) ≤ 2147483647))⟩)  (p_0 := by omega) (p_1 := by omega) (p_2 := by omega) (p_3 := by omega) (p_4 := by omega) (p_5 := by omega) (p_6 := by omega) (p_7 := by omega) (p_8 := by omega) (p_9 := by omega) (p_10 := by omega) (p_11 := by omega) (p_12 := by omega) (p_13 := by omega)) (fun o V_q hq => ?_)
    obtain ⟨G559, A560, om2_561, it2_562, rfl, rfl, hW563, hF564, e565, e566, p567, p568, p569, p570, p571, -⟩ := hq
    have hF573 := Fr_tr hF0 hF564 (Fr_sub (by decide)) (Fr_sub (by decide))
    have bom2_561 : (-2147483648 : Int) ≤ om2_561 ∧ om2_561 ≤ 2147483647 := e565 ▸ hW563.1 113
    have bit2_562 : (-2147483648 : Int) ≤ it2_562 ∧ it2_562 ≤ 2147483647 := e566 ▸ hW563.1 111
    refine .inl ⟨rfl, ?_⟩
    refine jx_rt (v := none) rfl rfl rfl rfl rfl rfl ?_
    exact ⟨_, _, om2_561, it2_562, rfl, rfl, hW563, hF573, (e565), (e566), by omega, by omega, by omega, by omega, (opR_spk _ _ (by omega) e_ra e_rb p571), trivial⟩
  · refine jx_swe (z := 25) (tg := 621) h26 rfl rfl rfl rfl ?_
    have _q : True := trivial
    refine jx_ld (pc_q := 622) (l_q := L25) (st_q := [.ref 66]) rfl (jl_aloadn gL25_0) ?_
    refine jx_ld (pc_q := 623) (l_q := L25) (st_q := [.int (i32 (p)), .ref 66]) rfl (jl_iloadn gL25_1) ?_
    refine jx_ld (pc_q := 624) (l_q := L25) (st_q := [.int (i32 (op1)), .int (i32 (p)), .ref 66]) rfl (jl_iloadn gL25_2) ?_
    refine jx_ld (pc_q := 625) (l_q := L25) (st_q := [.int (i32 (ra)), .int (i32 (op1)), .int (i32 (p)), .ref 66]) rfl (jl_iloadn gL25_3) ?_
    refine jx_ld (pc_q := 627) (l_q := L25) (st_q := [.int (i32 (rb)), .int (i32 (ra)), .int (i32 (op1)), .int (i32 (p)), .ref 66]) rfl (jl_iload gL25_4) ?_
    refine jx_vr (pc_q := 630) (as := [.int (i32 (p)), .int (i32 (op1)), .int (i32 (ra)), .int (i32 (rb))]) (st := []) rfl rfl rfl rfl ⟨rfl, rfl, Nat.le_of_ble_eq_true rfl⟩ rfl rfl (c_speak (dd := d) (hd := by omega) (hW := hW) (p := p) (op1 := op1) (a := ra) (b := rb) (m0 := m0) (e_m0 := show A 72 ((2 * p)).toNat = m0 from (e_m0)) (m1 := m1) (e_m1 := show A 72 (((2 * p) + 1)).toNat = m1 from (e_m1)) (rw := rw) (e_rw := show A 64 (p).toNat = rw from (e_rw)) (rn := rn) (e_rn := show A 66 (p).toNat = rn from (e_rn)) (it := it) (e_it := show G 111 = it from (e_it)) (im := im) (e_im := show G 110 = im from (e_im)) (om := om) (e_om := show G 113 = om from (e_om)) (rc := rc) (e_rc := show A 62 (p).toNat = rc from (e_rc)) (ri := ri) (e_ri := show A 63 (p).toNat = ri from (e_ri))  (h_p := ⟨(Int.le_trans (by decide : (-2147483648 : Int) ≤ -2147483648) h_p.1), (Int.le_trans h_p.2 (by decide : (2147483647 : Int) ≤ 2147483647))⟩) (h_op1 := ⟨(Int.le_trans (by decide : (-2147483648 : Int) ≤ -2147483648) h_op1.1), (Int.le_trans h_op1.2 (by decide : (2147483647 : Int) ≤ 2147483647))⟩) (h_a := ⟨(Int.le_trans (by decide : (-2147483648 : Int) ≤ -2147483648) b_ra.1), (Int.le_trans b_ra.2 (by decide : (2147483647 : Int) ≤ 2147483647))⟩) (h_b := ⟨(Int.le_trans (by decide : (-2147483648 : Int) ≤ -2147483648) b_rb.1), (Int.le_trans b_rb.2 (by decide : (2147483647 : Int) ≤ 2147483647))⟩)  (p_0 := by omega) (p_1 := by omega) (p_2 := by omega) (p_3 := by omega) (p_4 := by omega) (p_5 := by omega) (p_6 := by omega) (p_7 := by omega) (p_8 := by omega) (p_9 := by omega) (p_10 := by omega) (p_11 := by omega) (p_12 := by omega) (p_13 := by omega)) (fun o V_q hq => ?_)
    obtain ⟨G574, A575, om2_576, it2_577, rfl, rfl, hW578, hF579, e580, e581, p582, p583, p584, p585, p586, -⟩ := hq
    have hF588 := Fr_tr hF0 hF579 (Fr_sub (by decide)) (Fr_sub (by decide))
    have bom2_576 : (-2147483648 : Int) ≤ om2_576 ∧ om2_576 ≤ 2147483647 := e580 ▸ hW578.1 113
    have bit2_577 : (-2147483648 : Int) ≤ it2_577 ∧ it2_577 ≤ 2147483647 := e581 ▸ hW578.1 111
    refine .inl ⟨rfl, ?_⟩
    refine jx_rt (v := none) rfl rfl rfl rfl rfl rfl ?_
    exact ⟨_, _, om2_576, it2_577, rfl, rfl, hW578, hF588, (e580), (e581), by omega, by omega, by omega, by omega, (opR_spk _ _ (by omega) e_ra e_rb p586), trivial⟩
  · refine jx_swe (z := 26) (tg := 621) h26 rfl rfl rfl rfl ?_
    have _q : True := trivial
    refine jx_ld (pc_q := 622) (l_q := L25) (st_q := [.ref 66]) rfl (jl_aloadn gL25_0) ?_
    refine jx_ld (pc_q := 623) (l_q := L25) (st_q := [.int (i32 (p)), .ref 66]) rfl (jl_iloadn gL25_1) ?_
    refine jx_ld (pc_q := 624) (l_q := L25) (st_q := [.int (i32 (op1)), .int (i32 (p)), .ref 66]) rfl (jl_iloadn gL25_2) ?_
    refine jx_ld (pc_q := 625) (l_q := L25) (st_q := [.int (i32 (ra)), .int (i32 (op1)), .int (i32 (p)), .ref 66]) rfl (jl_iloadn gL25_3) ?_
    refine jx_ld (pc_q := 627) (l_q := L25) (st_q := [.int (i32 (rb)), .int (i32 (ra)), .int (i32 (op1)), .int (i32 (p)), .ref 66]) rfl (jl_iload gL25_4) ?_
    refine jx_vr (pc_q := 630) (as := [.int (i32 (p)), .int (i32 (op1)), .int (i32 (ra)), .int (i32 (rb))]) (st := []) rfl rfl rfl rfl ⟨rfl, rfl, Nat.le_of_ble_eq_true rfl⟩ rfl rfl (c_speak (dd := d) (hd := by omega) (hW := hW) (p := p) (op1 := op1) (a := ra) (b := rb) (m0 := m0) (e_m0 := show A 72 ((2 * p)).toNat = m0 from (e_m0)) (m1 := m1) (e_m1 := show A 72 (((2 * p) + 1)).toNat = m1 from (e_m1)) (rw := rw) (e_rw := show A 64 (p).toNat = rw from (e_rw)) (rn := rn) (e_rn := show A 66 (p).toNat = rn from (e_rn)) (it := it) (e_it := show G 111 = it from (e_it)) (im := im) (e_im := show G 110 = im from (e_im)) (om := om) (e_om := show G 113 = om from (e_om)) (rc := rc) (e_rc := show A 62 (p).toNat = rc from (e_rc)) (ri := ri) (e_ri := show A 63 (p).toNat = ri from (e_ri))  (h_p := ⟨(Int.le_trans (by decide : (-2147483648 : Int) ≤ -2147483648) h_p.1), (Int.le_trans h_p.2 (by decide : (2147483647 : Int) ≤ 2147483647))⟩) (h_op1 := ⟨(Int.le_trans (by decide : (-2147483648 : Int) ≤ -2147483648) h_op1.1), (Int.le_trans h_op1.2 (by decide : (2147483647 : Int) ≤ 2147483647))⟩) (h_a := ⟨(Int.le_trans (by decide : (-2147483648 : Int) ≤ -2147483648) b_ra.1), (Int.le_trans b_ra.2 (by decide : (2147483647 : Int) ≤ 2147483647))⟩) (h_b := ⟨(Int.le_trans (by decide : (-2147483648 : Int) ≤ -2147483648) b_rb.1), (Int.le_trans b_rb.2 (by decide : (2147483647 : Int) ≤ 2147483647))⟩)  (p_0 := by omega) (p_1 := by omega) (p_2 := by omega) (p_3 := by omega) (p_4 := by omega) (p_5 := by omega) (p_6 := by omega) (p_7 := by omega) (p_8 := by omega) (p_9 := by omega) (p_10 := by omega) (p_11 := by omega) (p_12 := by omega) (p_13 := by omega)) (fun o V_q hq => ?_)
    obtain ⟨G589, A590, om2_591, it2_592, rfl, rfl, hW593, hF594, e595, e596, p597, p598, p599, p600, p601, -⟩ := hq
    have hF603 := Fr_tr hF0 hF594 (Fr_sub (by decide)) (Fr_sub (by decide))
    have bom2_591 : (-2147483648 : Int) ≤ om2_591 ∧ om2_591 ≤ 2147483647 := e595 ▸ hW593.1 113
    have bit2_592 : (-2147483648 : Int) ≤ it2_592 ∧ it2_592 ≤ 2147483647 := e596 ▸ hW593.1 111
    refine .inl ⟨rfl, ?_⟩
    refine jx_rt (v := none) rfl rfl rfl rfl rfl rfl ?_
    exact ⟨_, _, om2_591, it2_592, rfl, rfl, hW593, hF603, (e595), (e596), by omega, by omega, by omega, by omega, (opR_spk _ _ (by omega) e_ra e_rb p601), trivial⟩
  · refine jx_swe (z := 27) (tg := 621) h26 rfl rfl rfl rfl ?_
    have _q : True := trivial
    refine jx_ld (pc_q := 622) (l_q := L25) (st_q := [.ref 66]) rfl (jl_aloadn gL25_0) ?_
    refine jx_ld (pc_q := 623) (l_q := L25) (st_q := [.int (i32 (p)), .ref 66]) rfl (jl_iloadn gL25_1) ?_
    refine jx_ld (pc_q := 624) (l_q := L25) (st_q := [.int (i32 (op1)), .int (i32 (p)), .ref 66]) rfl (jl_iloadn gL25_2) ?_
    refine jx_ld (pc_q := 625) (l_q := L25) (st_q := [.int (i32 (ra)), .int (i32 (op1)), .int (i32 (p)), .ref 66]) rfl (jl_iloadn gL25_3) ?_
    refine jx_ld (pc_q := 627) (l_q := L25) (st_q := [.int (i32 (rb)), .int (i32 (ra)), .int (i32 (op1)), .int (i32 (p)), .ref 66]) rfl (jl_iload gL25_4) ?_
    refine jx_vr (pc_q := 630) (as := [.int (i32 (p)), .int (i32 (op1)), .int (i32 (ra)), .int (i32 (rb))]) (st := []) rfl rfl rfl rfl ⟨rfl, rfl, Nat.le_of_ble_eq_true rfl⟩ rfl rfl (c_speak (dd := d) (hd := by omega) (hW := hW) (p := p) (op1 := op1) (a := ra) (b := rb) (m0 := m0) (e_m0 := show A 72 ((2 * p)).toNat = m0 from (e_m0)) (m1 := m1) (e_m1 := show A 72 (((2 * p) + 1)).toNat = m1 from (e_m1)) (rw := rw) (e_rw := show A 64 (p).toNat = rw from (e_rw)) (rn := rn) (e_rn := show A 66 (p).toNat = rn from (e_rn)) (it := it) (e_it := show G 111 = it from (e_it)) (im := im) (e_im := show G 110 = im from (e_im)) (om := om) (e_om := show G 113 = om from (e_om)) (rc := rc) (e_rc := show A 62 (p).toNat = rc from (e_rc)) (ri := ri) (e_ri := show A 63 (p).toNat = ri from (e_ri))  (h_p := ⟨(Int.le_trans (by decide : (-2147483648 : Int) ≤ -2147483648) h_p.1), (Int.le_trans h_p.2 (by decide : (2147483647 : Int) ≤ 2147483647))⟩) (h_op1 := ⟨(Int.le_trans (by decide : (-2147483648 : Int) ≤ -2147483648) h_op1.1), (Int.le_trans h_op1.2 (by decide : (2147483647 : Int) ≤ 2147483647))⟩) (h_a := ⟨(Int.le_trans (by decide : (-2147483648 : Int) ≤ -2147483648) b_ra.1), (Int.le_trans b_ra.2 (by decide : (2147483647 : Int) ≤ 2147483647))⟩) (h_b := ⟨(Int.le_trans (by decide : (-2147483648 : Int) ≤ -2147483648) b_rb.1), (Int.le_trans b_rb.2 (by decide : (2147483647 : Int) ≤ 2147483647))⟩)  (p_0 := by omega) (p_1 := by omega) (p_2 := by omega) (p_3 := by omega) (p_4 := by omega) (p_5 := by omega) (p_6 := by omega) (p_7 := by omega) (p_8 := by omega) (p_9 := by omega) (p_10 := by omega) (p_11 := by omega) (p_12 := by omega) (p_13 := by omega)) (fun o V_q hq => ?_)
    obtain ⟨G604, A605, om2_606, it2_607, rfl, rfl, hW608, hF609, e610, e611, p612, p613, p614, p615, p616, -⟩ := hq
    have hF618 := Fr_tr hF0 hF609 (Fr_sub (by decide)) (Fr_sub (by decide))
    have bom2_606 : (-2147483648 : Int) ≤ om2_606 ∧ om2_606 ≤ 2147483647 := e610 ▸ hW608.1 113
    have bit2_607 : (-2147483648 : Int) ≤ it2_607 ∧ it2_607 ≤ 2147483647 := e611 ▸ hW608.1 111
    refine .inl ⟨rfl, ?_⟩
    refine jx_rt (v := none) rfl rfl rfl rfl rfl rfl ?_
    exact ⟨_, _, om2_606, it2_607, rfl, rfl, hW608, hF618, (e610), (e611), by omega, by omega, by omega, by omega, (opR_spk _ _ (by omega) e_ra e_rb p616), trivial⟩
  · refine jx_swe (z := 28) (tg := 621) h26 rfl rfl rfl rfl ?_
    have _q : True := trivial
    refine jx_ld (pc_q := 622) (l_q := L25) (st_q := [.ref 66]) rfl (jl_aloadn gL25_0) ?_
    refine jx_ld (pc_q := 623) (l_q := L25) (st_q := [.int (i32 (p)), .ref 66]) rfl (jl_iloadn gL25_1) ?_
    refine jx_ld (pc_q := 624) (l_q := L25) (st_q := [.int (i32 (op1)), .int (i32 (p)), .ref 66]) rfl (jl_iloadn gL25_2) ?_
    refine jx_ld (pc_q := 625) (l_q := L25) (st_q := [.int (i32 (ra)), .int (i32 (op1)), .int (i32 (p)), .ref 66]) rfl (jl_iloadn gL25_3) ?_
    refine jx_ld (pc_q := 627) (l_q := L25) (st_q := [.int (i32 (rb)), .int (i32 (ra)), .int (i32 (op1)), .int (i32 (p)), .ref 66]) rfl (jl_iload gL25_4) ?_
    refine jx_vr (pc_q := 630) (as := [.int (i32 (p)), .int (i32 (op1)), .int (i32 (ra)), .int (i32 (rb))]) (st := []) rfl rfl rfl rfl ⟨rfl, rfl, Nat.le_of_ble_eq_true rfl⟩ rfl rfl (c_speak (dd := d) (hd := by omega) (hW := hW) (p := p) (op1 := op1) (a := ra) (b := rb) (m0 := m0) (e_m0 := show A 72 ((2 * p)).toNat = m0 from (e_m0)) (m1 := m1) (e_m1 := show A 72 (((2 * p) + 1)).toNat = m1 from (e_m1)) (rw := rw) (e_rw := show A 64 (p).toNat = rw from (e_rw)) (rn := rn) (e_rn := show A 66 (p).toNat = rn from (e_rn)) (it := it) (e_it := show G 111 = it from (e_it)) (im := im) (e_im := show G 110 = im from (e_im)) (om := om) (e_om := show G 113 = om from (e_om)) (rc := rc) (e_rc := show A 62 (p).toNat = rc from (e_rc)) (ri := ri) (e_ri := show A 63 (p).toNat = ri from (e_ri))  (h_p := ⟨(Int.le_trans (by decide : (-2147483648 : Int) ≤ -2147483648) h_p.1), (Int.le_trans h_p.2 (by decide : (2147483647 : Int) ≤ 2147483647))⟩) (h_op1 := ⟨(Int.le_trans (by decide : (-2147483648 : Int) ≤ -2147483648) h_op1.1), (Int.le_trans h_op1.2 (by decide : (2147483647 : Int) ≤ 2147483647))⟩) (h_a := ⟨(Int.le_trans (by decide : (-2147483648 : Int) ≤ -2147483648) b_ra.1), (Int.le_trans b_ra.2 (by decide : (2147483647 : Int) ≤ 2147483647))⟩) (h_b := ⟨(Int.le_trans (by decide : (-2147483648 : Int) ≤ -2147483648) b_rb.1), (Int.le_trans b_rb.2 (by decide : (2147483647 : Int) ≤ 2147483647))⟩)  (p_0 := by omega) (p_1 := by omega) (p_2 := by omega) (p_3 := by omega) (p_4 := by omega) (p_5 := by omega) (p_6 := by omega) (p_7 := by omega) (p_8 := by omega) (p_9 := by omega) (p_10 := by omega) (p_11 := by omega) (p_12 := by omega) (p_13 := by omega)) (fun o V_q hq => ?_)
    obtain ⟨G619, A620, om2_621, it2_622, rfl, rfl, hW623, hF624, e625, e626, p627, p628, p629, p630, p631, -⟩ := hq
    have hF633 := Fr_tr hF0 hF624 (Fr_sub (by decide)) (Fr_sub (by decide))
    have bom2_621 : (-2147483648 : Int) ≤ om2_621 ∧ om2_621 ≤ 2147483647 := e625 ▸ hW623.1 113
    have bit2_622 : (-2147483648 : Int) ≤ it2_622 ∧ it2_622 ≤ 2147483647 := e626 ▸ hW623.1 111
    refine .inl ⟨rfl, ?_⟩
    refine jx_rt (v := none) rfl rfl rfl rfl rfl rfl ?_
    exact ⟨_, _, om2_621, it2_622, rfl, rfl, hW623, hF633, (e625), (e626), by omega, by omega, by omega, by omega, (opR_spk _ _ (by omega) e_ra e_rb p631), trivial⟩
  · refine jx_swe (z := 29) (tg := 583) h26 rfl rfl rfl rfl ?_
    have _q : True := trivial
    refine jx_ld (pc_q := 584) (l_q := L25) (st_q := [.ref 66]) rfl (jl_aloadn gL25_0) ?_
    refine jx_ld (pc_q := 585) (l_q := L25) (st_q := [.int (i32 (p)), .ref 66]) rfl (jl_iloadn gL25_1) ?_
    refine jx_ar (pc_q := 586) (st_q := [.int (i32 (1)), .int (i32 (p)), .ref 66]) rfl rfl rfl rfl ?_
    refine jx_vr (pc_q := 589) (as := [.int (i32 (p)), .int (i32 (1))]) (st := []) rfl rfl rfl rfl ⟨rfl, rfl, Nat.le_of_ble_eq_true rfl⟩ rfl rfl (c_fault2 (dd := d) (hd := by omega) (hW := hW) (p := p) (is := 1)   (h_p := ⟨(Int.le_trans (by decide : (-2147483648 : Int) ≤ -2147483648) h_p.1), (Int.le_trans h_p.2 (by decide : (2147483647 : Int) ≤ 2147483647))⟩) (h_is := ⟨(by decide), (by decide)⟩)  (p_0 := by omega) (p_1 := by omega)) (fun o V_q hq => ?_)
    obtain ⟨G634, A635, rfl, rfl, hW636, hF637, p638, -⟩ := hq
    have hF640 := Fr_tr hF0 hF637 (Fr_sub (by decide)) (Fr_sub (by decide))
    refine .inl ⟨rfl, ?_⟩
    refine jx_go (tg := 630) rfl rfl ?_
    refine jx_rt (v := none) rfl rfl rfl rfl rfl rfl ?_
    exact ⟨_, _, om, it, rfl, rfl, hW636, hF640, ((hF637.1 113 rfl).trans (e_om)), ((hF637.1 111 rfl).trans (e_it)), by omega, by omega, by omega, by omega, (by rcases p638 with h9 | h9; exact absurd h9.1 (by omega); exact opR_fail (by omega) h9.2), trivial⟩
  · refine jx_swe (z := 30) (tg := 592) h26 rfl rfl rfl rfl ?_
    have _q : True := trivial
    refine jx_ld (pc_q := 593) (l_q := L25) (st_q := [.ref 66]) rfl (jl_aloadn gL25_0) ?_
    refine jx_ld (pc_q := 594) (l_q := L25) (st_q := [.int (i32 (p)), .ref 66]) rfl (jl_iloadn gL25_1) ?_
    refine jx_ld (pc_q := 595) (l_q := L25) (st_q := [.ref 66, .int (i32 (p)), .ref 66]) rfl (jl_aloadn gL25_0) ?_
    refine jr_get (pc_q := 598) (i := 97) (v := .ref 133) rfl rfl (by decide) rfl rfl ?_
    refine jx_ld (pc_q := 599) (l_q := L25) (st_q := [.int (i32 (p)), .ref 133, .int (i32 (p)), .ref 66]) rfl (jl_iloadn gL25_1) ?_
    refine jr_ldv (pc_q := 600) (i := 66) (m := 6) (z := p) (y := rn) rfl (by decide) rfl (by decide) (by omega) (by omega) rfl (show A 66 (p).toNat = rn from (e_rn)) ?_
    refine jx_vr (pc_q := 603) (as := [.int (i32 (p)), .int (i32 (rn))]) (st := []) rfl rfl rfl rfl ⟨rfl, rfl, Nat.le_of_ble_eq_true rfl⟩ rfl rfl (c_come (dd := d) (hd := by omega) (hW := hW) (p := p) (v := rn)   (h_p := ⟨(Int.le_trans (by decide : (-2147483648 : Int) ≤ -2147483648) h_p.1), (Int.le_trans h_p.2 (by decide : (2147483647 : Int) ≤ 2147483647))⟩) (h_v := ⟨(Int.le_trans (by decide : (-2147483648 : Int) ≤ -2147483648) b_rn.1), (Int.le_trans b_rn.2 (by decide : (2147483647 : Int) ≤ 2147483647))⟩)  (p_0 := by omega) (p_1 := by omega)) (fun o V_q hq => ?_)
    obtain ⟨G641, A642, rfl, rfl, hW643, hF644, p645, -⟩ := hq
    have hF647 := Fr_tr hF0 hF644 (Fr_sub (by decide)) (Fr_sub (by decide))
    refine .inl ⟨rfl, ?_⟩
    refine jx_go (tg := 630) rfl rfl ?_
    refine jx_rt (v := none) rfl rfl rfl rfl rfl rfl ?_
    exact ⟨_, _, om, it, rfl, rfl, hW643, hF647, ((hF644.1 113 rfl).trans (e_om)), ((hF644.1 111 rfl).trans (e_it)), by omega, by omega, by omega, by omega, (opR_self _ (by omega) e_rn p645), trivial⟩
  · refine jx_swe (z := 31) (tg := 606) h26 rfl rfl rfl rfl ?_
    have _q : True := trivial
    refine jx_ld (pc_q := 607) (l_q := L25) (st_q := [.ref 66]) rfl (jl_aloadn gL25_0) ?_
    refine jr_get (pc_q := 610) (i := 99) (v := .ref 135) rfl rfl (by decide) rfl rfl ?_
    refine jx_ld (pc_q := 611) (l_q := L25) (st_q := [.int (i32 (p)), .ref 135]) rfl (jl_iloadn gL25_1) ?_
    refine jx_ar (pc_q := 612) (st_q := [.int (i32 (1)), .int (i32 (p)), .ref 135]) rfl rfl rfl rfl ?_
    refine jr_sb (pc_q := 613) (i := 68) (m := 6) (z := p) (y := 1) rfl (by decide) rfl (by decide) (by omega) (by omega) (by omega) rfl ?_
    have hW649 : Wk G (uA A 68 (p).toNat (1)) := Wk_a hW (show (0 : Int) ≤ 1 by omega) (show 1 ≤ (1 : Int) by omega)
    have hF650 := Fr_a (z := 1) (k := 68) (n := (p).toNat) hF0 (by decide)
    obtain ⟨A648, eA648⟩ : ∃ q, q = uA A 68 (p).toNat (1) := ⟨_, rfl⟩
    rw [← eA648]
    rw [← eA648] at hW649 hF650
    have q651 : A648 68 (p).toNat = 1 := by rw [eA648]; exact uA_eq
    refine jx_ld (pc_q := 614) (l_q := L25) (st_q := [.ref 66]) rfl (jl_aloadn gL25_0) ?_
    refine jx_ld (pc_q := 615) (l_q := L25) (st_q := [.int (i32 (p)), .ref 66]) rfl (jl_iloadn gL25_1) ?_
    refine jx_vr (pc_q := 618) (as := [.int (i32 (p))]) (st := []) rfl rfl rfl rfl ⟨rfl, rfl, Nat.le_of_ble_eq_true rfl⟩ rfl rfl (c_gone (dd := d) (hd := by omega) (hW := hW649) (p := p)   (h_p := ⟨(Int.le_trans (by decide : (-2147483648 : Int) ≤ -2147483648) h_p.1), (Int.le_trans h_p.2 (by decide : (2147483647 : Int) ≤ 2147483647))⟩)  (p_0 := by omega) (p_1 := by omega)) (fun o V_q hq => ?_)
    obtain ⟨G652, A653, rfl, rfl, hW654, hF655, p656, -⟩ := hq
    have hF658 := Fr_tr hF650 hF655 (Fr_sub (by decide)) (Fr_sub (by decide))
    refine .inl ⟨rfl, ?_⟩
    refine jx_go (tg := 630) rfl rfl ?_
    refine jx_rt (v := none) rfl rfl rfl rfl rfl rfl ?_
    exact ⟨_, _, om, it, rfl, rfl, hW654, hF658, ((hF655.1 113 rfl).trans (e_om)), ((hF655.1 111 rfl).trans (e_it)), by omega, by omega, by omega, by omega, (opR_done _ (by omega) eA648 p656), trivial⟩
  · refine jx_swt (tg := 621) (by omega) (by omega) rfl h26 rfl ?_
    have _q : True := trivial
    refine jx_ld (pc_q := 622) (l_q := L25) (st_q := [.ref 66]) rfl (jl_aloadn gL25_0) ?_
    refine jx_ld (pc_q := 623) (l_q := L25) (st_q := [.int (i32 (p)), .ref 66]) rfl (jl_iloadn gL25_1) ?_
    refine jx_ld (pc_q := 624) (l_q := L25) (st_q := [.int (i32 (op1)), .int (i32 (p)), .ref 66]) rfl (jl_iloadn gL25_2) ?_
    refine jx_ld (pc_q := 625) (l_q := L25) (st_q := [.int (i32 (ra)), .int (i32 (op1)), .int (i32 (p)), .ref 66]) rfl (jl_iloadn gL25_3) ?_
    refine jx_ld (pc_q := 627) (l_q := L25) (st_q := [.int (i32 (rb)), .int (i32 (ra)), .int (i32 (op1)), .int (i32 (p)), .ref 66]) rfl (jl_iload gL25_4) ?_
    refine jx_vr (pc_q := 630) (as := [.int (i32 (p)), .int (i32 (op1)), .int (i32 (ra)), .int (i32 (rb))]) (st := []) rfl rfl rfl rfl ⟨rfl, rfl, Nat.le_of_ble_eq_true rfl⟩ rfl rfl (c_speak (dd := d) (hd := by omega) (hW := hW) (p := p) (op1 := op1) (a := ra) (b := rb) (m0 := m0) (e_m0 := show A 72 ((2 * p)).toNat = m0 from (e_m0)) (m1 := m1) (e_m1 := show A 72 (((2 * p) + 1)).toNat = m1 from (e_m1)) (rw := rw) (e_rw := show A 64 (p).toNat = rw from (e_rw)) (rn := rn) (e_rn := show A 66 (p).toNat = rn from (e_rn)) (it := it) (e_it := show G 111 = it from (e_it)) (im := im) (e_im := show G 110 = im from (e_im)) (om := om) (e_om := show G 113 = om from (e_om)) (rc := rc) (e_rc := show A 62 (p).toNat = rc from (e_rc)) (ri := ri) (e_ri := show A 63 (p).toNat = ri from (e_ri))  (h_p := ⟨(Int.le_trans (by decide : (-2147483648 : Int) ≤ -2147483648) h_p.1), (Int.le_trans h_p.2 (by decide : (2147483647 : Int) ≤ 2147483647))⟩) (h_op1 := ⟨(Int.le_trans (by decide : (-2147483648 : Int) ≤ -2147483648) h_op1.1), (Int.le_trans h_op1.2 (by decide : (2147483647 : Int) ≤ 2147483647))⟩) (h_a := ⟨(Int.le_trans (by decide : (-2147483648 : Int) ≤ -2147483648) b_ra.1), (Int.le_trans b_ra.2 (by decide : (2147483647 : Int) ≤ 2147483647))⟩) (h_b := ⟨(Int.le_trans (by decide : (-2147483648 : Int) ≤ -2147483648) b_rb.1), (Int.le_trans b_rb.2 (by decide : (2147483647 : Int) ≤ 2147483647))⟩)  (p_0 := by omega) (p_1 := by omega) (p_2 := by omega) (p_3 := by omega) (p_4 := by omega) (p_5 := by omega) (p_6 := by omega) (p_7 := by omega) (p_8 := by omega) (p_9 := by omega) (p_10 := by omega) (p_11 := by omega) (p_12 := by omega) (p_13 := by omega)) (fun o V_q hq => ?_)
    obtain ⟨G659, A660, om2_661, it2_662, rfl, rfl, hW663, hF664, e665, e666, p667, p668, p669, p670, p671, -⟩ := hq
    have hF673 := Fr_tr hF0 hF664 (Fr_sub (by decide)) (Fr_sub (by decide))
    have bom2_661 : (-2147483648 : Int) ≤ om2_661 ∧ om2_661 ≤ 2147483647 := e665 ▸ hW663.1 113
    have bit2_662 : (-2147483648 : Int) ≤ it2_662 ∧ it2_662 ≤ 2147483647 := e666 ▸ hW663.1 111
    refine .inl ⟨rfl, ?_⟩
    refine jx_rt (v := none) rfl rfl rfl rfl rfl rfl ?_
    exact ⟨_, _, om2_661, it2_662, rfl, rfl, hW663, hF673, (e665), (e666), by omega, by omega, by omega, by omega, (opR_spk _ _ (by omega) e_ra e_rb p671), trivial⟩
