/-- OUT, IN and the steps of an ALT -/
def spR (A A_q : Nat → Nat → Int) (it im om p o a b : Int) : Prop :=
  (∃ A1 A2 : Nat → Nat → Int, (o = 21) ∧ (A1 = takeM A p) ∧ (A2 = takeM A1 p) ∧ (ouR A2 A_q om p a b)) ∨
  (∃ A1 A2 : Nat → Nat → Int, (o = 20) ∧ (A1 = takeM A p) ∧ (A2 = takeM A1 p) ∧ (inR A2 A_q it im p a b)) ∨
  (∃ rw : Int, ∃ A1 : Nat → Nat → Int, (o = 22) ∧ (A 64 p.toNat = rw) ∧ (A1 = stM A p (rw - 3) 1) ∧ (A_q = stM A1 p rw (-1))) ∨
  ((o = 23) ∧ (b = 0) ∧ (A_q = takeM A p)) ∨
  (∃ A1 : Nat → Nat → Int, (o = 23) ∧ (b ≠ 0) ∧ (A1 = takeM A p) ∧ (enR A1 A_q it im p a)) ∨
  ((o = 24) ∧ (a = 0) ∧ (A_q = A)) ∨
  (∃ rw : Int, (o = 24) ∧ (A 64 p.toNat = rw) ∧ (a ≠ 0) ∧ (A_q = stM A p (rw - 3) 3)) ∨
  (∃ rw r : Int, (o = 25) ∧ (A 64 p.toNat = rw) ∧ (r = ldM A p (rw - 3)) ∧ (r = 3) ∧ (A_q = A)) ∨
  (∃ rw r : Int, ∃ A1 : Nat → Nat → Int, (o = 25) ∧ (A 64 p.toNat = rw) ∧ (r = ldM A p (rw - 3)) ∧ (r ≠ 3) ∧ (A1 = stM A p (rw - 3) 2) ∧ (A_q = waitM A1 p)) ∨
  (∃ A1 A2 : Nat → Nat → Int, (o = 26) ∧ (b = 0) ∧ (A1 = takeM A p) ∧ (A2 = takeM A1 p) ∧ (A_q = takeM A2 p)) ∨
  (∃ rc : Int, ∃ A1 A2 A3 : Nat → Nat → Int, (o = 26) ∧ (b ≠ 0) ∧ (A 62 p.toNat = rc) ∧ (A1 = takeM A p) ∧ (A2 = takeM A1 p) ∧ (A3 = takeM A2 p) ∧ (dsR A3 A_q it im p a rc)) ∨
  (∃ A1 : Nat → Nat → Int, (o = 27) ∧ (A1 = takeM A p) ∧ (A_q = takeM A1 p)) ∨
  (∃ rw r : Int, ∃ A1 A2 : Nat → Nat → Int, (o = 27) ∧ (A 64 p.toNat = rw) ∧ (A1 = takeM A p) ∧ (A2 = takeM A1 p) ∧ (r = ldM A2 p rw) ∧ (r = -1) ∧ (A_q = stM A2 p rw b)) ∨
  (∃ rw ri r : Int, ∃ A1 : Nat → Nat → Int, (o < 20 ∨ 28 ≤ o) ∧ (A 64 p.toNat = rw) ∧ (A 63 p.toNat = ri) ∧ (A1 = stM A p (rw - 3) 0) ∧ (r = ldM A1 p rw) ∧ (A_q = uA A1 63 p.toNat (i32 (ri + r)).toInt))
theorem spR_out {A A_q : Nat → Nat → Int} {it im om p o a b : Int} (A1 A2 : Nat → Nat → Int) (h : o = 21) (t1 : A1 = takeM A p) (t2 : A2 = takeM A1 p) (k : ouR A2 A_q om p a b) : spR A A_q it im om p o a b := .inl ⟨A1, A2, h, t1, t2, k⟩
theorem spR_inw {A A_q : Nat → Nat → Int} {it im om p o a b : Int} (A1 A2 : Nat → Nat → Int) (h : o = 20) (t1 : A1 = takeM A p) (t2 : A2 = takeM A1 p) (k : inR A2 A_q it im p a b) : spR A A_q it im om p o a b := .inr (.inl ⟨A1, A2, h, t1, t2, k⟩)
theorem spR_alts {A A_q : Nat → Nat → Int} {it im om p o a b : Int} (rw : Int) (A1 : Nat → Nat → Int) (h : o = 22) (hw : A 64 p.toNat = rw) (s1 : A1 = stM A p (rw - 3) 1) (s2 : A_q = stM A1 p rw (-1)) : spR A A_q it im om p o a b := .inr (.inr (.inl ⟨rw, A1, h, hw, s1, s2⟩))
theorem spR_enb0 {A A_q : Nat → Nat → Int} {it im om p o a b : Int}  (h : o = 23) (hb : b = 0) (t1 : A_q = takeM A p) : spR A A_q it im om p o a b := .inr (.inr (.inr (.inl ⟨h, hb, t1⟩)))
theorem spR_enb1 {A A_q : Nat → Nat → Int} {it im om p o a b : Int} (A1 : Nat → Nat → Int) (h : o = 23) (hb : b ≠ 0) (t1 : A1 = takeM A p) (k : enR A1 A_q it im p a) : spR A A_q it im om p o a b := .inr (.inr (.inr (.inr (.inl ⟨A1, h, hb, t1, k⟩))))
theorem spR_ens0 {A A_q : Nat → Nat → Int} {it im om p o a b : Int}  (h : o = 24) (ha : a = 0) (e : A_q = A) : spR A A_q it im om p o a b := .inr (.inr (.inr (.inr (.inr (.inl ⟨h, ha, e⟩)))))
theorem spR_ens1 {A A_q : Nat → Nat → Int} {it im om p o a b : Int} (rw : Int) (h : o = 24) (hw : A 64 p.toNat = rw) (ha : a ≠ 0) (e : A_q = stM A p (rw - 3) 3) : spR A A_q it im om p o a b := .inr (.inr (.inr (.inr (.inr (.inr (.inl ⟨rw, h, hw, ha, e⟩))))))
theorem spR_awt0 {A A_q : Nat → Nat → Int} {it im om p o a b : Int} (rw r : Int) (h : o = 25) (hw : A 64 p.toNat = rw) (l : r = ldM A p (rw - 3)) (z : r = 3) (e : A_q = A) : spR A A_q it im om p o a b := .inr (.inr (.inr (.inr (.inr (.inr (.inr (.inl ⟨rw, r, h, hw, l, z, e⟩)))))))
theorem spR_awt1 {A A_q : Nat → Nat → Int} {it im om p o a b : Int} (rw r : Int) (A1 : Nat → Nat → Int) (h : o = 25) (hw : A 64 p.toNat = rw) (l : r = ldM A p (rw - 3)) (z : r ≠ 3) (s1 : A1 = stM A p (rw - 3) 2) (e : A_q = waitM A1 p) : spR A A_q it im om p o a b := .inr (.inr (.inr (.inr (.inr (.inr (.inr (.inr (.inl ⟨rw, r, A1, h, hw, l, z, s1, e⟩))))))))
theorem spR_dis0 {A A_q : Nat → Nat → Int} {it im om p o a b : Int} (A1 A2 : Nat → Nat → Int) (h : o = 26) (hb : b = 0) (t1 : A1 = takeM A p) (t2 : A2 = takeM A1 p) (t3 : A_q = takeM A2 p) : spR A A_q it im om p o a b := .inr (.inr (.inr (.inr (.inr (.inr (.inr (.inr (.inr (.inl ⟨A1, A2, h, hb, t1, t2, t3⟩)))))))))
theorem spR_dis1 {A A_q : Nat → Nat → Int} {it im om p o a b : Int} (rc : Int) (A1 A2 A3 : Nat → Nat → Int) (h : o = 26) (hb : b ≠ 0) (hc : A 62 p.toNat = rc) (t1 : A1 = takeM A p) (t2 : A2 = takeM A1 p) (t3 : A3 = takeM A2 p) (k : dsR A3 A_q it im p a rc) : spR A A_q it im om p o a b := .inr (.inr (.inr (.inr (.inr (.inr (.inr (.inr (.inr (.inr (.inl ⟨rc, A1, A2, A3, h, hb, hc, t1, t2, t3, k⟩))))))))))
theorem spR_dss0 {A A_q : Nat → Nat → Int} {it im om p o a b : Int} (A1 : Nat → Nat → Int) (h : o = 27) (t1 : A1 = takeM A p) (t2 : A_q = takeM A1 p) : spR A A_q it im om p o a b := .inr (.inr (.inr (.inr (.inr (.inr (.inr (.inr (.inr (.inr (.inr (.inl ⟨A1, h, t1, t2⟩)))))))))))
theorem spR_dss1 {A A_q : Nat → Nat → Int} {it im om p o a b : Int} (rw r : Int) (A1 A2 : Nat → Nat → Int) (h : o = 27) (hw : A 64 p.toNat = rw) (t1 : A1 = takeM A p) (t2 : A2 = takeM A1 p) (l : r = ldM A2 p rw) (z : r = -1) (e : A_q = stM A2 p rw b) : spR A A_q it im om p o a b := .inr (.inr (.inr (.inr (.inr (.inr (.inr (.inr (.inr (.inr (.inr (.inr (.inl ⟨rw, r, A1, A2, h, hw, t1, t2, l, z, e⟩))))))))))))
theorem spR_aend {A A_q : Nat → Nat → Int} {it im om p o a b : Int} (rw ri r : Int) (A1 : Nat → Nat → Int) (h : o < 20 ∨ 28 ≤ o) (hw : A 64 p.toNat = rw) (hi : A 63 p.toNat = ri) (s1 : A1 = stM A p (rw - 3) 0) (l : r = ldM A1 p rw) (e : A_q = uA A1 63 p.toNat (i32 (ri + r)).toInt) : spR A A_q it im om p o a b := .inr (.inr (.inr (.inr (.inr (.inr (.inr (.inr (.inr (.inr (.inr (.inr (.inr (⟨rw, ri, r, A1, h, hw, hi, s1, l, e⟩)))))))))))))

set_option maxRecDepth 20000 in
set_option maxHeartbeats 4000000 in
theorem c_speak {X : jX} {dd : Nat} {c0 c1 : jC} {G : Nat → Int} {A : Nat → Nat → Int} {T : jH} {p op1 a b : Int} {m0 m1 rw rn it im om rc ri : Int} (hd : 7 ≤ dd) (hW : Wk G A) (e_m0 : A 72 ((2 * p)).toNat = m0) (e_m1 : A 72 (((2 * p) + 1)).toNat = m1) (e_rw : A 64 (p).toNat = rw) (e_rn : A 66 (p).toNat = rn) (e_it : G 111 = it) (e_im : G 110 = im) (e_om : G 113 = om) (e_rc : A 62 (p).toNat = rc) (e_ri : A 63 (p).toNat = ri) (h_p : (-2147483648 : Int) ≤ p ∧ p ≤ 2147483647) (h_op1 : (-2147483648 : Int) ≤ op1 ∧ op1 ≤ 2147483647) (h_a : (-2147483648 : Int) ≤ a ∧ a ≤ 2147483647) (h_b : (-2147483648 : Int) ≤ b ∧ b ≤ 2147483647) (p_0 : 0 ≤ p) (p_1 : p ≤ 5) (p_2 : 0 ≤ m0) (p_3 : m0 ≤ 1099) (p_4 : 0 ≤ m1) (p_5 : m1 ≤ 1099) (p_6 : -1000000 ≤ rw) (p_7 : rw ≤ 1000000) (p_8 : 0 ≤ rn ∨ rn ≤ -2) (p_9 : 0 ≤ it) (p_10 : it ≤ im) (p_11 : im ≤ 200) (p_12 : 0 ≤ om) (p_13 : om ≤ 2000000000) : wk X dd 384 [.ref 66, .int (i32 p), .int (i32 op1), .int (i32 a), .int (i32 b)] (rV c0 c1 G A T) (fun o V_q => ∃ (G_q : Nat → Int) (A_q : Nat → Nat → Int) (om2 : Int) (it2 : Int), V_q = rV c0 c1 G_q A_q T ∧ o = .inl none ∧ Wk G_q A_q ∧ Fr [111, 113] [59, 60, 61, 62, 63, 64, 65, 66, 70, 71, 72, 73, 79, 80, 81, 82, 83, 84, 85] G A G_q A_q ∧ G_q 113 = om2 ∧ G_q 111 = it2 ∧ (om ≤ om2) ∧ (om2 ≤ om + 1) ∧ (it ≤ it2) ∧ (it2 ≤ im) ∧ (spR A A_q (it) (im) (om) (p) (op1) (a) (b)) ∧ True) := by
  obtain ⟨d, rfl⟩ : ∃ d, dd = d + 1 := ⟨dd - 1, by omega⟩
  refine wk_of (e := jm384) rfl (Nat.le_of_ble_eq_true rfl) ?_
  show wj X d jm384 (0, [(0, .ref 66), (1, .int (i32 (p))), (2, .int (i32 (op1))), (3, .int (i32 (a))), (4, .int (i32 (b)))], [], rV c0 c1 G A T) _
  have hF0 : Fr [111, 113] [59, 60, 61, 62, 63, 64, 65, 66, 70, 71, 72, 73, 79, 80, 81, 82, 83, 84, 85] G A G A := Fr_rf
  have b_m0 : (-2147483648 : Int) ≤ m0 ∧ m0 ≤ 2147483647 := e_m0 ▸ hW.2 72 _
  have b_m1 : (-2147483648 : Int) ≤ m1 ∧ m1 ≤ 2147483647 := e_m1 ▸ hW.2 72 _
  have b_rw : (-2147483648 : Int) ≤ rw ∧ rw ≤ 2147483647 := e_rw ▸ hW.2 64 _
  have b_rn : (-2147483648 : Int) ≤ rn ∧ rn ≤ 2147483647 := e_rn ▸ hW.2 66 _
  have b_it : (-2147483648 : Int) ≤ it ∧ it ≤ 2147483647 := e_it ▸ hW.1 111
  have b_im : (-2147483648 : Int) ≤ im ∧ im ≤ 2147483647 := e_im ▸ hW.1 110
  have b_om : (-2147483648 : Int) ≤ om ∧ om ≤ 2147483647 := e_om ▸ hW.1 113
  have b_rc : (-2147483648 : Int) ≤ rc ∧ rc ≤ 2147483647 := e_rc ▸ hW.2 62 _
  have b_ri : (-2147483648 : Int) ≤ ri ∧ ri ≤ 2147483647 := e_ri ▸ hW.2 63 _
  refine jx_ld (pc_q := 1) (l_q := [(0, .ref 66), (1, .int (i32 (p))), (2, .int (i32 (op1))), (3, .int (i32 (a))), (4, .int (i32 (b)))]) (st_q := [.ref 66]) rfl (jl_aloadn rfl) ?_
  refine jr_get (pc_q := 4) (i := 95) (v := .ref 131) rfl rfl (by decide) rfl rfl ?_
  refine jx_ld (pc_q := 5) (l_q := [(0, .ref 66), (1, .int (i32 (p))), (2, .int (i32 (op1))), (3, .int (i32 (a))), (4, .int (i32 (b)))]) (st_q := [.int (i32 (p)), .ref 131]) rfl (jl_iloadn rfl) ?_
  refine jr_ldv (pc_q := 6) (i := 64) (m := 6) (z := p) (y := rw) rfl (by decide) rfl (by decide) (by omega) (by omega) rfl (show A 64 (p).toNat = rw from (e_rw)) ?_
  refine jx_ld (pc_q := 8) (l_q := jSto1 [(0, .ref 66), (1, .int (i32 (p))), (2, .int (i32 (op1))), (3, .int (i32 (a))), (4, .int (i32 (b)))] 5 (.int (i32 (rw)))) (st_q := []) rfl rfl ?_
  obtain ⟨L1, eL1⟩ : ∃ q, q = jSto1 [(0, .ref 66), (1, .int (i32 (p))), (2, .int (i32 (op1))), (3, .int (i32 (a))), (4, .int (i32 (b)))] 5 (.int (i32 (rw))) := ⟨_, rfl⟩
  rw [← eL1]
  have gL1_0 : jGet L1 0 = some (.ref 66) := eL1 ▸ jg_ne (by decide) (rfl : jGet [(0, .ref 66), (1, .int (i32 (p))), (2, .int (i32 (op1))), (3, .int (i32 (a))), (4, .int (i32 (b)))] 0 = some (.ref 66)) rfl
  have gL1_1 : jGet L1 1 = some (.int (i32 (p))) := eL1 ▸ jg_ne (by decide) (rfl : jGet [(0, .ref 66), (1, .int (i32 (p))), (2, .int (i32 (op1))), (3, .int (i32 (a))), (4, .int (i32 (b)))] 1 = some (.int (i32 (p)))) rfl
  have gL1_2 : jGet L1 2 = some (.int (i32 (op1))) := eL1 ▸ jg_ne (by decide) (rfl : jGet [(0, .ref 66), (1, .int (i32 (p))), (2, .int (i32 (op1))), (3, .int (i32 (a))), (4, .int (i32 (b)))] 2 = some (.int (i32 (op1)))) rfl
  have gL1_3 : jGet L1 3 = some (.int (i32 (a))) := eL1 ▸ jg_ne (by decide) (rfl : jGet [(0, .ref 66), (1, .int (i32 (p))), (2, .int (i32 (op1))), (3, .int (i32 (a))), (4, .int (i32 (b)))] 3 = some (.int (i32 (a)))) rfl
  have gL1_4 : jGet L1 4 = some (.int (i32 (b))) := eL1 ▸ jg_ne (by decide) (rfl : jGet [(0, .ref 66), (1, .int (i32 (p))), (2, .int (i32 (op1))), (3, .int (i32 (a))), (4, .int (i32 (b)))] 4 = some (.int (i32 (b)))) rfl
  have gL1_5 : jGet L1 5 = some (.int (i32 (rw))) := eL1 ▸ jg_eq
  refine jx_ld (pc_q := 9) (l_q := L1) (st_q := [.int (i32 (op1))]) rfl (jl_iloadn gL1_2) ?_
  rcases (by omega : op1 = 20 ∨ op1 = 21 ∨ op1 = 22 ∨ op1 = 23 ∨ op1 = 24 ∨ op1 = 25 ∨ op1 = 26 ∨ op1 = 27 ∨ (op1 < 20 ∨ 27 < op1)) with h2 | h2 | h2 | h2 | h2 | h2 | h2 | h2 | h2
  · refine jx_swe (z := 20) (tg := 77) h2 rfl rfl rfl rfl ?_
    have _q : True := trivial
    refine jx_ld (pc_q := 78) (l_q := L1) (st_q := [.ref 66]) rfl (jl_aloadn gL1_0) ?_
    refine jx_ld (pc_q := 79) (l_q := L1) (st_q := [.int (i32 (p)), .ref 66]) rfl (jl_iloadn gL1_1) ?_
    refine jx_vr (pc_q := 82) (as := [.int (i32 (p))]) (st := []) rfl rfl rfl rfl ⟨rfl, rfl, Nat.le_of_ble_eq_true rfl⟩ rfl rfl (c_take (dd := d) (hd := by omega) (hW := hW) (p := p)   (h_p := ⟨(Int.le_trans (by decide : (-2147483648 : Int) ≤ -2147483648) h_p.1), (Int.le_trans h_p.2 (by decide : (2147483647 : Int) ≤ 2147483647))⟩)  (p_0 := by omega) (p_1 := by omega)) (fun o V_q hq => ?_)
    obtain ⟨G3, A4, rfl, rfl, hW5, hF6, p7, -⟩ := hq
    have hF9 := Fr_tr hF0 hF6 (Fr_sub (by decide)) (Fr_sub (by decide))
    refine .inl ⟨rfl, ?_⟩
    refine jx_ld (pc_q := 83) (l_q := L1) (st_q := [.ref 66]) rfl (jl_aloadn gL1_0) ?_
    refine jx_ld (pc_q := 84) (l_q := L1) (st_q := [.int (i32 (p)), .ref 66]) rfl (jl_iloadn gL1_1) ?_
    refine jx_vr (pc_q := 87) (as := [.int (i32 (p))]) (st := []) rfl rfl rfl rfl ⟨rfl, rfl, Nat.le_of_ble_eq_true rfl⟩ rfl rfl (c_take (dd := d) (hd := by omega) (hW := hW5) (p := p)   (h_p := ⟨(Int.le_trans (by decide : (-2147483648 : Int) ≤ -2147483648) h_p.1), (Int.le_trans h_p.2 (by decide : (2147483647 : Int) ≤ 2147483647))⟩)  (p_0 := by omega) (p_1 := by omega)) (fun o V_q hq => ?_)
    obtain ⟨G10, A11, rfl, rfl, hW12, hF13, p14, -⟩ := hq
    have hF16 := Fr_tr hF9 hF13 (Fr_sub (by decide)) (Fr_sub (by decide))
    refine .inl ⟨rfl, ?_⟩
    refine jx_ld (pc_q := 88) (l_q := L1) (st_q := [.ref 66]) rfl (jl_aloadn gL1_0) ?_
    refine jx_ld (pc_q := 89) (l_q := L1) (st_q := [.int (i32 (p)), .ref 66]) rfl (jl_iloadn gL1_1) ?_
    refine jx_ld (pc_q := 90) (l_q := L1) (st_q := [.int (i32 (a)), .int (i32 (p)), .ref 66]) rfl (jl_iloadn gL1_3) ?_
    refine jx_ld (pc_q := 92) (l_q := L1) (st_q := [.int (i32 (b)), .int (i32 (a)), .int (i32 (p)), .ref 66]) rfl (jl_iload gL1_4) ?_
    refine jx_vr (pc_q := 95) (as := [.int (i32 (p)), .int (i32 (a)), .int (i32 (b))]) (st := []) rfl rfl rfl rfl ⟨rfl, rfl, Nat.le_of_ble_eq_true rfl⟩ rfl rfl (c_inWord (dd := d) (hd := by omega) (hW := hW12) (p := p) (a := a) (t := b) (m0 := m0) (e_m0 := show A11 72 ((2 * p)).toNat = m0 from (congrFun ((hF13.2 72 rfl).trans (hF6.2 72 rfl)) _).trans (e_m0)) (m1 := m1) (e_m1 := show A11 72 (((2 * p) + 1)).toNat = m1 from (congrFun ((hF13.2 72 rfl).trans (hF6.2 72 rfl)) _).trans (e_m1)) (rw := rw) (e_rw := show A11 64 (p).toNat = rw from (congrFun ((hF13.2 64 rfl).trans (hF6.2 64 rfl)) _).trans (e_rw)) (rn := rn) (e_rn := show A11 66 (p).toNat = rn from (congrFun ((hF13.2 66 rfl).trans (hF6.2 66 rfl)) _).trans (e_rn)) (it := it) (e_it := show G10 111 = it from ((hF13.1 111 rfl).trans ((hF6.1 111 rfl).trans (e_it)))) (im := im) (e_im := show G10 110 = im from ((hF13.1 110 rfl).trans ((hF6.1 110 rfl).trans (e_im))))  (h_p := ⟨(Int.le_trans (by decide : (-2147483648 : Int) ≤ -2147483648) h_p.1), (Int.le_trans h_p.2 (by decide : (2147483647 : Int) ≤ 2147483647))⟩) (h_a := ⟨(Int.le_trans (by decide : (-2147483648 : Int) ≤ -2147483648) h_a.1), (Int.le_trans h_a.2 (by decide : (2147483647 : Int) ≤ 2147483647))⟩) (h_t := ⟨(Int.le_trans (by decide : (-2147483648 : Int) ≤ -2147483648) h_b.1), (Int.le_trans h_b.2 (by decide : (2147483647 : Int) ≤ 2147483647))⟩)  (p_0 := by omega) (p_1 := by omega) (p_2 := by omega) (p_3 := by omega) (p_4 := by omega) (p_5 := by omega) (p_6 := by omega) (p_7 := by omega) (p_8 := by omega) (p_9 := by omega) (p_10 := by omega) (p_11 := by omega)) (fun o V_q hq => ?_)
    obtain ⟨G17, A18, it2_19, rfl, rfl, hW20, hF21, e22, p23, p24, p25, -⟩ := hq
    have hF27 := Fr_tr hF16 hF21 (Fr_sub (by decide)) (Fr_sub (by decide))
    have bit2_19 : (-2147483648 : Int) ≤ it2_19 ∧ it2_19 ≤ 2147483647 := e22 ▸ hW20.1 111
    refine .inl ⟨rfl, ?_⟩
    refine jx_go (tg := 292) rfl rfl ?_
    refine jx_rt (v := none) rfl rfl rfl rfl rfl rfl ?_
    exact ⟨_, _, om, it2_19, rfl, rfl, hW20, hF27, ((hF21.1 113 rfl).trans ((hF13.1 113 rfl).trans ((hF6.1 113 rfl).trans (e_om)))), (e22), by omega, by omega, by omega, by omega, (spR_inw _ _ (by omega) p7 p14 p25), trivial⟩
  · refine jx_swe (z := 21) (tg := 56) h2 rfl rfl rfl rfl ?_
    have _q : True := trivial
    refine jx_ld (pc_q := 57) (l_q := L1) (st_q := [.ref 66]) rfl (jl_aloadn gL1_0) ?_
    refine jx_ld (pc_q := 58) (l_q := L1) (st_q := [.int (i32 (p)), .ref 66]) rfl (jl_iloadn gL1_1) ?_
    refine jx_vr (pc_q := 61) (as := [.int (i32 (p))]) (st := []) rfl rfl rfl rfl ⟨rfl, rfl, Nat.le_of_ble_eq_true rfl⟩ rfl rfl (c_take (dd := d) (hd := by omega) (hW := hW) (p := p)   (h_p := ⟨(Int.le_trans (by decide : (-2147483648 : Int) ≤ -2147483648) h_p.1), (Int.le_trans h_p.2 (by decide : (2147483647 : Int) ≤ 2147483647))⟩)  (p_0 := by omega) (p_1 := by omega)) (fun o V_q hq => ?_)
    obtain ⟨G28, A29, rfl, rfl, hW30, hF31, p32, -⟩ := hq
    have hF34 := Fr_tr hF0 hF31 (Fr_sub (by decide)) (Fr_sub (by decide))
    refine .inl ⟨rfl, ?_⟩
    refine jx_ld (pc_q := 62) (l_q := L1) (st_q := [.ref 66]) rfl (jl_aloadn gL1_0) ?_
    refine jx_ld (pc_q := 63) (l_q := L1) (st_q := [.int (i32 (p)), .ref 66]) rfl (jl_iloadn gL1_1) ?_
    refine jx_vr (pc_q := 66) (as := [.int (i32 (p))]) (st := []) rfl rfl rfl rfl ⟨rfl, rfl, Nat.le_of_ble_eq_true rfl⟩ rfl rfl (c_take (dd := d) (hd := by omega) (hW := hW30) (p := p)   (h_p := ⟨(Int.le_trans (by decide : (-2147483648 : Int) ≤ -2147483648) h_p.1), (Int.le_trans h_p.2 (by decide : (2147483647 : Int) ≤ 2147483647))⟩)  (p_0 := by omega) (p_1 := by omega)) (fun o V_q hq => ?_)
    obtain ⟨G35, A36, rfl, rfl, hW37, hF38, p39, -⟩ := hq
    have hF41 := Fr_tr hF34 hF38 (Fr_sub (by decide)) (Fr_sub (by decide))
    refine .inl ⟨rfl, ?_⟩
    refine jx_ld (pc_q := 67) (l_q := L1) (st_q := [.ref 66]) rfl (jl_aloadn gL1_0) ?_
    refine jx_ld (pc_q := 68) (l_q := L1) (st_q := [.int (i32 (p)), .ref 66]) rfl (jl_iloadn gL1_1) ?_
    refine jx_ld (pc_q := 69) (l_q := L1) (st_q := [.int (i32 (a)), .int (i32 (p)), .ref 66]) rfl (jl_iloadn gL1_3) ?_
    refine jx_ld (pc_q := 71) (l_q := L1) (st_q := [.int (i32 (b)), .int (i32 (a)), .int (i32 (p)), .ref 66]) rfl (jl_iload gL1_4) ?_
    refine jx_vr (pc_q := 74) (as := [.int (i32 (p)), .int (i32 (a)), .int (i32 (b))]) (st := []) rfl rfl rfl rfl ⟨rfl, rfl, Nat.le_of_ble_eq_true rfl⟩ rfl rfl (c_out (dd := d) (hd := by omega) (hW := hW37) (p := p) (a := a) (v := b) (m0 := m0) (e_m0 := show A36 72 ((2 * p)).toNat = m0 from (congrFun ((hF38.2 72 rfl).trans (hF31.2 72 rfl)) _).trans (e_m0)) (m1 := m1) (e_m1 := show A36 72 (((2 * p) + 1)).toNat = m1 from (congrFun ((hF38.2 72 rfl).trans (hF31.2 72 rfl)) _).trans (e_m1)) (rw := rw) (e_rw := show A36 64 (p).toNat = rw from (congrFun ((hF38.2 64 rfl).trans (hF31.2 64 rfl)) _).trans (e_rw)) (rn := rn) (e_rn := show A36 66 (p).toNat = rn from (congrFun ((hF38.2 66 rfl).trans (hF31.2 66 rfl)) _).trans (e_rn)) (om := om) (e_om := show G35 113 = om from ((hF38.1 113 rfl).trans ((hF31.1 113 rfl).trans (e_om))))  (h_p := ⟨(Int.le_trans (by decide : (-2147483648 : Int) ≤ -2147483648) h_p.1), (Int.le_trans h_p.2 (by decide : (2147483647 : Int) ≤ 2147483647))⟩) (h_a := ⟨(Int.le_trans (by decide : (-2147483648 : Int) ≤ -2147483648) h_a.1), (Int.le_trans h_a.2 (by decide : (2147483647 : Int) ≤ 2147483647))⟩) (h_v := ⟨(Int.le_trans (by decide : (-2147483648 : Int) ≤ -2147483648) h_b.1), (Int.le_trans h_b.2 (by decide : (2147483647 : Int) ≤ 2147483647))⟩)  (p_0 := by omega) (p_1 := by omega) (p_2 := by omega) (p_3 := by omega) (p_4 := by omega) (p_5 := by omega) (p_6 := by omega) (p_7 := by omega) (p_8 := by omega) (p_9 := by omega) (p_10 := by omega)) (fun o V_q hq => ?_)
    obtain ⟨G42, A43, om2_44, rfl, rfl, hW45, hF46, e47, p48, p49, p50, -⟩ := hq
    have hF52 := Fr_tr hF41 hF46 (Fr_sub (by decide)) (Fr_sub (by decide))
    have bom2_44 : (-2147483648 : Int) ≤ om2_44 ∧ om2_44 ≤ 2147483647 := e47 ▸ hW45.1 113
    refine .inl ⟨rfl, ?_⟩
    refine jx_go (tg := 292) rfl rfl ?_
    refine jx_rt (v := none) rfl rfl rfl rfl rfl rfl ?_
    exact ⟨_, _, om2_44, it, rfl, rfl, hW45, hF52, (e47), ((hF46.1 111 rfl).trans ((hF38.1 111 rfl).trans ((hF31.1 111 rfl).trans (e_it)))), by omega, by omega, by omega, by omega, (spR_out _ _ (by omega) p32 p39 p50), trivial⟩
  · refine jx_swe (z := 22) (tg := 98) h2 rfl rfl rfl rfl ?_
    have _q : True := trivial
    refine jx_ld (pc_q := 99) (l_q := L1) (st_q := [.ref 66]) rfl (jl_aloadn gL1_0) ?_
    refine jx_ld (pc_q := 100) (l_q := L1) (st_q := [.int (i32 (p)), .ref 66]) rfl (jl_iloadn gL1_1) ?_
    refine jx_ld (pc_q := 102) (l_q := L1) (st_q := [.int (i32 (rw)), .int (i32 (p)), .ref 66]) rfl (jl_iload gL1_5) ?_
    refine jx_ar (pc_q := 103) (st_q := [.int (i32 (3)), .int (i32 (rw)), .int (i32 (p)), .ref 66]) rfl rfl rfl rfl ?_
    refine jx_sub (pc_q := 104) rfl rfl ?_
    refine jx_ar (pc_q := 105) (st_q := [.int (i32 (1)), .int (i32 ((rw - 3))), .int (i32 (p)), .ref 66]) rfl rfl rfl rfl ?_
    refine jx_vr (pc_q := 108) (as := [.int (i32 (p)), .int (i32 ((rw - 3))), .int (i32 (1))]) (st := []) rfl rfl rfl rfl ⟨rfl, rfl, Nat.le_of_ble_eq_true rfl⟩ rfl rfl (c_store (dd := d) (hd := by omega) (hW := hW) (p := p) (a := (rw - 3)) (v := 1)   (h_p := ⟨(Int.le_trans (by decide : (-2147483648 : Int) ≤ -2147483648) h_p.1), (Int.le_trans h_p.2 (by decide : (2147483647 : Int) ≤ 2147483647))⟩) (h_a := ⟨(by omega), (by omega)⟩) (h_v := ⟨(by decide), (by decide)⟩)  (p_0 := by omega) (p_1 := by omega)) (fun o V_q hq => ?_)
    obtain ⟨G53, A54, rfl, rfl, hW55, hF56, p57, -⟩ := hq
    have hF59 := Fr_tr hF0 hF56 (Fr_sub (by decide)) (Fr_sub (by decide))
    refine .inl ⟨rfl, ?_⟩
    refine jx_ld (pc_q := 109) (l_q := L1) (st_q := [.ref 66]) rfl (jl_aloadn gL1_0) ?_
    refine jx_ld (pc_q := 110) (l_q := L1) (st_q := [.int (i32 (p)), .ref 66]) rfl (jl_iloadn gL1_1) ?_
    refine jx_ld (pc_q := 112) (l_q := L1) (st_q := [.int (i32 (rw)), .int (i32 (p)), .ref 66]) rfl (jl_iload gL1_5) ?_
    refine jx_ar (pc_q := 113) (st_q := [.int (i32 (-1)), .int (i32 (rw)), .int (i32 (p)), .ref 66]) rfl rfl rfl rfl ?_
    refine jx_vr (pc_q := 116) (as := [.int (i32 (p)), .int (i32 (rw)), .int (i32 (-1))]) (st := []) rfl rfl rfl rfl ⟨rfl, rfl, Nat.le_of_ble_eq_true rfl⟩ rfl rfl (c_store (dd := d) (hd := by omega) (hW := hW55) (p := p) (a := rw) (v := -1)   (h_p := ⟨(Int.le_trans (by decide : (-2147483648 : Int) ≤ -2147483648) h_p.1), (Int.le_trans h_p.2 (by decide : (2147483647 : Int) ≤ 2147483647))⟩) (h_a := ⟨(Int.le_trans (by decide : (-2147483648 : Int) ≤ -2147483648) b_rw.1), (Int.le_trans b_rw.2 (by decide : (2147483647 : Int) ≤ 2147483647))⟩) (h_v := ⟨(by decide), (by decide)⟩)  (p_0 := by omega) (p_1 := by omega)) (fun o V_q hq => ?_)
    obtain ⟨G60, A61, rfl, rfl, hW62, hF63, p64, -⟩ := hq
    have hF66 := Fr_tr hF59 hF63 (Fr_sub (by decide)) (Fr_sub (by decide))
    refine .inl ⟨rfl, ?_⟩
    refine jx_go (tg := 292) rfl rfl ?_
    refine jx_rt (v := none) rfl rfl rfl rfl rfl rfl ?_
    exact ⟨_, _, om, it, rfl, rfl, hW62, hF66, ((hF63.1 113 rfl).trans ((hF56.1 113 rfl).trans (e_om))), ((hF63.1 111 rfl).trans ((hF56.1 111 rfl).trans (e_it))), by omega, by omega, by omega, by omega, (spR_alts _ _ (by omega) e_rw p57 p64), trivial⟩
  · refine jx_swe (z := 23) (tg := 119) h2 rfl rfl rfl rfl ?_
    have _q : True := trivial
    refine jx_ld (pc_q := 120) (l_q := L1) (st_q := [.ref 66]) rfl (jl_aloadn gL1_0) ?_
    refine jx_ld (pc_q := 121) (l_q := L1) (st_q := [.int (i32 (p)), .ref 66]) rfl (jl_iloadn gL1_1) ?_
    refine jx_vr (pc_q := 124) (as := [.int (i32 (p))]) (st := []) rfl rfl rfl rfl ⟨rfl, rfl, Nat.le_of_ble_eq_true rfl⟩ rfl rfl (c_take (dd := d) (hd := by omega) (hW := hW) (p := p)   (h_p := ⟨(Int.le_trans (by decide : (-2147483648 : Int) ≤ -2147483648) h_p.1), (Int.le_trans h_p.2 (by decide : (2147483647 : Int) ≤ 2147483647))⟩)  (p_0 := by omega) (p_1 := by omega)) (fun o V_q hq => ?_)
    obtain ⟨G67, A68, rfl, rfl, hW69, hF70, p71, -⟩ := hq
    have hF73 := Fr_tr hF0 hF70 (Fr_sub (by decide)) (Fr_sub (by decide))
    refine .inl ⟨rfl, ?_⟩
    refine jx_ld (pc_q := 126) (l_q := L1) (st_q := [.int (i32 (b))]) rfl (jl_iload gL1_4) ?_
    refine jx_if_eq (pc_q := 129) (tg := 292) rfl rfl rfl (Int.le_trans (by decide : (-2147483648 : Int) ≤ -2147483648) h_b.1) (Int.le_trans h_b.2 (by decide : (2147483647 : Int) ≤ 2147483647)) (fun h74 => ?_) (fun h74 => ?_)
    · have _q := h74
      refine jx_rt (v := none) rfl rfl rfl rfl rfl rfl ?_
      exact ⟨_, _, om, it, rfl, rfl, hW69, hF73, ((hF70.1 113 rfl).trans (e_om)), ((hF70.1 111 rfl).trans (e_it)), by omega, by omega, by omega, by omega, (spR_enb0 (by omega) (by omega) p71), trivial⟩
    · have _q := h74
      refine jx_ld (pc_q := 130) (l_q := L1) (st_q := [.ref 66]) rfl (jl_aloadn gL1_0) ?_
      refine jx_ld (pc_q := 131) (l_q := L1) (st_q := [.int (i32 (p)), .ref 66]) rfl (jl_iloadn gL1_1) ?_
      refine jx_ld (pc_q := 132) (l_q := L1) (st_q := [.int (i32 (a)), .int (i32 (p)), .ref 66]) rfl (jl_iloadn gL1_3) ?_
      refine jx_vr (pc_q := 135) (as := [.int (i32 (p)), .int (i32 (a))]) (st := []) rfl rfl rfl rfl ⟨rfl, rfl, Nat.le_of_ble_eq_true rfl⟩ rfl rfl (c_enable (dd := d) (hd := by omega) (hW := hW69) (p := p) (c := a) (it := it) (e_it := show G67 111 = it from ((hF70.1 111 rfl).trans (e_it))) (im := im) (e_im := show G67 110 = im from ((hF70.1 110 rfl).trans (e_im))) (rw := rw) (e_rw := show A68 64 (p).toNat = rw from (congrFun (hF70.2 64 rfl) _).trans (e_rw))  (h_p := ⟨(Int.le_trans (by decide : (-2147483648 : Int) ≤ -2147483648) h_p.1), (Int.le_trans h_p.2 (by decide : (2147483647 : Int) ≤ 2147483647))⟩) (h_c := ⟨(Int.le_trans (by decide : (-2147483648 : Int) ≤ -2147483648) h_a.1), (Int.le_trans h_a.2 (by decide : (2147483647 : Int) ≤ 2147483647))⟩)  (p_0 := by omega) (p_1 := by omega) (p_2 := by omega) (p_3 := by omega)) (fun o V_q hq => ?_)
      obtain ⟨G75, A76, rfl, rfl, hW77, hF78, p79, -⟩ := hq
      have hF81 := Fr_tr hF73 hF78 (Fr_sub (by decide)) (Fr_sub (by decide))
      refine .inl ⟨rfl, ?_⟩
      refine jx_go (tg := 292) rfl rfl ?_
      refine jx_rt (v := none) rfl rfl rfl rfl rfl rfl ?_
      exact ⟨_, _, om, it, rfl, rfl, hW77, hF81, ((hF78.1 113 rfl).trans ((hF70.1 113 rfl).trans (e_om))), ((hF78.1 111 rfl).trans ((hF70.1 111 rfl).trans (e_it))), by omega, by omega, by omega, by omega, (spR_enb1 _ (by omega) (by omega) p71 p79), trivial⟩
  · refine jx_swe (z := 24) (tg := 138) h2 rfl rfl rfl rfl ?_
    have _q : True := trivial
    refine jx_ld (pc_q := 139) (l_q := L1) (st_q := [.int (i32 (a))]) rfl (jl_iloadn gL1_3) ?_
    refine jx_if_eq (pc_q := 142) (tg := 292) rfl rfl rfl (Int.le_trans (by decide : (-2147483648 : Int) ≤ -2147483648) h_a.1) (Int.le_trans h_a.2 (by decide : (2147483647 : Int) ≤ 2147483647)) (fun h82 => ?_) (fun h82 => ?_)
    · have _q := h82
      refine jx_rt (v := none) rfl rfl rfl rfl rfl rfl ?_
      exact ⟨_, _, om, it, rfl, rfl, hW, hF0, (e_om), (e_it), by omega, by omega, by omega, by omega, (spR_ens0 (by omega) (by omega) rfl), trivial⟩
    · have _q := h82
      refine jx_ld (pc_q := 143) (l_q := L1) (st_q := [.ref 66]) rfl (jl_aloadn gL1_0) ?_
      refine jx_ld (pc_q := 144) (l_q := L1) (st_q := [.int (i32 (p)), .ref 66]) rfl (jl_iloadn gL1_1) ?_
      refine jx_ld (pc_q := 146) (l_q := L1) (st_q := [.int (i32 (rw)), .int (i32 (p)), .ref 66]) rfl (jl_iload gL1_5) ?_
      refine jx_ar (pc_q := 147) (st_q := [.int (i32 (3)), .int (i32 (rw)), .int (i32 (p)), .ref 66]) rfl rfl rfl rfl ?_
      refine jx_sub (pc_q := 148) rfl rfl ?_
      refine jx_ar (pc_q := 149) (st_q := [.int (i32 (3)), .int (i32 ((rw - 3))), .int (i32 (p)), .ref 66]) rfl rfl rfl rfl ?_
      refine jx_vr (pc_q := 152) (as := [.int (i32 (p)), .int (i32 ((rw - 3))), .int (i32 (3))]) (st := []) rfl rfl rfl rfl ⟨rfl, rfl, Nat.le_of_ble_eq_true rfl⟩ rfl rfl (c_store (dd := d) (hd := by omega) (hW := hW) (p := p) (a := (rw - 3)) (v := 3)   (h_p := ⟨(Int.le_trans (by decide : (-2147483648 : Int) ≤ -2147483648) h_p.1), (Int.le_trans h_p.2 (by decide : (2147483647 : Int) ≤ 2147483647))⟩) (h_a := ⟨(by omega), (by omega)⟩) (h_v := ⟨(by decide), (by decide)⟩)  (p_0 := by omega) (p_1 := by omega)) (fun o V_q hq => ?_)
      obtain ⟨G83, A84, rfl, rfl, hW85, hF86, p87, -⟩ := hq
      have hF89 := Fr_tr hF0 hF86 (Fr_sub (by decide)) (Fr_sub (by decide))
      refine .inl ⟨rfl, ?_⟩
      refine jx_go (tg := 292) rfl rfl ?_
      refine jx_rt (v := none) rfl rfl rfl rfl rfl rfl ?_
      exact ⟨_, _, om, it, rfl, rfl, hW85, hF89, ((hF86.1 113 rfl).trans (e_om)), ((hF86.1 111 rfl).trans (e_it)), by omega, by omega, by omega, by omega, (spR_ens1 _ (by omega) e_rw (by omega) p87), trivial⟩
  · refine jx_swe (z := 25) (tg := 155) h2 rfl rfl rfl rfl ?_
    have _q : True := trivial
    refine jx_ld (pc_q := 156) (l_q := L1) (st_q := [.ref 66]) rfl (jl_aloadn gL1_0) ?_
    refine jx_ld (pc_q := 157) (l_q := L1) (st_q := [.int (i32 (p)), .ref 66]) rfl (jl_iloadn gL1_1) ?_
    refine jx_ld (pc_q := 159) (l_q := L1) (st_q := [.int (i32 (rw)), .int (i32 (p)), .ref 66]) rfl (jl_iload gL1_5) ?_
    refine jx_ar (pc_q := 160) (st_q := [.int (i32 (3)), .int (i32 (rw)), .int (i32 (p)), .ref 66]) rfl rfl rfl rfl ?_
    refine jx_sub (pc_q := 161) rfl rfl ?_
    refine jx_vr (pc_q := 164) (as := [.int (i32 (p)), .int (i32 ((rw - 3)))]) (st := []) rfl rfl rfl rfl ⟨rfl, rfl, Nat.le_of_ble_eq_true rfl⟩ rfl rfl (c_load (dd := d) (hd := by omega) (hW := hW) (p := p) (a := (rw - 3))   (h_p := ⟨(Int.le_trans (by decide : (-2147483648 : Int) ≤ -2147483648) h_p.1), (Int.le_trans h_p.2 (by decide : (2147483647 : Int) ≤ 2147483647))⟩) (h_a := ⟨(by omega), (by omega)⟩)  (p_0 := by omega) (p_1 := by omega)) (fun o V_q hq => ?_)
    obtain ⟨r90, rfl, rfl, b91, p92, -⟩ := hq
    refine .inr ⟨_, rfl, ?_⟩
    refine jx_ar (pc_q := 165) (st_q := [.int (i32 (3)), .int (i32 (r90))]) rfl rfl rfl rfl ?_
    refine jx_icmp_eq (pc_q := 168) (tg := 292) rfl rfl rfl (Int.le_trans (by decide : (-2147483648 : Int) ≤ -2147483648) b91.1) (Int.le_trans b91.2 (by decide : (2147483647 : Int) ≤ 2147483647)) (by decide) (by decide) (fun h94 => ?_) (fun h94 => ?_)
    · have _q := h94
      refine jx_rt (v := none) rfl rfl rfl rfl rfl rfl ?_
      exact ⟨_, _, om, it, rfl, rfl, hW, hF0, (e_om), (e_it), by omega, by omega, by omega, by omega, (spR_awt0 _ _ (by omega) e_rw p92 (by omega) rfl), trivial⟩
    · have _q := h94
      refine jx_ld (pc_q := 169) (l_q := L1) (st_q := [.ref 66]) rfl (jl_aloadn gL1_0) ?_
      refine jx_ld (pc_q := 170) (l_q := L1) (st_q := [.int (i32 (p)), .ref 66]) rfl (jl_iloadn gL1_1) ?_
      refine jx_ld (pc_q := 172) (l_q := L1) (st_q := [.int (i32 (rw)), .int (i32 (p)), .ref 66]) rfl (jl_iload gL1_5) ?_
      refine jx_ar (pc_q := 173) (st_q := [.int (i32 (3)), .int (i32 (rw)), .int (i32 (p)), .ref 66]) rfl rfl rfl rfl ?_
      refine jx_sub (pc_q := 174) rfl rfl ?_
      refine jx_ar (pc_q := 175) (st_q := [.int (i32 (2)), .int (i32 ((rw - 3))), .int (i32 (p)), .ref 66]) rfl rfl rfl rfl ?_
      refine jx_vr (pc_q := 178) (as := [.int (i32 (p)), .int (i32 ((rw - 3))), .int (i32 (2))]) (st := []) rfl rfl rfl rfl ⟨rfl, rfl, Nat.le_of_ble_eq_true rfl⟩ rfl rfl (c_store (dd := d) (hd := by omega) (hW := hW) (p := p) (a := (rw - 3)) (v := 2)   (h_p := ⟨(Int.le_trans (by decide : (-2147483648 : Int) ≤ -2147483648) h_p.1), (Int.le_trans h_p.2 (by decide : (2147483647 : Int) ≤ 2147483647))⟩) (h_a := ⟨(by omega), (by omega)⟩) (h_v := ⟨(by decide), (by decide)⟩)  (p_0 := by omega) (p_1 := by omega)) (fun o V_q hq => ?_)
      obtain ⟨G95, A96, rfl, rfl, hW97, hF98, p99, -⟩ := hq
      have hF101 := Fr_tr hF0 hF98 (Fr_sub (by decide)) (Fr_sub (by decide))
      refine .inl ⟨rfl, ?_⟩
      have hk102 : A96 64 (p).toNat = rw := (congrFun (hF98.2 64 rfl) _).trans (e_rw)
      refine jx_ld (pc_q := 179) (l_q := L1) (st_q := [.ref 66]) rfl (jl_aloadn gL1_0) ?_
      refine jx_ld (pc_q := 180) (l_q := L1) (st_q := [.int (i32 (p)), .ref 66]) rfl (jl_iloadn gL1_1) ?_
      refine jx_vr (pc_q := 183) (as := [.int (i32 (p))]) (st := []) rfl rfl rfl rfl ⟨rfl, rfl, Nat.le_of_ble_eq_true rfl⟩ rfl rfl (c_wait0 (dd := d) (hd := by omega) (hW := hW97) (p := p)   (h_p := ⟨(Int.le_trans (by decide : (-2147483648 : Int) ≤ -2147483648) h_p.1), (Int.le_trans h_p.2 (by decide : (2147483647 : Int) ≤ 2147483647))⟩)  (p_0 := by omega) (p_1 := by omega) (p_2 := by omega)) (fun o V_q hq => ?_)
      obtain ⟨G103, A104, rfl, rfl, hW105, hF106, p107, -⟩ := hq
      have hF109 := Fr_tr hF101 hF106 (Fr_sub (by decide)) (Fr_sub (by decide))
      refine .inl ⟨rfl, ?_⟩
      refine jx_go (tg := 292) rfl rfl ?_
      refine jx_rt (v := none) rfl rfl rfl rfl rfl rfl ?_
      exact ⟨_, _, om, it, rfl, rfl, hW105, hF109, ((hF106.1 113 rfl).trans ((hF98.1 113 rfl).trans (e_om))), ((hF106.1 111 rfl).trans ((hF98.1 111 rfl).trans (e_it))), by omega, by omega, by omega, by omega, (spR_awt1 _ _ _ (by omega) e_rw p92 (by omega) p99 p107), trivial⟩
  · refine jx_swe (z := 26) (tg := 186) h2 rfl rfl rfl rfl ?_
    have _q : True := trivial
    refine jx_ld (pc_q := 187) (l_q := L1) (st_q := [.ref 66]) rfl (jl_aloadn gL1_0) ?_
    refine jr_get (pc_q := 190) (i := 93) (v := .ref 129) rfl rfl (by decide) rfl rfl ?_
    refine jx_ld (pc_q := 191) (l_q := L1) (st_q := [.int (i32 (p)), .ref 129]) rfl (jl_iloadn gL1_1) ?_
    refine jr_ldv (pc_q := 192) (i := 62) (m := 6) (z := p) (y := rc) rfl (by decide) rfl (by decide) (by omega) (by omega) rfl (show A 62 (p).toNat = rc from (e_rc)) ?_
    refine jx_ld (pc_q := 194) (l_q := jSto1 L1 6 (.int (i32 (rc)))) (st_q := []) rfl rfl ?_
    obtain ⟨L110, eL110⟩ : ∃ q, q = jSto1 L1 6 (.int (i32 (rc))) := ⟨_, rfl⟩
    rw [← eL110]
    have gL110_0 : jGet L110 0 = some (.ref 66) := eL110 ▸ jg_ne (by decide) gL1_0 rfl
    have gL110_1 : jGet L110 1 = some (.int (i32 (p))) := eL110 ▸ jg_ne (by decide) gL1_1 rfl
    have gL110_2 : jGet L110 2 = some (.int (i32 (op1))) := eL110 ▸ jg_ne (by decide) gL1_2 rfl
    have gL110_3 : jGet L110 3 = some (.int (i32 (a))) := eL110 ▸ jg_ne (by decide) gL1_3 rfl
    have gL110_4 : jGet L110 4 = some (.int (i32 (b))) := eL110 ▸ jg_ne (by decide) gL1_4 rfl
    have gL110_5 : jGet L110 5 = some (.int (i32 (rw))) := eL110 ▸ jg_ne (by decide) gL1_5 rfl
    have gL110_6 : jGet L110 6 = some (.int (i32 (rc))) := eL110 ▸ jg_eq
    refine jx_ld (pc_q := 195) (l_q := L110) (st_q := [.ref 66]) rfl (jl_aloadn gL110_0) ?_
    refine jx_ld (pc_q := 196) (l_q := L110) (st_q := [.int (i32 (p)), .ref 66]) rfl (jl_iloadn gL110_1) ?_
    refine jx_vr (pc_q := 199) (as := [.int (i32 (p))]) (st := []) rfl rfl rfl rfl ⟨rfl, rfl, Nat.le_of_ble_eq_true rfl⟩ rfl rfl (c_take (dd := d) (hd := by omega) (hW := hW) (p := p)   (h_p := ⟨(Int.le_trans (by decide : (-2147483648 : Int) ≤ -2147483648) h_p.1), (Int.le_trans h_p.2 (by decide : (2147483647 : Int) ≤ 2147483647))⟩)  (p_0 := by omega) (p_1 := by omega)) (fun o V_q hq => ?_)
    obtain ⟨G111, A112, rfl, rfl, hW113, hF114, p115, -⟩ := hq
    have hF117 := Fr_tr hF0 hF114 (Fr_sub (by decide)) (Fr_sub (by decide))
    refine .inl ⟨rfl, ?_⟩
    refine jx_ld (pc_q := 200) (l_q := L110) (st_q := [.ref 66]) rfl (jl_aloadn gL110_0) ?_
    refine jx_ld (pc_q := 201) (l_q := L110) (st_q := [.int (i32 (p)), .ref 66]) rfl (jl_iloadn gL110_1) ?_
    refine jx_vr (pc_q := 204) (as := [.int (i32 (p))]) (st := []) rfl rfl rfl rfl ⟨rfl, rfl, Nat.le_of_ble_eq_true rfl⟩ rfl rfl (c_take (dd := d) (hd := by omega) (hW := hW113) (p := p)   (h_p := ⟨(Int.le_trans (by decide : (-2147483648 : Int) ≤ -2147483648) h_p.1), (Int.le_trans h_p.2 (by decide : (2147483647 : Int) ≤ 2147483647))⟩)  (p_0 := by omega) (p_1 := by omega)) (fun o V_q hq => ?_)
    obtain ⟨G118, A119, rfl, rfl, hW120, hF121, p122, -⟩ := hq
    have hF124 := Fr_tr hF117 hF121 (Fr_sub (by decide)) (Fr_sub (by decide))
    refine .inl ⟨rfl, ?_⟩
    refine jx_ld (pc_q := 205) (l_q := L110) (st_q := [.ref 66]) rfl (jl_aloadn gL110_0) ?_
    refine jx_ld (pc_q := 206) (l_q := L110) (st_q := [.int (i32 (p)), .ref 66]) rfl (jl_iloadn gL110_1) ?_
    refine jx_vr (pc_q := 209) (as := [.int (i32 (p))]) (st := []) rfl rfl rfl rfl ⟨rfl, rfl, Nat.le_of_ble_eq_true rfl⟩ rfl rfl (c_take (dd := d) (hd := by omega) (hW := hW120) (p := p)   (h_p := ⟨(Int.le_trans (by decide : (-2147483648 : Int) ≤ -2147483648) h_p.1), (Int.le_trans h_p.2 (by decide : (2147483647 : Int) ≤ 2147483647))⟩)  (p_0 := by omega) (p_1 := by omega)) (fun o V_q hq => ?_)
    obtain ⟨G125, A126, rfl, rfl, hW127, hF128, p129, -⟩ := hq
    have hF131 := Fr_tr hF124 hF128 (Fr_sub (by decide)) (Fr_sub (by decide))
    refine .inl ⟨rfl, ?_⟩
    refine jx_ld (pc_q := 211) (l_q := L110) (st_q := [.int (i32 (b))]) rfl (jl_iload gL110_4) ?_
    refine jx_if_eq (pc_q := 214) (tg := 292) rfl rfl rfl (Int.le_trans (by decide : (-2147483648 : Int) ≤ -2147483648) h_b.1) (Int.le_trans h_b.2 (by decide : (2147483647 : Int) ≤ 2147483647)) (fun h132 => ?_) (fun h132 => ?_)
    · have _q := h132
      refine jx_rt (v := none) rfl rfl rfl rfl rfl rfl ?_
      exact ⟨_, _, om, it, rfl, rfl, hW127, hF131, ((hF128.1 113 rfl).trans ((hF121.1 113 rfl).trans ((hF114.1 113 rfl).trans (e_om)))), ((hF128.1 111 rfl).trans ((hF121.1 111 rfl).trans ((hF114.1 111 rfl).trans (e_it)))), by omega, by omega, by omega, by omega, (spR_dis0 _ _ (by omega) (by omega) p115 p122 p129), trivial⟩
    · have _q := h132
      refine jx_ld (pc_q := 215) (l_q := L110) (st_q := [.ref 66]) rfl (jl_aloadn gL110_0) ?_
      refine jx_ld (pc_q := 216) (l_q := L110) (st_q := [.int (i32 (p)), .ref 66]) rfl (jl_iloadn gL110_1) ?_
      refine jx_ld (pc_q := 217) (l_q := L110) (st_q := [.int (i32 (a)), .int (i32 (p)), .ref 66]) rfl (jl_iloadn gL110_3) ?_
      refine jx_ld (pc_q := 219) (l_q := L110) (st_q := [.int (i32 (rc)), .int (i32 (a)), .int (i32 (p)), .ref 66]) rfl (jl_iload gL110_6) ?_
      refine jx_vr (pc_q := 222) (as := [.int (i32 (p)), .int (i32 (a)), .int (i32 (rc))]) (st := []) rfl rfl rfl rfl ⟨rfl, rfl, Nat.le_of_ble_eq_true rfl⟩ rfl rfl (c_disable (dd := d) (hd := by omega) (hW := hW127) (p := p) (c := a) (v := rc) (it := it) (e_it := show G125 111 = it from ((hF128.1 111 rfl).trans ((hF121.1 111 rfl).trans ((hF114.1 111 rfl).trans (e_it))))) (im := im) (e_im := show G125 110 = im from ((hF128.1 110 rfl).trans ((hF121.1 110 rfl).trans ((hF114.1 110 rfl).trans (e_im))))) (rw := rw) (e_rw := show A126 64 (p).toNat = rw from (congrFun ((hF128.2 64 rfl).trans ((hF121.2 64 rfl).trans (hF114.2 64 rfl))) _).trans (e_rw))  (h_p := ⟨(Int.le_trans (by decide : (-2147483648 : Int) ≤ -2147483648) h_p.1), (Int.le_trans h_p.2 (by decide : (2147483647 : Int) ≤ 2147483647))⟩) (h_c := ⟨(Int.le_trans (by decide : (-2147483648 : Int) ≤ -2147483648) h_a.1), (Int.le_trans h_a.2 (by decide : (2147483647 : Int) ≤ 2147483647))⟩) (h_v := ⟨(Int.le_trans (by decide : (-2147483648 : Int) ≤ -2147483648) b_rc.1), (Int.le_trans b_rc.2 (by decide : (2147483647 : Int) ≤ 2147483647))⟩)  (p_0 := by omega) (p_1 := by omega)) (fun o V_q hq => ?_)
      obtain ⟨G133, A134, rfl, rfl, hW135, hF136, p137, -⟩ := hq
      have hF139 := Fr_tr hF131 hF136 (Fr_sub (by decide)) (Fr_sub (by decide))
      refine .inl ⟨rfl, ?_⟩
      refine jx_go (tg := 292) rfl rfl ?_
      refine jx_rt (v := none) rfl rfl rfl rfl rfl rfl ?_
      exact ⟨_, _, om, it, rfl, rfl, hW135, hF139, ((hF136.1 113 rfl).trans ((hF128.1 113 rfl).trans ((hF121.1 113 rfl).trans ((hF114.1 113 rfl).trans (e_om))))), ((hF136.1 111 rfl).trans ((hF128.1 111 rfl).trans ((hF121.1 111 rfl).trans ((hF114.1 111 rfl).trans (e_it))))), by omega, by omega, by omega, by omega, (spR_dis1 _ _ _ _ (by omega) (by omega) e_rc p115 p122 p129 p137), trivial⟩
  · refine jx_swe (z := 27) (tg := 225) h2 rfl rfl rfl rfl ?_
    have _q : True := trivial
    refine jx_ld (pc_q := 226) (l_q := L1) (st_q := [.ref 66]) rfl (jl_aloadn gL1_0) ?_
    refine jx_ld (pc_q := 227) (l_q := L1) (st_q := [.int (i32 (p)), .ref 66]) rfl (jl_iloadn gL1_1) ?_
    refine jx_vr (pc_q := 230) (as := [.int (i32 (p))]) (st := []) rfl rfl rfl rfl ⟨rfl, rfl, Nat.le_of_ble_eq_true rfl⟩ rfl rfl (c_take (dd := d) (hd := by omega) (hW := hW) (p := p)   (h_p := ⟨(Int.le_trans (by decide : (-2147483648 : Int) ≤ -2147483648) h_p.1), (Int.le_trans h_p.2 (by decide : (2147483647 : Int) ≤ 2147483647))⟩)  (p_0 := by omega) (p_1 := by omega)) (fun o V_q hq => ?_)
    obtain ⟨G140, A141, rfl, rfl, hW142, hF143, p144, -⟩ := hq
    have hF146 := Fr_tr hF0 hF143 (Fr_sub (by decide)) (Fr_sub (by decide))
    refine .inl ⟨rfl, ?_⟩
    refine jx_ld (pc_q := 231) (l_q := L1) (st_q := [.ref 66]) rfl (jl_aloadn gL1_0) ?_
    refine jx_ld (pc_q := 232) (l_q := L1) (st_q := [.int (i32 (p)), .ref 66]) rfl (jl_iloadn gL1_1) ?_
    refine jx_vr (pc_q := 235) (as := [.int (i32 (p))]) (st := []) rfl rfl rfl rfl ⟨rfl, rfl, Nat.le_of_ble_eq_true rfl⟩ rfl rfl (c_take (dd := d) (hd := by omega) (hW := hW142) (p := p)   (h_p := ⟨(Int.le_trans (by decide : (-2147483648 : Int) ≤ -2147483648) h_p.1), (Int.le_trans h_p.2 (by decide : (2147483647 : Int) ≤ 2147483647))⟩)  (p_0 := by omega) (p_1 := by omega)) (fun o V_q hq => ?_)
    obtain ⟨G147, A148, rfl, rfl, hW149, hF150, p151, -⟩ := hq
    have hF153 := Fr_tr hF146 hF150 (Fr_sub (by decide)) (Fr_sub (by decide))
    refine .inl ⟨rfl, ?_⟩
    refine jx_ld (pc_q := 236) (l_q := L1) (st_q := [.int (i32 (a))]) rfl (jl_iloadn gL1_3) ?_
    refine jx_if_eq (pc_q := 239) (tg := 292) rfl rfl rfl (Int.le_trans (by decide : (-2147483648 : Int) ≤ -2147483648) h_a.1) (Int.le_trans h_a.2 (by decide : (2147483647 : Int) ≤ 2147483647)) (fun h154 => ?_) (fun h154 => ?_)
    · have _q := h154
      refine jx_rt (v := none) rfl rfl rfl rfl rfl rfl ?_
      exact ⟨_, _, om, it, rfl, rfl, hW149, hF153, ((hF150.1 113 rfl).trans ((hF143.1 113 rfl).trans (e_om))), ((hF150.1 111 rfl).trans ((hF143.1 111 rfl).trans (e_it))), by omega, by omega, by omega, by omega, (spR_dss0 _ (by omega) p144 p151), trivial⟩
    · have _q := h154
      refine jx_ld (pc_q := 240) (l_q := L1) (st_q := [.ref 66]) rfl (jl_aloadn gL1_0) ?_
      refine jx_ld (pc_q := 241) (l_q := L1) (st_q := [.int (i32 (p)), .ref 66]) rfl (jl_iloadn gL1_1) ?_
      refine jx_ld (pc_q := 243) (l_q := L1) (st_q := [.int (i32 (rw)), .int (i32 (p)), .ref 66]) rfl (jl_iload gL1_5) ?_
      refine jx_vr (pc_q := 246) (as := [.int (i32 (p)), .int (i32 (rw))]) (st := []) rfl rfl rfl rfl ⟨rfl, rfl, Nat.le_of_ble_eq_true rfl⟩ rfl rfl (c_load (dd := d) (hd := by omega) (hW := hW149) (p := p) (a := rw)   (h_p := ⟨(Int.le_trans (by decide : (-2147483648 : Int) ≤ -2147483648) h_p.1), (Int.le_trans h_p.2 (by decide : (2147483647 : Int) ≤ 2147483647))⟩) (h_a := ⟨(Int.le_trans (by decide : (-2147483648 : Int) ≤ -2147483648) b_rw.1), (Int.le_trans b_rw.2 (by decide : (2147483647 : Int) ≤ 2147483647))⟩)  (p_0 := by omega) (p_1 := by omega)) (fun o V_q hq => ?_)
      obtain ⟨r155, rfl, rfl, b156, p157, -⟩ := hq
      refine .inr ⟨_, rfl, ?_⟩
      refine jx_ar (pc_q := 247) (st_q := [.int (i32 (-1)), .int (i32 (r155))]) rfl rfl rfl rfl ?_
      refine jx_icmp_ne (pc_q := 250) (tg := 292) rfl rfl rfl (Int.le_trans (by decide : (-2147483648 : Int) ≤ -2147483648) b156.1) (Int.le_trans b156.2 (by decide : (2147483647 : Int) ≤ 2147483647)) (by decide) (by decide) (fun h159 => ?_) (fun h159 => ?_)
      · have _q := h159
        refine jx_rt (v := none) rfl rfl rfl rfl rfl rfl ?_
        exact ⟨_, _, om, it, rfl, rfl, hW149, hF153, ((hF150.1 113 rfl).trans ((hF143.1 113 rfl).trans (e_om))), ((hF150.1 111 rfl).trans ((hF143.1 111 rfl).trans (e_it))), by omega, by omega, by omega, by omega, (spR_dss0 _ (by omega) p144 p151), trivial⟩
      · have _q := h159
        refine jx_ld (pc_q := 251) (l_q := L1) (st_q := [.ref 66]) rfl (jl_aloadn gL1_0) ?_
        refine jx_ld (pc_q := 252) (l_q := L1) (st_q := [.int (i32 (p)), .ref 66]) rfl (jl_iloadn gL1_1) ?_
        refine jx_ld (pc_q := 254) (l_q := L1) (st_q := [.int (i32 (rw)), .int (i32 (p)), .ref 66]) rfl (jl_iload gL1_5) ?_
        refine jx_ld (pc_q := 256) (l_q := L1) (st_q := [.int (i32 (b)), .int (i32 (rw)), .int (i32 (p)), .ref 66]) rfl (jl_iload gL1_4) ?_
        refine jx_vr (pc_q := 259) (as := [.int (i32 (p)), .int (i32 (rw)), .int (i32 (b))]) (st := []) rfl rfl rfl rfl ⟨rfl, rfl, Nat.le_of_ble_eq_true rfl⟩ rfl rfl (c_store (dd := d) (hd := by omega) (hW := hW149) (p := p) (a := rw) (v := b)   (h_p := ⟨(Int.le_trans (by decide : (-2147483648 : Int) ≤ -2147483648) h_p.1), (Int.le_trans h_p.2 (by decide : (2147483647 : Int) ≤ 2147483647))⟩) (h_a := ⟨(Int.le_trans (by decide : (-2147483648 : Int) ≤ -2147483648) b_rw.1), (Int.le_trans b_rw.2 (by decide : (2147483647 : Int) ≤ 2147483647))⟩) (h_v := ⟨(Int.le_trans (by decide : (-2147483648 : Int) ≤ -2147483648) h_b.1), (Int.le_trans h_b.2 (by decide : (2147483647 : Int) ≤ 2147483647))⟩)  (p_0 := by omega) (p_1 := by omega)) (fun o V_q hq => ?_)
        obtain ⟨G160, A161, rfl, rfl, hW162, hF163, p164, -⟩ := hq
        have hF166 := Fr_tr hF153 hF163 (Fr_sub (by decide)) (Fr_sub (by decide))
        refine .inl ⟨rfl, ?_⟩
        refine jx_go (tg := 292) rfl rfl ?_
        refine jx_rt (v := none) rfl rfl rfl rfl rfl rfl ?_
        exact ⟨_, _, om, it, rfl, rfl, hW162, hF166, ((hF163.1 113 rfl).trans ((hF150.1 113 rfl).trans ((hF143.1 113 rfl).trans (e_om)))), ((hF163.1 111 rfl).trans ((hF150.1 111 rfl).trans ((hF143.1 111 rfl).trans (e_it)))), by omega, by omega, by omega, by omega, (spR_dss1 _ _ _ _ (by omega) e_rw p144 p151 p157 (by omega) p164), trivial⟩
  · refine jx_swt (tg := 262) (by omega) (by omega) rfl h2 rfl ?_
    have _q : True := trivial
    refine jx_ld (pc_q := 263) (l_q := L1) (st_q := [.ref 66]) rfl (jl_aloadn gL1_0) ?_
    refine jx_ld (pc_q := 264) (l_q := L1) (st_q := [.int (i32 (p)), .ref 66]) rfl (jl_iloadn gL1_1) ?_
    refine jx_ld (pc_q := 266) (l_q := L1) (st_q := [.int (i32 (rw)), .int (i32 (p)), .ref 66]) rfl (jl_iload gL1_5) ?_
    refine jx_ar (pc_q := 267) (st_q := [.int (i32 (3)), .int (i32 (rw)), .int (i32 (p)), .ref 66]) rfl rfl rfl rfl ?_
    refine jx_sub (pc_q := 268) rfl rfl ?_
    refine jx_ar (pc_q := 269) (st_q := [.int (i32 (0)), .int (i32 ((rw - 3))), .int (i32 (p)), .ref 66]) rfl rfl rfl rfl ?_
    refine jx_vr (pc_q := 272) (as := [.int (i32 (p)), .int (i32 ((rw - 3))), .int (i32 (0))]) (st := []) rfl rfl rfl rfl ⟨rfl, rfl, Nat.le_of_ble_eq_true rfl⟩ rfl rfl (c_store (dd := d) (hd := by omega) (hW := hW) (p := p) (a := (rw - 3)) (v := 0)   (h_p := ⟨(Int.le_trans (by decide : (-2147483648 : Int) ≤ -2147483648) h_p.1), (Int.le_trans h_p.2 (by decide : (2147483647 : Int) ≤ 2147483647))⟩) (h_a := ⟨(by omega), (by omega)⟩) (h_v := ⟨(by decide), (by decide)⟩)  (p_0 := by omega) (p_1 := by omega)) (fun o V_q hq => ?_)
    obtain ⟨G167, A168, rfl, rfl, hW169, hF170, p171, -⟩ := hq
    have hF173 := Fr_tr hF0 hF170 (Fr_sub (by decide)) (Fr_sub (by decide))
    refine .inl ⟨rfl, ?_⟩
    refine jx_ld (pc_q := 273) (l_q := L1) (st_q := [.ref 66]) rfl (jl_aloadn gL1_0) ?_
    refine jr_get (pc_q := 276) (i := 94) (v := .ref 130) rfl rfl (by decide) rfl rfl ?_
    refine jx_ld (pc_q := 277) (l_q := L1) (st_q := [.int (i32 (p)), .ref 130]) rfl (jl_iloadn gL1_1) ?_
    refine jx_ld (pc_q := 278) (l_q := L1) (st_q := [.ref 66, .int (i32 (p)), .ref 130]) rfl (jl_aloadn gL1_0) ?_
    refine jr_get (pc_q := 281) (i := 94) (v := .ref 130) rfl rfl (by decide) rfl rfl ?_
    refine jx_ld (pc_q := 282) (l_q := L1) (st_q := [.int (i32 (p)), .ref 130, .int (i32 (p)), .ref 130]) rfl (jl_iloadn gL1_1) ?_
    refine jr_ldv (pc_q := 283) (i := 63) (m := 6) (z := p) (y := ri) rfl (by decide) rfl (by decide) (by omega) (by omega) rfl (show A168 63 (p).toNat = ri from (congrFun (hF170.2 63 rfl) _).trans (e_ri)) ?_
    refine jx_ld (pc_q := 284) (l_q := L1) (st_q := [.ref 66, .int (i32 (ri)), .int (i32 (p)), .ref 130]) rfl (jl_aloadn gL1_0) ?_
    refine jx_ld (pc_q := 285) (l_q := L1) (st_q := [.int (i32 (p)), .ref 66, .int (i32 (ri)), .int (i32 (p)), .ref 130]) rfl (jl_iloadn gL1_1) ?_
    refine jx_ld (pc_q := 287) (l_q := L1) (st_q := [.int (i32 (rw)), .int (i32 (p)), .ref 66, .int (i32 (ri)), .int (i32 (p)), .ref 130]) rfl (jl_iload gL1_5) ?_
    refine jx_vr (pc_q := 290) (as := [.int (i32 (p)), .int (i32 (rw))]) (st := [.int (i32 (ri)), .int (i32 (p)), .ref 130]) rfl rfl rfl rfl ⟨rfl, rfl, Nat.le_of_ble_eq_true rfl⟩ rfl rfl (c_load (dd := d) (hd := by omega) (hW := hW169) (p := p) (a := rw)   (h_p := ⟨(Int.le_trans (by decide : (-2147483648 : Int) ≤ -2147483648) h_p.1), (Int.le_trans h_p.2 (by decide : (2147483647 : Int) ≤ 2147483647))⟩) (h_a := ⟨(Int.le_trans (by decide : (-2147483648 : Int) ≤ -2147483648) b_rw.1), (Int.le_trans b_rw.2 (by decide : (2147483647 : Int) ≤ 2147483647))⟩)  (p_0 := by omega) (p_1 := by omega)) (fun o V_q hq => ?_)
    obtain ⟨r174, rfl, rfl, b175, p176, -⟩ := hq
    refine .inr ⟨_, rfl, ?_⟩
    refine jx_add (pc_q := 291) rfl rfl ?_
    obtain ⟨v178, ev178⟩ : ∃ z, z = (i32 (ri + r174)).toInt := ⟨_, rfl⟩; have fv178 : i32 (ri + r174) = i32 v178 := (by rw [ev178]; exact (i32_of _).symm); rw [fv178]; have rv178 : (-2147483648 : Int) ≤ v178 ∧ v178 ≤ 2147483647 := ev178 ▸ i32_rg _
    refine jr_st (pc_q := 292) (i := 63) (m := 6) (z := p) (y := v178) rfl (by decide) rfl (by decide) (by omega) (by omega) rfl ?_
    have hW180 : Wk G167 (uA A168 63 (p).toNat (v178)) := Wk_a hW169 (show (-2147483648 : Int) ≤ v178 by omega) (show v178 ≤ (2147483647 : Int) by omega)
    have hF181 := Fr_a (z := v178) (k := 63) (n := (p).toNat) hF173 (by decide)
    obtain ⟨A179, eA179⟩ : ∃ q, q = uA A168 63 (p).toNat (v178) := ⟨_, rfl⟩
    rw [← eA179]
    rw [← eA179] at hW180 hF181
    have q182 : A179 63 (p).toNat = v178 := by rw [eA179]; exact uA_eq
    refine jx_rt (v := none) rfl rfl rfl rfl rfl rfl ?_
    exact ⟨_, _, om, it, rfl, rfl, hW180, hF181, ((hF170.1 113 rfl).trans (e_om)), ((hF170.1 111 rfl).trans (e_it)), by omega, by omega, by omega, by omega, (spR_aend _ _ _ _ (by omega) e_rw e_ri p171 p176 (eA179.trans (by rw [ev178]))), trivial⟩
