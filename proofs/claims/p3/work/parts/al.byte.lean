/-- rows that are short enough, W in reach -/
def Gb (A : Nat → Nat → Int) (p : Int) : Prop := 0 ≤ A 72 (2 * p).toNat ∧ A 72 (2 * p).toNat ≤ 1099 ∧ 0 ≤ A 72 (2 * p + 1).toNat ∧ A 72 (2 * p + 1).toNat ≤ 1099 ∧ (A 66 p.toNat = -1 ∨ (-1000000 ≤ A 64 p.toNat ∧ A 64 p.toNat ≤ 1000000))
/-- one byte, before the next process is looked for -/
def obR (A A_q : Nat → Nat → Int) (it im om p : Int) : Prop :=
  (∃ ri ro b x1 x2 fn q o v : Int, ∃ A1 A2 A3 : Nat → Nat → Int, (A 63 p.toNat = ri) ∧ (A 65 p.toNat = ro) ∧ (A 53 (6000 * p + ri).toNat = b) ∧ (A1 = uA A 63 p.toNat (ri + 1)) ∧ (A2 = uA A1 69 p.toNat x1) ∧ (A3 = uA A2 70 p.toNat x2) ∧ (fn = (i32 b >>> (i32 4 &&& 31)).toInt) ∧ (q = (i32 b &&& i32 15).toInt) ∧ (o = (i32 ro ||| i32 q).toInt) ∧ (fn = 2) ∧ (v = (i32 o <<< (i32 4 &&& 31)).toInt) ∧ (A_q = uA A3 65 p.toNat v)) ∨
  (∃ ri ro b x1 x2 fn q o o2 v : Int, ∃ A1 A2 A3 : Nat → Nat → Int, (A 63 p.toNat = ri) ∧ (A 65 p.toNat = ro) ∧ (A 53 (6000 * p + ri).toNat = b) ∧ (A1 = uA A 63 p.toNat (ri + 1)) ∧ (A2 = uA A1 69 p.toNat x1) ∧ (A3 = uA A2 70 p.toNat x2) ∧ (fn = (i32 b >>> (i32 4 &&& 31)).toInt) ∧ (q = (i32 b &&& i32 15).toInt) ∧ (o = (i32 ro ||| i32 q).toInt) ∧ (fn = 6) ∧ (o2 = (i32 o ^^^ i32 (-1)).toInt) ∧ (v = (i32 o2 <<< (i32 4 &&& 31)).toInt) ∧ (A_q = uA A3 65 p.toNat v)) ∨
  (∃ ri ro b x1 x2 fn q o : Int, ∃ A1 A2 A3 A4 : Nat → Nat → Int, (A 63 p.toNat = ri) ∧ (A 65 p.toNat = ro) ∧ (A 53 (6000 * p + ri).toNat = b) ∧ (A1 = uA A 63 p.toNat (ri + 1)) ∧ (A2 = uA A1 69 p.toNat x1) ∧ (A3 = uA A2 70 p.toNat x2) ∧ (fn = (i32 b >>> (i32 4 &&& 31)).toInt) ∧ (q = (i32 b &&& i32 15).toInt) ∧ (o = (i32 ro ||| i32 q).toInt) ∧ (fn = 15) ∧ (A4 = uA A3 65 p.toNat 0) ∧ (opR A4 A_q it im om p o)) ∨
  (∃ ri ro b x1 x2 fn q o : Int, ∃ A1 A2 A3 A4 : Nat → Nat → Int, (A 63 p.toNat = ri) ∧ (A 65 p.toNat = ro) ∧ (A 53 (6000 * p + ri).toNat = b) ∧ (A1 = uA A 63 p.toNat (ri + 1)) ∧ (A2 = uA A1 69 p.toNat x1) ∧ (A3 = uA A2 70 p.toNat x2) ∧ (fn = (i32 b >>> (i32 4 &&& 31)).toInt) ∧ (q = (i32 b &&& i32 15).toInt) ∧ (o = (i32 ro ||| i32 q).toInt) ∧ (fn ≠ 2 ∧ fn ≠ 6 ∧ fn ≠ 15) ∧ (A4 = uA A3 65 p.toNat 0) ∧ (acR A4 A_q p fn o))
theorem obR_pfx {A A_q : Nat → Nat → Int} {it im om p : Int} (ri ro b x1 x2 fn q o v : Int) (A1 A2 A3 : Nat → Nat → Int) (hi : A 63 p.toNat = ri) (ho : A 65 p.toNat = ro) (hb : A 53 (6000 * p + ri).toNat = b) (e1 : A1 = uA A 63 p.toNat (ri + 1)) (e2 : A2 = uA A1 69 p.toNat x1) (e3 : A3 = uA A2 70 p.toNat x2) (hf : fn = (i32 b >>> (i32 4 &&& 31)).toInt) (hq : q = (i32 b &&& i32 15).toInt) (hoo : o = (i32 ro ||| i32 q).toInt) (h : fn = 2) (hv : v = (i32 o <<< (i32 4 &&& 31)).toInt) (e : A_q = uA A3 65 p.toNat v) : obR A A_q it im om p := .inl ⟨ri, ro, b, x1, x2, fn, q, o, v, A1, A2, A3, hi, ho, hb, e1, e2, e3, hf, hq, hoo, h, hv, e⟩
theorem obR_nfx {A A_q : Nat → Nat → Int} {it im om p : Int} (ri ro b x1 x2 fn q o o2 v : Int) (A1 A2 A3 : Nat → Nat → Int) (hi : A 63 p.toNat = ri) (ho : A 65 p.toNat = ro) (hb : A 53 (6000 * p + ri).toNat = b) (e1 : A1 = uA A 63 p.toNat (ri + 1)) (e2 : A2 = uA A1 69 p.toNat x1) (e3 : A3 = uA A2 70 p.toNat x2) (hf : fn = (i32 b >>> (i32 4 &&& 31)).toInt) (hq : q = (i32 b &&& i32 15).toInt) (hoo : o = (i32 ro ||| i32 q).toInt) (h : fn = 6) (h2 : o2 = (i32 o ^^^ i32 (-1)).toInt) (hv : v = (i32 o2 <<< (i32 4 &&& 31)).toInt) (e : A_q = uA A3 65 p.toNat v) : obR A A_q it im om p := .inr (.inl ⟨ri, ro, b, x1, x2, fn, q, o, o2, v, A1, A2, A3, hi, ho, hb, e1, e2, e3, hf, hq, hoo, h, h2, hv, e⟩)
theorem obR_opr {A A_q : Nat → Nat → Int} {it im om p : Int} (ri ro b x1 x2 fn q o : Int) (A1 A2 A3 A4 : Nat → Nat → Int) (hi : A 63 p.toNat = ri) (ho : A 65 p.toNat = ro) (hb : A 53 (6000 * p + ri).toNat = b) (e1 : A1 = uA A 63 p.toNat (ri + 1)) (e2 : A2 = uA A1 69 p.toNat x1) (e3 : A3 = uA A2 70 p.toNat x2) (hf : fn = (i32 b >>> (i32 4 &&& 31)).toInt) (hq : q = (i32 b &&& i32 15).toInt) (hoo : o = (i32 ro ||| i32 q).toInt) (h : fn = 15) (e4 : A4 = uA A3 65 p.toNat 0) (k : opR A4 A_q it im om p o) : obR A A_q it im om p := .inr (.inr (.inl ⟨ri, ro, b, x1, x2, fn, q, o, A1, A2, A3, A4, hi, ho, hb, e1, e2, e3, hf, hq, hoo, h, e4, k⟩))
theorem obR_act {A A_q : Nat → Nat → Int} {it im om p : Int} (ri ro b x1 x2 fn q o : Int) (A1 A2 A3 A4 : Nat → Nat → Int) (hi : A 63 p.toNat = ri) (ho : A 65 p.toNat = ro) (hb : A 53 (6000 * p + ri).toNat = b) (e1 : A1 = uA A 63 p.toNat (ri + 1)) (e2 : A2 = uA A1 69 p.toNat x1) (e3 : A3 = uA A2 70 p.toNat x2) (hf : fn = (i32 b >>> (i32 4 &&& 31)).toInt) (hq : q = (i32 b &&& i32 15).toInt) (hoo : o = (i32 ro ||| i32 q).toInt) (h : fn ≠ 2 ∧ fn ≠ 6 ∧ fn ≠ 15) (e4 : A4 = uA A3 65 p.toNat 0) (k : acR A4 A_q p fn o) : obR A A_q it im om p := .inr (.inr (.inr (⟨ri, ro, b, x1, x2, fn, q, o, A1, A2, A3, A4, hi, ho, hb, e1, e2, e3, hf, hq, hoo, h, e4, k⟩)))
/-- one byte, and who runs then -/
def obY (A A_q : Nat → Nat → Int) (it im om p : Int) : Prop := A 66 p.toNat ≠ -1 ∧ ∃ A5 A6 : Nat → Nat → Int, obR A A5 it im om p ∧ ((A5 66 p.toNat = -1 ∧ dispR A5 A6 p) ∨ (A5 66 p.toNat ≠ -1 ∧ A6 = A5)) ∧ yR A6 A_q p
/-- what a byte needs of the state: that what it makes is in order again -/
def Hob (A : Nat → Nat → Int) (it im om p : Int) : Prop := A 66 p.toNat ≠ -1 → (∀ A5, obR A A5 it im om p → Gb A5 p ∧ (A5 66 p.toNat = -1 → ∀ A6, dispR A5 A6 p → Gb A6 p)) ∧ (∀ q o : Int, (i32 (A 53 (6000 * p + A 63 p.toNat).toNat) >>> (i32 4 &&& 31)).toInt = 15 → q = (i32 (A 53 (6000 * p + A 63 p.toNat).toNat) &&& i32 15).toInt → o = (i32 (A 65 p.toNat) ||| i32 q).toInt → o = 17 → -1000000 ≤ A 60 p.toNat ∧ A 60 p.toNat ≤ 1000000) ∧ 0 ≤ A 63 p.toNat ∧ A 63 p.toNat ≤ 5999

set_option maxRecDepth 20000 in
set_option maxHeartbeats 4000000 in
theorem c_oneByte {X : jX} {dd : Nat} {c0 c1 : jC} {G : Nat → Int} {A : Nat → Nat → Int} {T : jH} {p : Int} {m0 m1 rw rn it im om ri ro ra b0 : Int} (hd : 9 ≤ dd) (hW : Wk G A) (e_m0 : A 72 ((2 * p)).toNat = m0) (e_m1 : A 72 (((2 * p) + 1)).toNat = m1) (e_rw : A 64 (p).toNat = rw) (e_rn : A 66 (p).toNat = rn) (e_it : G 111 = it) (e_im : G 110 = im) (e_om : G 113 = om) (e_ri : A 63 (p).toNat = ri) (e_ro : A 65 (p).toNat = ro) (e_ra : A 60 (p).toNat = ra) (e_b0 : A 53 (((6000 * p) + ri)).toNat = b0) (h_p : (-2147483648 : Int) ≤ p ∧ p ≤ 2147483647) (p_0 : 0 ≤ p) (p_1 : p ≤ 5) (p_2 : 0 ≤ m0) (p_3 : m0 ≤ 1099) (p_4 : 0 ≤ m1) (p_5 : m1 ≤ 1099) (p_6 : rn = -1 ∨ (-1000000 ≤ rw ∧ rw ≤ 1000000)) (p_7 : 0 ≤ it) (p_8 : it ≤ im) (p_9 : im ≤ 200) (p_10 : 0 ≤ om) (p_11 : om ≤ 2000000000) (p_12 : Hob A (it) (im) (om) (p)) : wk X dd 379 [.ref 66, .int (i32 p)] (rV c0 c1 G A T) (fun o V_q => ∃ (G_q : Nat → Int) (A_q : Nat → Nat → Int) (r : Int) (om2 : Int) (it2 : Int), V_q = rV c0 c1 G_q A_q T ∧ o = .inl (some (.int (i32 r))) ∧ Wk G_q A_q ∧ Fr [111, 113] [59, 60, 61, 62, 63, 64, 65, 66, 67, 68, 69, 70, 71, 72, 73, 74, 75, 76, 77, 79, 80, 81, 82, 83, 84, 85] G A G_q A_q ∧ ((0 : Int) ≤ r ∧ r ≤ 1) ∧ G_q 113 = om2 ∧ G_q 111 = it2 ∧ ((r = 0 ∧ (rn = -1) ∧ (om2 = om) ∧ (it2 = it) ∧ (A_q = A)) ∨ (r = 1 ∧ (om ≤ om2) ∧ (om2 ≤ om + 1) ∧ (it ≤ it2) ∧ (it2 ≤ im) ∧ (obY A A_q (it) (im) (om) (p))))) := by
  obtain ⟨d, rfl⟩ : ∃ d, dd = d + 1 := ⟨dd - 1, by omega⟩
  refine wk_of (e := jm379) rfl (Nat.le_of_ble_eq_true rfl) ?_
  show wj X d jm379 (0, [(0, .ref 66), (1, .int (i32 (p)))], [], rV c0 c1 G A T) _
  have hF0 : Fr [111, 113] [59, 60, 61, 62, 63, 64, 65, 66, 67, 68, 69, 70, 71, 72, 73, 74, 75, 76, 77, 79, 80, 81, 82, 83, 84, 85] G A G A := Fr_rf
  have b_m0 : (-2147483648 : Int) ≤ m0 ∧ m0 ≤ 2147483647 := e_m0 ▸ hW.2 72 _
  have b_m1 : (-2147483648 : Int) ≤ m1 ∧ m1 ≤ 2147483647 := e_m1 ▸ hW.2 72 _
  have b_rw : (-2147483648 : Int) ≤ rw ∧ rw ≤ 2147483647 := e_rw ▸ hW.2 64 _
  have b_rn : (-2147483648 : Int) ≤ rn ∧ rn ≤ 2147483647 := e_rn ▸ hW.2 66 _
  have b_it : (-2147483648 : Int) ≤ it ∧ it ≤ 2147483647 := e_it ▸ hW.1 111
  have b_im : (-2147483648 : Int) ≤ im ∧ im ≤ 2147483647 := e_im ▸ hW.1 110
  have b_om : (-2147483648 : Int) ≤ om ∧ om ≤ 2147483647 := e_om ▸ hW.1 113
  have b_ri : (-2147483648 : Int) ≤ ri ∧ ri ≤ 2147483647 := e_ri ▸ hW.2 63 _
  have b_ro : (-2147483648 : Int) ≤ ro ∧ ro ≤ 2147483647 := e_ro ▸ hW.2 65 _
  have b_ra : (-2147483648 : Int) ≤ ra ∧ ra ≤ 2147483647 := e_ra ▸ hW.2 60 _
  have b_b0 : (-2147483648 : Int) ≤ b0 ∧ b0 ≤ 2147483647 := e_b0 ▸ hW.2 53 _
  refine jx_ld (pc_q := 1) (l_q := [(0, .ref 66), (1, .int (i32 (p)))]) (st_q := [.ref 66]) rfl (jl_aloadn rfl) ?_
  refine jr_get (pc_q := 4) (i := 97) (v := .ref 133) rfl rfl (by decide) rfl rfl ?_
  refine jx_ld (pc_q := 5) (l_q := [(0, .ref 66), (1, .int (i32 (p)))]) (st_q := [.int (i32 (p)), .ref 133]) rfl (jl_iloadn rfl) ?_
  refine jr_ldv (pc_q := 6) (i := 66) (m := 6) (z := p) (y := rn) rfl (by decide) rfl (by decide) (by omega) (by omega) rfl (show A 66 (p).toNat = rn from (e_rn)) ?_
  refine jx_ar (pc_q := 7) (st_q := [.int (i32 (-1)), .int (i32 (rn))]) rfl rfl rfl rfl ?_
  refine jx_icmp_ne (pc_q := 10) (tg := 12) rfl rfl rfl (Int.le_trans (by decide : (-2147483648 : Int) ≤ -2147483648) b_rn.1) (Int.le_trans b_rn.2 (by decide : (2147483647 : Int) ≤ 2147483647)) (by decide) (by decide) (fun h1 => ?_) (fun h1 => ?_)
  · have _q := h1
    obtain ⟨hH1, hH2, hH3, hH4⟩ := p_12 (by rw [show A 66 (p).toNat = rn from e_rn]; omega); rw [show A 63 (p).toNat = ri from e_ri] at hH3 hH4
    refine jx_ld (pc_q := 13) (l_q := [(0, .ref 66), (1, .int (i32 (p)))]) (st_q := [.ref 66]) rfl (jl_aloadn rfl) ?_
    refine jr_get (pc_q := 16) (i := 83) (v := .ref 120) rfl rfl (by decide) rfl rfl ?_
    refine jx_ar (pc_q := 19) (st_q := [.int (i32 (6000)), .ref 120]) rfl rfl rfl rfl ?_
    refine jx_ld (pc_q := 20) (l_q := [(0, .ref 66), (1, .int (i32 (p)))]) (st_q := [.int (i32 (p)), .int (i32 (6000)), .ref 120]) rfl (jl_iloadn rfl) ?_
    refine jx_mul (pc_q := 21) rfl rfl ?_
    refine jx_ld (pc_q := 22) (l_q := [(0, .ref 66), (1, .int (i32 (p)))]) (st_q := [.ref 66, .int (i32 ((6000 * p))), .ref 120]) rfl (jl_aloadn rfl) ?_
    refine jr_get (pc_q := 25) (i := 94) (v := .ref 130) rfl rfl (by decide) rfl rfl ?_
    refine jx_ld (pc_q := 26) (l_q := [(0, .ref 66), (1, .int (i32 (p)))]) (st_q := [.int (i32 (p)), .ref 130, .int (i32 ((6000 * p))), .ref 120]) rfl (jl_iloadn rfl) ?_
    refine jr_ldv (pc_q := 27) (i := 63) (m := 6) (z := p) (y := ri) rfl (by decide) rfl (by decide) (by omega) (by omega) rfl (show A 63 (p).toNat = ri from (e_ri)) ?_
    refine jx_add (pc_q := 28) rfl rfl ?_
    refine jr_ldv (pc_q := 29) (i := 53) (m := 36000) (z := ((6000 * p) + ri)) (y := b0) rfl (by decide) rfl (by decide) (by omega) (by omega) rfl (show A 53 (((6000 * p) + ri)).toNat = b0 from (e_b0)) ?_
    refine jx_ld (pc_q := 30) (l_q := jSto1 [(0, .ref 66), (1, .int (i32 (p)))] 2 (.int (i32 (b0)))) (st_q := []) rfl rfl ?_
    obtain ⟨L2, eL2⟩ : ∃ q, q = jSto1 [(0, .ref 66), (1, .int (i32 (p)))] 2 (.int (i32 (b0))) := ⟨_, rfl⟩
    rw [← eL2]
    have gL2_0 : jGet L2 0 = some (.ref 66) := eL2 ▸ jg_ne (by decide) (rfl : jGet [(0, .ref 66), (1, .int (i32 (p)))] 0 = some (.ref 66)) rfl
    have gL2_1 : jGet L2 1 = some (.int (i32 (p))) := eL2 ▸ jg_ne (by decide) (rfl : jGet [(0, .ref 66), (1, .int (i32 (p)))] 1 = some (.int (i32 (p)))) rfl
    have gL2_2 : jGet L2 2 = some (.int (i32 (b0))) := eL2 ▸ jg_eq
    refine jx_ld (pc_q := 31) (l_q := L2) (st_q := [.ref 66]) rfl (jl_aloadn gL2_0) ?_
    refine jr_get (pc_q := 34) (i := 94) (v := .ref 130) rfl rfl (by decide) rfl rfl ?_
    refine jx_ld (pc_q := 35) (l_q := L2) (st_q := [.int (i32 (p)), .ref 130]) rfl (jl_iloadn gL2_1) ?_
    refine jx_ar (pc_q := 36) (st_q := [.int (i32 (p)), .ref 130, .int (i32 (p)), .ref 130]) rfl rfl rfl rfl ?_
    refine jr_ldv (pc_q := 37) (i := 63) (m := 6) (z := p) (y := ri) rfl (by decide) rfl (by decide) (by omega) (by omega) rfl (show A 63 (p).toNat = ri from (e_ri)) ?_
    refine jx_ar (pc_q := 38) (st_q := [.int (i32 (1)), .int (i32 (ri)), .int (i32 (p)), .ref 130]) rfl rfl rfl rfl ?_
    refine jx_add (pc_q := 39) rfl rfl ?_
    refine jr_st (pc_q := 40) (i := 63) (m := 6) (z := p) (y := (ri + 1)) rfl (by decide) rfl (by decide) (by omega) (by omega) rfl ?_
    have hW4 : Wk G (uA A 63 (p).toNat ((ri + 1))) := Wk_a hW (show (-2147483648 : Int) ≤ (ri + 1) by omega) (show (ri + 1) ≤ (2147483647 : Int) by omega)
    have hF5 := Fr_a (z := (ri + 1)) (k := 63) (n := (p).toNat) hF0 (by decide)
    obtain ⟨A3, eA3⟩ : ∃ q, q = uA A 63 (p).toNat ((ri + 1)) := ⟨_, rfl⟩
    rw [← eA3]
    rw [← eA3] at hW4 hF5
    have q6 : A3 63 (p).toNat = (ri + 1) := by rw [eA3]; exact uA_eq
    refine jx_ld (pc_q := 41) (l_q := L2) (st_q := [.ref 66]) rfl (jl_aloadn gL2_0) ?_
    refine jr_get (pc_q := 44) (i := 100) (v := .ref 136) rfl rfl (by decide) rfl rfl ?_
    refine jx_ld (pc_q := 45) (l_q := L2) (st_q := [.int (i32 (p)), .ref 136]) rfl (jl_iloadn gL2_1) ?_
    refine jx_ar (pc_q := 46) (st_q := [.int (i32 (p)), .ref 136, .int (i32 (p)), .ref 136]) rfl rfl rfl rfl ?_
    have b7 : (-2147483648 : Int) ≤ A 69 (p).toNat ∧ A 69 (p).toNat ≤ 2147483647 := hW.2 69 _
    refine jr_ldv (pc_q := 47) (i := 69) (m := 6) (z := p) (y := A 69 (p).toNat) rfl (by decide) rfl (by decide) (by omega) (by omega) rfl (show A3 69 (p).toNat = A 69 (p).toNat from (congrFun ((congrFun eA3 69).trans (uA_ne (by decide))) _)) ?_
    refine jx_ar (pc_q := 48) (st_q := [.int (i32 (1)), .int (i32 (A 69 (p).toNat)), .int (i32 (p)), .ref 136]) rfl rfl rfl rfl ?_
    refine jx_add (pc_q := 49) rfl rfl ?_
    obtain ⟨v8, ev8⟩ : ∃ z, z = (i32 (A 69 (p).toNat + 1)).toInt := ⟨_, rfl⟩; have fv8 : i32 (A 69 (p).toNat + 1) = i32 v8 := (by rw [ev8]; exact (i32_of _).symm); rw [fv8]; have rv8 : (-2147483648 : Int) ≤ v8 ∧ v8 ≤ 2147483647 := ev8 ▸ i32_rg _
    refine jr_st (pc_q := 50) (i := 69) (m := 6) (z := p) (y := v8) rfl (by decide) rfl (by decide) (by omega) (by omega) rfl ?_
    have hW10 : Wk G (uA A3 69 (p).toNat (v8)) := Wk_a hW4 (show (-2147483648 : Int) ≤ v8 by omega) (show v8 ≤ (2147483647 : Int) by omega)
    have hF11 := Fr_a (z := v8) (k := 69) (n := (p).toNat) hF5 (by decide)
    obtain ⟨A9, eA9⟩ : ∃ q, q = uA A3 69 (p).toNat (v8) := ⟨_, rfl⟩
    rw [← eA9]
    rw [← eA9] at hW10 hF11
    have q12 : A9 69 (p).toNat = v8 := by rw [eA9]; exact uA_eq
    refine jx_ld (pc_q := 51) (l_q := L2) (st_q := [.ref 66]) rfl (jl_aloadn gL2_0) ?_
    refine jr_get (pc_q := 54) (i := 101) (v := .ref 137) rfl rfl (by decide) rfl rfl ?_
    refine jx_ld (pc_q := 55) (l_q := L2) (st_q := [.int (i32 (p)), .ref 137]) rfl (jl_iloadn gL2_1) ?_
    refine jx_ar (pc_q := 56) (st_q := [.int (i32 (p)), .ref 137, .int (i32 (p)), .ref 137]) rfl rfl rfl rfl ?_
    have b13 : (-2147483648 : Int) ≤ A 70 (p).toNat ∧ A 70 (p).toNat ≤ 2147483647 := hW.2 70 _
    refine jr_ldv (pc_q := 57) (i := 70) (m := 6) (z := p) (y := A 70 (p).toNat) rfl (by decide) rfl (by decide) (by omega) (by omega) rfl (show A9 70 (p).toNat = A 70 (p).toNat from (congrFun (((congrFun eA9 70).trans (uA_ne (by decide))).trans ((congrFun eA3 70).trans (uA_ne (by decide)))) _)) ?_
    refine jx_ar (pc_q := 58) (st_q := [.int (i32 (1)), .int (i32 (A 70 (p).toNat)), .int (i32 (p)), .ref 137]) rfl rfl rfl rfl ?_
    refine jx_add (pc_q := 59) rfl rfl ?_
    obtain ⟨v14, ev14⟩ : ∃ z, z = (i32 (A 70 (p).toNat + 1)).toInt := ⟨_, rfl⟩; have fv14 : i32 (A 70 (p).toNat + 1) = i32 v14 := (by rw [ev14]; exact (i32_of _).symm); rw [fv14]; have rv14 : (-2147483648 : Int) ≤ v14 ∧ v14 ≤ 2147483647 := ev14 ▸ i32_rg _
    refine jr_st (pc_q := 60) (i := 70) (m := 6) (z := p) (y := v14) rfl (by decide) rfl (by decide) (by omega) (by omega) rfl ?_
    have hW16 : Wk G (uA A9 70 (p).toNat (v14)) := Wk_a hW10 (show (-2147483648 : Int) ≤ v14 by omega) (show v14 ≤ (2147483647 : Int) by omega)
    have hF17 := Fr_a (z := v14) (k := 70) (n := (p).toNat) hF11 (by decide)
    obtain ⟨A15, eA15⟩ : ∃ q, q = uA A9 70 (p).toNat (v14) := ⟨_, rfl⟩
    rw [← eA15]
    rw [← eA15] at hW16 hF17
    have q18 : A15 70 (p).toNat = v14 := by rw [eA15]; exact uA_eq
    refine jx_ld (pc_q := 61) (l_q := L2) (st_q := [.int (i32 (b0))]) rfl (jl_iloadn gL2_2) ?_
    refine jx_ar (pc_q := 62) (st_q := [.int (i32 (4)), .int (i32 (b0))]) rfl rfl rfl rfl ?_
    refine jx_shr (pc_q := 63) rfl rfl ?_
    obtain ⟨b19, eb19⟩ : ∃ z, z = (i32 (b0) >>> (i32 (4) &&& 31)).toInt := ⟨_, rfl⟩
    rw [← eb19]
    have rb19 : (-2147483648 : Int) ≤ b19 ∧ b19 ≤ 2147483647 := eb19 ▸ i32_rg _
    have _q : True := trivial
    refine jx_ld (pc_q := 64) (l_q := jSto1 L2 3 (.int (i32 (b19)))) (st_q := []) rfl rfl ?_
    obtain ⟨L20, eL20⟩ : ∃ q, q = jSto1 L2 3 (.int (i32 (b19))) := ⟨_, rfl⟩
    rw [← eL20]
    have gL20_0 : jGet L20 0 = some (.ref 66) := eL20 ▸ jg_ne (by decide) gL2_0 rfl
    have gL20_1 : jGet L20 1 = some (.int (i32 (p))) := eL20 ▸ jg_ne (by decide) gL2_1 rfl
    have gL20_2 : jGet L20 2 = some (.int (i32 (b0))) := eL20 ▸ jg_ne (by decide) gL2_2 rfl
    have gL20_3 : jGet L20 3 = some (.int (i32 (b19))) := eL20 ▸ jg_eq
    refine jx_ld (pc_q := 65) (l_q := L20) (st_q := [.ref 66]) rfl (jl_aloadn gL20_0) ?_
    refine jr_get (pc_q := 68) (i := 96) (v := .ref 132) rfl rfl (by decide) rfl rfl ?_
    refine jx_ld (pc_q := 69) (l_q := L20) (st_q := [.int (i32 (p)), .ref 132]) rfl (jl_iloadn gL20_1) ?_
    refine jr_ldv (pc_q := 70) (i := 65) (m := 6) (z := p) (y := ro) rfl (by decide) rfl (by decide) (by omega) (by omega) rfl (show A15 65 (p).toNat = ro from (congrFun (((congrFun eA15 65).trans (uA_ne (by decide))).trans (((congrFun eA9 65).trans (uA_ne (by decide))).trans ((congrFun eA3 65).trans (uA_ne (by decide))))) _).trans (e_ro)) ?_
    refine jx_ld (pc_q := 71) (l_q := L20) (st_q := [.int (i32 (b0)), .int (i32 (ro))]) rfl (jl_iloadn gL20_2) ?_
    refine jx_ar (pc_q := 73) (st_q := [.int (i32 (15)), .int (i32 (b0)), .int (i32 (ro))]) rfl rfl rfl rfl ?_
    refine jx_and (pc_q := 74) rfl rfl ?_
    obtain ⟨b21, eb21⟩ : ∃ z, z = (i32 (b0) &&& i32 (15)).toInt := ⟨_, rfl⟩
    rw [← eb21]
    have rb21 : (-2147483648 : Int) ≤ b21 ∧ b21 ≤ 2147483647 := eb21 ▸ i32_rg _
    have _q : True := trivial
    refine jx_or (pc_q := 75) rfl rfl ?_
    obtain ⟨b22, eb22⟩ : ∃ z, z = (i32 (ro) ||| i32 (b21)).toInt := ⟨_, rfl⟩
    rw [← eb22]
    have rb22 : (-2147483648 : Int) ≤ b22 ∧ b22 ≤ 2147483647 := eb22 ▸ i32_rg _
    have _q : True := trivial
    refine jx_ld (pc_q := 77) (l_q := jSto1 L20 4 (.int (i32 (b22)))) (st_q := []) rfl rfl ?_
    obtain ⟨L23, eL23⟩ : ∃ q, q = jSto1 L20 4 (.int (i32 (b22))) := ⟨_, rfl⟩
    rw [← eL23]
    have gL23_0 : jGet L23 0 = some (.ref 66) := eL23 ▸ jg_ne (by decide) gL20_0 rfl
    have gL23_1 : jGet L23 1 = some (.int (i32 (p))) := eL23 ▸ jg_ne (by decide) gL20_1 rfl
    have gL23_2 : jGet L23 2 = some (.int (i32 (b0))) := eL23 ▸ jg_ne (by decide) gL20_2 rfl
    have gL23_3 : jGet L23 3 = some (.int (i32 (b19))) := eL23 ▸ jg_ne (by decide) gL20_3 rfl
    have gL23_4 : jGet L23 4 = some (.int (i32 (b22))) := eL23 ▸ jg_eq
    refine jx_ld (pc_q := 78) (l_q := L23) (st_q := [.int (i32 (b19))]) rfl (jl_iloadn gL23_3) ?_
    refine jx_ar (pc_q := 79) (st_q := [.int (i32 (2)), .int (i32 (b19))]) rfl rfl rfl rfl ?_
    refine jx_icmp_ne (pc_q := 82) (tg := 95) rfl rfl rfl (Int.le_trans (by decide : (-2147483648 : Int) ≤ -2147483648) rb19.1) (Int.le_trans rb19.2 (by decide : (2147483647 : Int) ≤ 2147483647)) (by decide) (by decide) (fun h24 => ?_) (fun h24 => ?_)
    · have _q := h24
      refine jx_ld (pc_q := 96) (l_q := L23) (st_q := [.int (i32 (b19))]) rfl (jl_iloadn gL23_3) ?_
      refine jx_ar (pc_q := 98) (st_q := [.int (i32 (6)), .int (i32 (b19))]) rfl rfl rfl rfl ?_
      refine jx_icmp_ne (pc_q := 101) (tg := 116) rfl rfl rfl (Int.le_trans (by decide : (-2147483648 : Int) ≤ -2147483648) rb19.1) (Int.le_trans rb19.2 (by decide : (2147483647 : Int) ≤ 2147483647)) (by decide) (by decide) (fun h25 => ?_) (fun h25 => ?_)
      · have _q := h25
        refine jx_ld (pc_q := 117) (l_q := L23) (st_q := [.ref 66]) rfl (jl_aloadn gL23_0) ?_
        refine jr_get (pc_q := 120) (i := 96) (v := .ref 132) rfl rfl (by decide) rfl rfl ?_
        refine jx_ld (pc_q := 121) (l_q := L23) (st_q := [.int (i32 (p)), .ref 132]) rfl (jl_iloadn gL23_1) ?_
        refine jx_ar (pc_q := 122) (st_q := [.int (i32 (0)), .int (i32 (p)), .ref 132]) rfl rfl rfl rfl ?_
        refine jr_st (pc_q := 123) (i := 65) (m := 6) (z := p) (y := 0) rfl (by decide) rfl (by decide) (by omega) (by omega) rfl ?_
        have hW27 : Wk G (uA A15 65 (p).toNat (0)) := Wk_a hW16 (show (-2147483648 : Int) ≤ 0 by omega) (show 0 ≤ (2147483647 : Int) by omega)
        have hF28 := Fr_a (z := 0) (k := 65) (n := (p).toNat) hF17 (by decide)
        obtain ⟨A26, eA26⟩ : ∃ q, q = uA A15 65 (p).toNat (0) := ⟨_, rfl⟩
        rw [← eA26]
        rw [← eA26] at hW27 hF28
        have q29 : A26 65 (p).toNat = 0 := by rw [eA26]; exact uA_eq
        refine jx_ld (pc_q := 124) (l_q := L23) (st_q := [.int (i32 (b19))]) rfl (jl_iloadn gL23_3) ?_
        refine jx_ar (pc_q := 126) (st_q := [.int (i32 (15)), .int (i32 (b19))]) rfl rfl rfl rfl ?_
        refine jx_icmp_ne (pc_q := 129) (tg := 139) rfl rfl rfl (Int.le_trans (by decide : (-2147483648 : Int) ≤ -2147483648) rb19.1) (Int.le_trans rb19.2 (by decide : (2147483647 : Int) ≤ 2147483647)) (by decide) (by decide) (fun h30 => ?_) (fun h30 => ?_)
        · have _q := h30
          refine jx_ld (pc_q := 140) (l_q := L23) (st_q := [.ref 66]) rfl (jl_aloadn gL23_0) ?_
          refine jx_ld (pc_q := 141) (l_q := L23) (st_q := [.int (i32 (p)), .ref 66]) rfl (jl_iloadn gL23_1) ?_
          refine jx_ld (pc_q := 142) (l_q := L23) (st_q := [.int (i32 (b19)), .int (i32 (p)), .ref 66]) rfl (jl_iloadn gL23_3) ?_
          refine jx_ld (pc_q := 144) (l_q := L23) (st_q := [.int (i32 (b22)), .int (i32 (b19)), .int (i32 (p)), .ref 66]) rfl (jl_iload gL23_4) ?_
          have b31 : (-2147483648 : Int) ≤ A 61 (p).toNat ∧ A 61 (p).toNat ≤ 2147483647 := hW.2 61 _
          refine jx_vr (pc_q := 147) (as := [.int (i32 (p)), .int (i32 (b19)), .int (i32 (b22))]) (st := []) rfl rfl rfl rfl ⟨rfl, rfl, Nat.le_of_ble_eq_true rfl⟩ rfl rfl (c_act (dd := d) (hd := by omega) (hW := hW27) (p := p) (fn := b19) (op1 := b22) (m0 := m0) (e_m0 := show A26 72 ((2 * p)).toNat = m0 from (congrFun (((congrFun eA26 72).trans (uA_ne (by decide))).trans (((congrFun eA15 72).trans (uA_ne (by decide))).trans (((congrFun eA9 72).trans (uA_ne (by decide))).trans ((congrFun eA3 72).trans (uA_ne (by decide)))))) _).trans (e_m0)) (m1 := m1) (e_m1 := show A26 72 (((2 * p) + 1)).toNat = m1 from (congrFun (((congrFun eA26 72).trans (uA_ne (by decide))).trans (((congrFun eA15 72).trans (uA_ne (by decide))).trans (((congrFun eA9 72).trans (uA_ne (by decide))).trans ((congrFun eA3 72).trans (uA_ne (by decide)))))) _).trans (e_m1)) (rw := rw) (e_rw := show A26 64 (p).toNat = rw from (congrFun (((congrFun eA26 64).trans (uA_ne (by decide))).trans (((congrFun eA15 64).trans (uA_ne (by decide))).trans (((congrFun eA9 64).trans (uA_ne (by decide))).trans ((congrFun eA3 64).trans (uA_ne (by decide)))))) _).trans (e_rw)) (rn := rn) (e_rn := show A26 66 (p).toNat = rn from (congrFun (((congrFun eA26 66).trans (uA_ne (by decide))).trans (((congrFun eA15 66).trans (uA_ne (by decide))).trans (((congrFun eA9 66).trans (uA_ne (by decide))).trans ((congrFun eA3 66).trans (uA_ne (by decide)))))) _).trans (e_rn)) (ri := (ri + 1)) (e_ri := show A26 63 (p).toNat = (ri + 1) from (congrFun (((congrFun eA26 63).trans (uA_ne (by decide))).trans (((congrFun eA15 63).trans (uA_ne (by decide))).trans ((congrFun eA9 63).trans (uA_ne (by decide))))) _).trans (q6)) (ra := ra) (e_ra := show A26 60 (p).toNat = ra from (congrFun (((congrFun eA26 60).trans (uA_ne (by decide))).trans (((congrFun eA15 60).trans (uA_ne (by decide))).trans (((congrFun eA9 60).trans (uA_ne (by decide))).trans ((congrFun eA3 60).trans (uA_ne (by decide)))))) _).trans (e_ra)) (rb := A 61 (p).toNat) (e_rb := show A26 61 (p).toNat = A 61 (p).toNat from (congrFun (((congrFun eA26 61).trans (uA_ne (by decide))).trans (((congrFun eA15 61).trans (uA_ne (by decide))).trans (((congrFun eA9 61).trans (uA_ne (by decide))).trans ((congrFun eA3 61).trans (uA_ne (by decide)))))) _))  (h_p := ⟨(Int.le_trans (by decide : (-2147483648 : Int) ≤ -2147483648) h_p.1), (Int.le_trans h_p.2 (by decide : (2147483647 : Int) ≤ 2147483647))⟩) (h_fn := ⟨(Int.le_trans (by decide : (-2147483648 : Int) ≤ -2147483648) rb19.1), (Int.le_trans rb19.2 (by decide : (2147483647 : Int) ≤ 2147483647))⟩) (h_op1 := ⟨(Int.le_trans (by decide : (-2147483648 : Int) ≤ -2147483648) rb22.1), (Int.le_trans rb22.2 (by decide : (2147483647 : Int) ≤ 2147483647))⟩)  (p_0 := by omega) (p_1 := by omega) (p_2 := by omega) (p_3 := by omega) (p_4 := by omega) (p_5 := by omega) (p_6 := by omega) (p_7 := by omega) (p_8 := by omega)) (fun o V_q hq => ?_)
          obtain ⟨G32, A33, rfl, rfl, hW34, hF35, p36, -⟩ := hq
          have hF38 := Fr_tr hF28 hF35 (Fr_sub (by decide)) (Fr_sub (by decide))
          refine .inl ⟨rfl, ?_⟩
          have hob : obR A A33 it im om p := (obR_act _ _ _ _ _ _ _ _ _ _ _ _ e_ri e_ro e_b0 eA3 eA9 eA15 eb19 eb21 eb22 (by omega) eA26 p36); obtain ⟨hg0, hgD⟩ := hH1 _ hob; have hg := hg0; unfold Gb at hg; have hk39 : A33 66 (p).toNat = A33 66 (p).toNat := rfl
          refine jx_ld (pc_q := 148) (l_q := L23) (st_q := [.ref 66]) rfl (jl_aloadn gL23_0) ?_
          refine jr_get (pc_q := 151) (i := 97) (v := .ref 133) rfl rfl (by decide) rfl rfl ?_
          refine jx_ld (pc_q := 152) (l_q := L23) (st_q := [.int (i32 (p)), .ref 133]) rfl (jl_iloadn gL23_1) ?_
          have b40 : (-2147483648 : Int) ≤ A33 66 (p).toNat ∧ A33 66 (p).toNat ≤ 2147483647 := hW34.2 66 _
          refine jr_ldv (pc_q := 153) (i := 66) (m := 6) (z := p) (y := A33 66 (p).toNat) rfl (by decide) rfl (by decide) (by omega) (by omega) rfl (show A33 66 (p).toNat = A33 66 (p).toNat from rfl) ?_
          refine jx_ar (pc_q := 154) (st_q := [.int (i32 (-1)), .int (i32 (A33 66 (p).toNat))]) rfl rfl rfl rfl ?_
          refine jx_icmp_ne (pc_q := 157) (tg := 162) rfl rfl rfl (Int.le_trans (by decide : (-2147483648 : Int) ≤ -2147483648) b40.1) (Int.le_trans b40.2 (by decide : (2147483647 : Int) ≤ 2147483647)) (by decide) (by decide) (fun h41 => ?_) (fun h41 => ?_)
          · have _q := h41
            have hk42 : A33 64 (p).toNat = A33 64 (p).toNat := rfl; have hk43 : A33 66 (p).toNat = A33 66 (p).toNat := rfl
            refine jx_ld (pc_q := 163) (l_q := L23) (st_q := [.ref 66]) rfl (jl_aloadn gL23_0) ?_
            refine jx_ld (pc_q := 164) (l_q := L23) (st_q := [.int (i32 (p)), .ref 66]) rfl (jl_iloadn gL23_1) ?_
            have b44 : (-2147483648 : Int) ≤ A33 72 ((2 * p)).toNat ∧ A33 72 ((2 * p)).toNat ≤ 2147483647 := hW34.2 72 _
            have b45 : (-2147483648 : Int) ≤ A33 72 (((2 * p) + 1)).toNat ∧ A33 72 (((2 * p) + 1)).toNat ≤ 2147483647 := hW34.2 72 _
            refine jx_vr (pc_q := 167) (as := [.int (i32 (p))]) (st := []) rfl rfl rfl rfl ⟨rfl, rfl, Nat.le_of_ble_eq_true rfl⟩ rfl rfl (c_yield0 (dd := d) (hd := by omega) (hW := hW34) (p := p) (rn0 := A33 66 (p).toNat) (e_rn0 := show A33 66 (p).toNat = A33 66 (p).toNat from rfl) (m0 := A33 72 ((2 * p)).toNat) (e_m0 := show A33 72 ((2 * p)).toNat = A33 72 ((2 * p)).toNat from rfl) (m1 := A33 72 (((2 * p) + 1)).toNat) (e_m1 := show A33 72 (((2 * p) + 1)).toNat = A33 72 (((2 * p) + 1)).toNat from rfl)  (h_p := ⟨(Int.le_trans (by decide : (-2147483648 : Int) ≤ -2147483648) h_p.1), (Int.le_trans h_p.2 (by decide : (2147483647 : Int) ≤ 2147483647))⟩)  (p_0 := by omega) (p_1 := by omega) (p_2 := by omega) (p_3 := by omega) (p_4 := by omega) (p_5 := by omega) (p_6 := by omega)) (fun o V_q hq => ?_)
            obtain ⟨G46, A47, rfl, rfl, hW48, hF49, p50, -⟩ := hq
            have hF52 := Fr_tr hF38 hF49 (Fr_sub (by decide)) (Fr_sub (by decide))
            refine .inl ⟨rfl, ?_⟩
            refine jx_ar (pc_q := 168) (st_q := [.int (i32 (1))]) rfl rfl rfl rfl ?_
            refine jx_rt (v := some (.int (i32 (1)))) rfl rfl rfl rfl rfl (by first | rfl | exact jRet_b (by omega)) ?_
            exact ⟨_, _, _, om, it, rfl, rfl, hW48, hF52, by omega, ((hF49.1 113 rfl).trans ((hF35.1 113 rfl).trans (e_om))), ((hF49.1 111 rfl).trans ((hF35.1 111 rfl).trans (e_it))), by first | exact Or.inr ((⟨by omega, by omega, by omega, by omega, by omega, ⟨by rw [show A 66 (p).toNat = rn from e_rn]; omega, _, _, hob, Or.inr ⟨by omega, rfl⟩, p50⟩⟩))⟩
          · have _q := h41
            refine jx_ld (pc_q := 158) (l_q := L23) (st_q := [.ref 66]) rfl (jl_aloadn gL23_0) ?_
            refine jx_ld (pc_q := 159) (l_q := L23) (st_q := [.int (i32 (p)), .ref 66]) rfl (jl_iloadn gL23_1) ?_
            have b53 : (-2147483648 : Int) ≤ A33 72 ((2 * p)).toNat ∧ A33 72 ((2 * p)).toNat ≤ 2147483647 := hW34.2 72 _
            have b54 : (-2147483648 : Int) ≤ A33 72 (((2 * p) + 1)).toNat ∧ A33 72 (((2 * p) + 1)).toNat ≤ 2147483647 := hW34.2 72 _
            refine jx_vr (pc_q := 162) (as := [.int (i32 (p))]) (st := []) rfl rfl rfl rfl ⟨rfl, rfl, Nat.le_of_ble_eq_true rfl⟩ rfl rfl (c_dispatch (dd := d) (hd := by omega) (hW := hW34) (p := p) (m0 := A33 72 ((2 * p)).toNat) (e_m0 := show A33 72 ((2 * p)).toNat = A33 72 ((2 * p)).toNat from rfl) (m1 := A33 72 (((2 * p) + 1)).toNat) (e_m1 := show A33 72 (((2 * p) + 1)).toNat = A33 72 (((2 * p) + 1)).toNat from rfl)  (h_p := ⟨(Int.le_trans (by decide : (-2147483648 : Int) ≤ -2147483648) h_p.1), (Int.le_trans h_p.2 (by decide : (2147483647 : Int) ≤ 2147483647))⟩)  (p_0 := by omega) (p_1 := by omega) (p_2 := by omega) (p_3 := by omega) (p_4 := by omega) (p_5 := by omega)) (fun o V_q hq => ?_)
            obtain ⟨G55, A56, rfl, rfl, hW57, hF58, p59, -⟩ := hq
            have hF61 := Fr_tr hF38 hF58 (Fr_sub (by decide)) (Fr_sub (by decide))
            refine .inl ⟨rfl, ?_⟩
            have hgd := hgD (by omega) _ p59; unfold Gb at hgd; have hk62 : A56 64 (p).toNat = A56 64 (p).toNat := rfl; have hk63 : A56 66 (p).toNat = A56 66 (p).toNat := rfl
            refine jx_ld (pc_q := 163) (l_q := L23) (st_q := [.ref 66]) rfl (jl_aloadn gL23_0) ?_
            refine jx_ld (pc_q := 164) (l_q := L23) (st_q := [.int (i32 (p)), .ref 66]) rfl (jl_iloadn gL23_1) ?_
            have b64 : (-2147483648 : Int) ≤ A56 66 (p).toNat ∧ A56 66 (p).toNat ≤ 2147483647 := hW57.2 66 _
            have b65 : (-2147483648 : Int) ≤ A56 72 ((2 * p)).toNat ∧ A56 72 ((2 * p)).toNat ≤ 2147483647 := hW57.2 72 _
            have b66 : (-2147483648 : Int) ≤ A56 72 (((2 * p) + 1)).toNat ∧ A56 72 (((2 * p) + 1)).toNat ≤ 2147483647 := hW57.2 72 _
            refine jx_vr (pc_q := 167) (as := [.int (i32 (p))]) (st := []) rfl rfl rfl rfl ⟨rfl, rfl, Nat.le_of_ble_eq_true rfl⟩ rfl rfl (c_yield0 (dd := d) (hd := by omega) (hW := hW57) (p := p) (rn0 := A56 66 (p).toNat) (e_rn0 := show A56 66 (p).toNat = A56 66 (p).toNat from rfl) (m0 := A56 72 ((2 * p)).toNat) (e_m0 := show A56 72 ((2 * p)).toNat = A56 72 ((2 * p)).toNat from rfl) (m1 := A56 72 (((2 * p) + 1)).toNat) (e_m1 := show A56 72 (((2 * p) + 1)).toNat = A56 72 (((2 * p) + 1)).toNat from rfl)  (h_p := ⟨(Int.le_trans (by decide : (-2147483648 : Int) ≤ -2147483648) h_p.1), (Int.le_trans h_p.2 (by decide : (2147483647 : Int) ≤ 2147483647))⟩)  (p_0 := by omega) (p_1 := by omega) (p_2 := by omega) (p_3 := by omega) (p_4 := by omega) (p_5 := by omega) (p_6 := by omega)) (fun o V_q hq => ?_)
            obtain ⟨G67, A68, rfl, rfl, hW69, hF70, p71, -⟩ := hq
            have hF73 := Fr_tr hF61 hF70 (Fr_sub (by decide)) (Fr_sub (by decide))
            refine .inl ⟨rfl, ?_⟩
            refine jx_ar (pc_q := 168) (st_q := [.int (i32 (1))]) rfl rfl rfl rfl ?_
            refine jx_rt (v := some (.int (i32 (1)))) rfl rfl rfl rfl rfl (by first | rfl | exact jRet_b (by omega)) ?_
            exact ⟨_, _, _, om, it, rfl, rfl, hW69, hF73, by omega, ((hF70.1 113 rfl).trans ((hF58.1 113 rfl).trans ((hF35.1 113 rfl).trans (e_om)))), ((hF70.1 111 rfl).trans ((hF58.1 111 rfl).trans ((hF35.1 111 rfl).trans (e_it)))), by first | exact Or.inr ((⟨by omega, by omega, by omega, by omega, by omega, ⟨by rw [show A 66 (p).toNat = rn from e_rn]; omega, _, _, hob, Or.inl ⟨by omega, p59⟩, p71⟩⟩))⟩
        · have _q := h30
          have hE9 : b22 < 17 ∨ 18 ≤ b22 ∨ (-1000000 ≤ ra ∧ ra ≤ 1000000) := (by by_cases w : b22 = 17; exact Or.inr (Or.inr (by have z := hH2 b21 b22 (by rw [show A 63 (p).toNat = ri from e_ri, show A 53 (6000 * p + ri).toNat = b0 from e_b0, ← (show b19 = (i32 b0 >>> (i32 4 &&& 31)).toInt from eb19)]; omega) (by rw [show A 63 (p).toNat = ri from e_ri, show A 53 (6000 * p + ri).toNat = b0 from e_b0]; exact eb21) (by rw [show A 65 (p).toNat = ro from e_ro]; exact eb22) w; rw [show A 60 (p).toNat = ra from e_ra] at z; exact z)); omega)
          refine jx_ld (pc_q := 130) (l_q := L23) (st_q := [.ref 66]) rfl (jl_aloadn gL23_0) ?_
          refine jx_ld (pc_q := 131) (l_q := L23) (st_q := [.int (i32 (p)), .ref 66]) rfl (jl_iloadn gL23_1) ?_
          refine jx_ld (pc_q := 133) (l_q := L23) (st_q := [.int (i32 (b22)), .int (i32 (p)), .ref 66]) rfl (jl_iload gL23_4) ?_
          have b74 : (-2147483648 : Int) ≤ A 61 (p).toNat ∧ A 61 (p).toNat ≤ 2147483647 := hW.2 61 _
          have b75 : (-2147483648 : Int) ≤ A 62 (p).toNat ∧ A 62 (p).toNat ≤ 2147483647 := hW.2 62 _
          refine jx_vr (pc_q := 136) (as := [.int (i32 (p)), .int (i32 (b22))]) (st := []) rfl rfl rfl rfl ⟨rfl, rfl, Nat.le_of_ble_eq_true rfl⟩ rfl rfl (c_operate (dd := d) (hd := by omega) (hW := hW27) (p := p) (op1 := b22) (m0 := m0) (e_m0 := show A26 72 ((2 * p)).toNat = m0 from (congrFun (((congrFun eA26 72).trans (uA_ne (by decide))).trans (((congrFun eA15 72).trans (uA_ne (by decide))).trans (((congrFun eA9 72).trans (uA_ne (by decide))).trans ((congrFun eA3 72).trans (uA_ne (by decide)))))) _).trans (e_m0)) (m1 := m1) (e_m1 := show A26 72 (((2 * p) + 1)).toNat = m1 from (congrFun (((congrFun eA26 72).trans (uA_ne (by decide))).trans (((congrFun eA15 72).trans (uA_ne (by decide))).trans (((congrFun eA9 72).trans (uA_ne (by decide))).trans ((congrFun eA3 72).trans (uA_ne (by decide)))))) _).trans (e_m1)) (rw := rw) (e_rw := show A26 64 (p).toNat = rw from (congrFun (((congrFun eA26 64).trans (uA_ne (by decide))).trans (((congrFun eA15 64).trans (uA_ne (by decide))).trans (((congrFun eA9 64).trans (uA_ne (by decide))).trans ((congrFun eA3 64).trans (uA_ne (by decide)))))) _).trans (e_rw)) (rn := rn) (e_rn := show A26 66 (p).toNat = rn from (congrFun (((congrFun eA26 66).trans (uA_ne (by decide))).trans (((congrFun eA15 66).trans (uA_ne (by decide))).trans (((congrFun eA9 66).trans (uA_ne (by decide))).trans ((congrFun eA3 66).trans (uA_ne (by decide)))))) _).trans (e_rn)) (it := it) (e_it := show G 111 = it from (e_it)) (im := im) (e_im := show G 110 = im from (e_im)) (om := om) (e_om := show G 113 = om from (e_om)) (ri := (ri + 1)) (e_ri := show A26 63 (p).toNat = (ri + 1) from (congrFun (((congrFun eA26 63).trans (uA_ne (by decide))).trans (((congrFun eA15 63).trans (uA_ne (by decide))).trans ((congrFun eA9 63).trans (uA_ne (by decide))))) _).trans (q6)) (ra := ra) (e_ra := show A26 60 (p).toNat = ra from (congrFun (((congrFun eA26 60).trans (uA_ne (by decide))).trans (((congrFun eA15 60).trans (uA_ne (by decide))).trans (((congrFun eA9 60).trans (uA_ne (by decide))).trans ((congrFun eA3 60).trans (uA_ne (by decide)))))) _).trans (e_ra)) (rb := A 61 (p).toNat) (e_rb := show A26 61 (p).toNat = A 61 (p).toNat from (congrFun (((congrFun eA26 61).trans (uA_ne (by decide))).trans (((congrFun eA15 61).trans (uA_ne (by decide))).trans (((congrFun eA9 61).trans (uA_ne (by decide))).trans ((congrFun eA3 61).trans (uA_ne (by decide)))))) _)) (rc := A 62 (p).toNat) (e_rc := show A26 62 (p).toNat = A 62 (p).toNat from (congrFun (((congrFun eA26 62).trans (uA_ne (by decide))).trans (((congrFun eA15 62).trans (uA_ne (by decide))).trans (((congrFun eA9 62).trans (uA_ne (by decide))).trans ((congrFun eA3 62).trans (uA_ne (by decide)))))) _))  (h_p := ⟨(Int.le_trans (by decide : (-2147483648 : Int) ≤ -2147483648) h_p.1), (Int.le_trans h_p.2 (by decide : (2147483647 : Int) ≤ 2147483647))⟩) (h_op1 := ⟨(Int.le_trans (by decide : (-2147483648 : Int) ≤ -2147483648) rb22.1), (Int.le_trans rb22.2 (by decide : (2147483647 : Int) ≤ 2147483647))⟩)  (p_0 := by omega) (p_1 := by omega) (p_2 := by omega) (p_3 := by omega) (p_4 := by omega) (p_5 := by omega) (p_6 := by omega) (p_7 := by omega) (p_8 := by omega) (p_9 := by omega) (p_10 := by omega) (p_11 := by omega) (p_12 := by omega) (p_13 := by omega) (p_14 := by omega)) (fun o V_q hq => ?_)
          obtain ⟨G76, A77, om2_78, it2_79, rfl, rfl, hW80, hF81, e82, e83, p84, p85, p86, p87, p88, -⟩ := hq
          have hF90 := Fr_tr hF28 hF81 (Fr_sub (by decide)) (Fr_sub (by decide))
          have bom2_78 : (-2147483648 : Int) ≤ om2_78 ∧ om2_78 ≤ 2147483647 := e82 ▸ hW80.1 113
          have bit2_79 : (-2147483648 : Int) ≤ it2_79 ∧ it2_79 ≤ 2147483647 := e83 ▸ hW80.1 111
          refine .inl ⟨rfl, ?_⟩
          refine jx_go (tg := 147) rfl rfl ?_
          have hob : obR A A77 it im om p := (obR_opr _ _ _ _ _ _ _ _ _ _ _ _ e_ri e_ro e_b0 eA3 eA9 eA15 eb19 eb21 eb22 (by omega) eA26 p88); obtain ⟨hg0, hgD⟩ := hH1 _ hob; have hg := hg0; unfold Gb at hg; have hk91 : A77 66 (p).toNat = A77 66 (p).toNat := rfl
          refine jx_ld (pc_q := 148) (l_q := L23) (st_q := [.ref 66]) rfl (jl_aloadn gL23_0) ?_
          refine jr_get (pc_q := 151) (i := 97) (v := .ref 133) rfl rfl (by decide) rfl rfl ?_
          refine jx_ld (pc_q := 152) (l_q := L23) (st_q := [.int (i32 (p)), .ref 133]) rfl (jl_iloadn gL23_1) ?_
          have b92 : (-2147483648 : Int) ≤ A77 66 (p).toNat ∧ A77 66 (p).toNat ≤ 2147483647 := hW80.2 66 _
          refine jr_ldv (pc_q := 153) (i := 66) (m := 6) (z := p) (y := A77 66 (p).toNat) rfl (by decide) rfl (by decide) (by omega) (by omega) rfl (show A77 66 (p).toNat = A77 66 (p).toNat from rfl) ?_
          refine jx_ar (pc_q := 154) (st_q := [.int (i32 (-1)), .int (i32 (A77 66 (p).toNat))]) rfl rfl rfl rfl ?_
          refine jx_icmp_ne (pc_q := 157) (tg := 162) rfl rfl rfl (Int.le_trans (by decide : (-2147483648 : Int) ≤ -2147483648) b92.1) (Int.le_trans b92.2 (by decide : (2147483647 : Int) ≤ 2147483647)) (by decide) (by decide) (fun h93 => ?_) (fun h93 => ?_)
          · have _q := h93
            have hk94 : A77 64 (p).toNat = A77 64 (p).toNat := rfl; have hk95 : A77 66 (p).toNat = A77 66 (p).toNat := rfl
            refine jx_ld (pc_q := 163) (l_q := L23) (st_q := [.ref 66]) rfl (jl_aloadn gL23_0) ?_
            refine jx_ld (pc_q := 164) (l_q := L23) (st_q := [.int (i32 (p)), .ref 66]) rfl (jl_iloadn gL23_1) ?_
            have b96 : (-2147483648 : Int) ≤ A77 72 ((2 * p)).toNat ∧ A77 72 ((2 * p)).toNat ≤ 2147483647 := hW80.2 72 _
            have b97 : (-2147483648 : Int) ≤ A77 72 (((2 * p) + 1)).toNat ∧ A77 72 (((2 * p) + 1)).toNat ≤ 2147483647 := hW80.2 72 _
            refine jx_vr (pc_q := 167) (as := [.int (i32 (p))]) (st := []) rfl rfl rfl rfl ⟨rfl, rfl, Nat.le_of_ble_eq_true rfl⟩ rfl rfl (c_yield0 (dd := d) (hd := by omega) (hW := hW80) (p := p) (rn0 := A77 66 (p).toNat) (e_rn0 := show A77 66 (p).toNat = A77 66 (p).toNat from rfl) (m0 := A77 72 ((2 * p)).toNat) (e_m0 := show A77 72 ((2 * p)).toNat = A77 72 ((2 * p)).toNat from rfl) (m1 := A77 72 (((2 * p) + 1)).toNat) (e_m1 := show A77 72 (((2 * p) + 1)).toNat = A77 72 (((2 * p) + 1)).toNat from rfl)  (h_p := ⟨(Int.le_trans (by decide : (-2147483648 : Int) ≤ -2147483648) h_p.1), (Int.le_trans h_p.2 (by decide : (2147483647 : Int) ≤ 2147483647))⟩)  (p_0 := by omega) (p_1 := by omega) (p_2 := by omega) (p_3 := by omega) (p_4 := by omega) (p_5 := by omega) (p_6 := by omega)) (fun o V_q hq => ?_)
            obtain ⟨G98, A99, rfl, rfl, hW100, hF101, p102, -⟩ := hq
            have hF104 := Fr_tr hF90 hF101 (Fr_sub (by decide)) (Fr_sub (by decide))
            refine .inl ⟨rfl, ?_⟩
            refine jx_ar (pc_q := 168) (st_q := [.int (i32 (1))]) rfl rfl rfl rfl ?_
            refine jx_rt (v := some (.int (i32 (1)))) rfl rfl rfl rfl rfl (by first | rfl | exact jRet_b (by omega)) ?_
            exact ⟨_, _, _, om2_78, it2_79, rfl, rfl, hW100, hF104, by omega, ((hF101.1 113 rfl).trans (e82)), ((hF101.1 111 rfl).trans (e83)), by first | exact Or.inr ((⟨by omega, by omega, by omega, by omega, by omega, ⟨by rw [show A 66 (p).toNat = rn from e_rn]; omega, _, _, hob, Or.inr ⟨by omega, rfl⟩, p102⟩⟩))⟩
          · have _q := h93
            refine jx_ld (pc_q := 158) (l_q := L23) (st_q := [.ref 66]) rfl (jl_aloadn gL23_0) ?_
            refine jx_ld (pc_q := 159) (l_q := L23) (st_q := [.int (i32 (p)), .ref 66]) rfl (jl_iloadn gL23_1) ?_
            have b105 : (-2147483648 : Int) ≤ A77 72 ((2 * p)).toNat ∧ A77 72 ((2 * p)).toNat ≤ 2147483647 := hW80.2 72 _
            have b106 : (-2147483648 : Int) ≤ A77 72 (((2 * p) + 1)).toNat ∧ A77 72 (((2 * p) + 1)).toNat ≤ 2147483647 := hW80.2 72 _
            refine jx_vr (pc_q := 162) (as := [.int (i32 (p))]) (st := []) rfl rfl rfl rfl ⟨rfl, rfl, Nat.le_of_ble_eq_true rfl⟩ rfl rfl (c_dispatch (dd := d) (hd := by omega) (hW := hW80) (p := p) (m0 := A77 72 ((2 * p)).toNat) (e_m0 := show A77 72 ((2 * p)).toNat = A77 72 ((2 * p)).toNat from rfl) (m1 := A77 72 (((2 * p) + 1)).toNat) (e_m1 := show A77 72 (((2 * p) + 1)).toNat = A77 72 (((2 * p) + 1)).toNat from rfl)  (h_p := ⟨(Int.le_trans (by decide : (-2147483648 : Int) ≤ -2147483648) h_p.1), (Int.le_trans h_p.2 (by decide : (2147483647 : Int) ≤ 2147483647))⟩)  (p_0 := by omega) (p_1 := by omega) (p_2 := by omega) (p_3 := by omega) (p_4 := by omega) (p_5 := by omega)) (fun o V_q hq => ?_)
            obtain ⟨G107, A108, rfl, rfl, hW109, hF110, p111, -⟩ := hq
            have hF113 := Fr_tr hF90 hF110 (Fr_sub (by decide)) (Fr_sub (by decide))
            refine .inl ⟨rfl, ?_⟩
            have hgd := hgD (by omega) _ p111; unfold Gb at hgd; have hk114 : A108 64 (p).toNat = A108 64 (p).toNat := rfl; have hk115 : A108 66 (p).toNat = A108 66 (p).toNat := rfl
            refine jx_ld (pc_q := 163) (l_q := L23) (st_q := [.ref 66]) rfl (jl_aloadn gL23_0) ?_
            refine jx_ld (pc_q := 164) (l_q := L23) (st_q := [.int (i32 (p)), .ref 66]) rfl (jl_iloadn gL23_1) ?_
            have b116 : (-2147483648 : Int) ≤ A108 66 (p).toNat ∧ A108 66 (p).toNat ≤ 2147483647 := hW109.2 66 _
            have b117 : (-2147483648 : Int) ≤ A108 72 ((2 * p)).toNat ∧ A108 72 ((2 * p)).toNat ≤ 2147483647 := hW109.2 72 _
            have b118 : (-2147483648 : Int) ≤ A108 72 (((2 * p) + 1)).toNat ∧ A108 72 (((2 * p) + 1)).toNat ≤ 2147483647 := hW109.2 72 _
            refine jx_vr (pc_q := 167) (as := [.int (i32 (p))]) (st := []) rfl rfl rfl rfl ⟨rfl, rfl, Nat.le_of_ble_eq_true rfl⟩ rfl rfl (c_yield0 (dd := d) (hd := by omega) (hW := hW109) (p := p) (rn0 := A108 66 (p).toNat) (e_rn0 := show A108 66 (p).toNat = A108 66 (p).toNat from rfl) (m0 := A108 72 ((2 * p)).toNat) (e_m0 := show A108 72 ((2 * p)).toNat = A108 72 ((2 * p)).toNat from rfl) (m1 := A108 72 (((2 * p) + 1)).toNat) (e_m1 := show A108 72 (((2 * p) + 1)).toNat = A108 72 (((2 * p) + 1)).toNat from rfl)  (h_p := ⟨(Int.le_trans (by decide : (-2147483648 : Int) ≤ -2147483648) h_p.1), (Int.le_trans h_p.2 (by decide : (2147483647 : Int) ≤ 2147483647))⟩)  (p_0 := by omega) (p_1 := by omega) (p_2 := by omega) (p_3 := by omega) (p_4 := by omega) (p_5 := by omega) (p_6 := by omega)) (fun o V_q hq => ?_)
            obtain ⟨G119, A120, rfl, rfl, hW121, hF122, p123, -⟩ := hq
            have hF125 := Fr_tr hF113 hF122 (Fr_sub (by decide)) (Fr_sub (by decide))
            refine .inl ⟨rfl, ?_⟩
            refine jx_ar (pc_q := 168) (st_q := [.int (i32 (1))]) rfl rfl rfl rfl ?_
            refine jx_rt (v := some (.int (i32 (1)))) rfl rfl rfl rfl rfl (by first | rfl | exact jRet_b (by omega)) ?_
            exact ⟨_, _, _, om2_78, it2_79, rfl, rfl, hW121, hF125, by omega, ((hF122.1 113 rfl).trans ((hF110.1 113 rfl).trans (e82))), ((hF122.1 111 rfl).trans ((hF110.1 111 rfl).trans (e83))), by first | exact Or.inr ((⟨by omega, by omega, by omega, by omega, by omega, ⟨by rw [show A 66 (p).toNat = rn from e_rn]; omega, _, _, hob, Or.inl ⟨by omega, p111⟩, p123⟩⟩))⟩
      · have _q := h25
        refine jx_ld (pc_q := 102) (l_q := L23) (st_q := [.ref 66]) rfl (jl_aloadn gL23_0) ?_
        refine jr_get (pc_q := 105) (i := 96) (v := .ref 132) rfl rfl (by decide) rfl rfl ?_
        refine jx_ld (pc_q := 106) (l_q := L23) (st_q := [.int (i32 (p)), .ref 132]) rfl (jl_iloadn gL23_1) ?_
        refine jx_ld (pc_q := 108) (l_q := L23) (st_q := [.int (i32 (b22)), .int (i32 (p)), .ref 132]) rfl (jl_iload gL23_4) ?_
        refine jx_ar (pc_q := 109) (st_q := [.int (i32 (-1)), .int (i32 (b22)), .int (i32 (p)), .ref 132]) rfl rfl rfl rfl ?_
        refine jx_xor (pc_q := 110) rfl rfl ?_
        obtain ⟨b126, eb126⟩ : ∃ z, z = (i32 (b22) ^^^ i32 (-1)).toInt := ⟨_, rfl⟩
        rw [← eb126]
        have rb126 : (-2147483648 : Int) ≤ b126 ∧ b126 ≤ 2147483647 := eb126 ▸ i32_rg _
        have _q : True := trivial
        refine jx_ar (pc_q := 111) (st_q := [.int (i32 (4)), .int (i32 (b126)), .int (i32 (p)), .ref 132]) rfl rfl rfl rfl ?_
        refine jx_shl (pc_q := 112) rfl rfl ?_
        obtain ⟨b127, eb127⟩ : ∃ z, z = (i32 (b126) <<< (i32 (4) &&& 31)).toInt := ⟨_, rfl⟩
        rw [← eb127]
        have rb127 : (-2147483648 : Int) ≤ b127 ∧ b127 ≤ 2147483647 := eb127 ▸ i32_rg _
        have _q : True := trivial
        refine jr_st (pc_q := 113) (i := 65) (m := 6) (z := p) (y := b127) rfl (by decide) rfl (by decide) (by omega) (by omega) rfl ?_
        have hW129 : Wk G (uA A15 65 (p).toNat (b127)) := Wk_a hW16 (show (-2147483648 : Int) ≤ b127 by omega) (show b127 ≤ (2147483647 : Int) by omega)
        have hF130 := Fr_a (z := b127) (k := 65) (n := (p).toNat) hF17 (by decide)
        obtain ⟨A128, eA128⟩ : ∃ q, q = uA A15 65 (p).toNat (b127) := ⟨_, rfl⟩
        rw [← eA128]
        rw [← eA128] at hW129 hF130
        have q131 : A128 65 (p).toNat = b127 := by rw [eA128]; exact uA_eq
        refine jx_go (tg := 147) rfl rfl ?_
        have hob : obR A A128 it im om p := (obR_nfx _ _ _ _ _ _ _ _ _ _ _ _ _ e_ri e_ro e_b0 eA3 eA9 eA15 eb19 eb21 eb22 (by omega) eb126 eb127 eA128); obtain ⟨hg0, hgD⟩ := hH1 _ hob; have hg := hg0; unfold Gb at hg; have hk132 : A128 66 (p).toNat = rn := (congrFun (((congrFun eA128 66).trans (uA_ne (by decide))).trans (((congrFun eA15 66).trans (uA_ne (by decide))).trans (((congrFun eA9 66).trans (uA_ne (by decide))).trans ((congrFun eA3 66).trans (uA_ne (by decide)))))) _).trans (e_rn)
        refine jx_ld (pc_q := 148) (l_q := L23) (st_q := [.ref 66]) rfl (jl_aloadn gL23_0) ?_
        refine jr_get (pc_q := 151) (i := 97) (v := .ref 133) rfl rfl (by decide) rfl rfl ?_
        refine jx_ld (pc_q := 152) (l_q := L23) (st_q := [.int (i32 (p)), .ref 133]) rfl (jl_iloadn gL23_1) ?_
        refine jr_ldv (pc_q := 153) (i := 66) (m := 6) (z := p) (y := rn) rfl (by decide) rfl (by decide) (by omega) (by omega) rfl (show A128 66 (p).toNat = rn from (congrFun (((congrFun eA128 66).trans (uA_ne (by decide))).trans (((congrFun eA15 66).trans (uA_ne (by decide))).trans (((congrFun eA9 66).trans (uA_ne (by decide))).trans ((congrFun eA3 66).trans (uA_ne (by decide)))))) _).trans (e_rn)) ?_
        refine jx_ar (pc_q := 154) (st_q := [.int (i32 (-1)), .int (i32 (rn))]) rfl rfl rfl rfl ?_
        refine jx_icmp_ne (pc_q := 157) (tg := 162) rfl rfl rfl (Int.le_trans (by decide : (-2147483648 : Int) ≤ -2147483648) b_rn.1) (Int.le_trans b_rn.2 (by decide : (2147483647 : Int) ≤ 2147483647)) (by decide) (by decide) (fun h133 => ?_) (fun h133 => ?_)
        · have _q := h133
          have hk134 : A128 64 (p).toNat = rw := (congrFun (((congrFun eA128 64).trans (uA_ne (by decide))).trans (((congrFun eA15 64).trans (uA_ne (by decide))).trans (((congrFun eA9 64).trans (uA_ne (by decide))).trans ((congrFun eA3 64).trans (uA_ne (by decide)))))) _).trans (e_rw); have hk135 : A128 66 (p).toNat = rn := (congrFun (((congrFun eA128 66).trans (uA_ne (by decide))).trans (((congrFun eA15 66).trans (uA_ne (by decide))).trans (((congrFun eA9 66).trans (uA_ne (by decide))).trans ((congrFun eA3 66).trans (uA_ne (by decide)))))) _).trans (e_rn)
          refine jx_ld (pc_q := 163) (l_q := L23) (st_q := [.ref 66]) rfl (jl_aloadn gL23_0) ?_
          refine jx_ld (pc_q := 164) (l_q := L23) (st_q := [.int (i32 (p)), .ref 66]) rfl (jl_iloadn gL23_1) ?_
          refine jx_vr (pc_q := 167) (as := [.int (i32 (p))]) (st := []) rfl rfl rfl rfl ⟨rfl, rfl, Nat.le_of_ble_eq_true rfl⟩ rfl rfl (c_yield0 (dd := d) (hd := by omega) (hW := hW129) (p := p) (rn0 := rn) (e_rn0 := show A128 66 (p).toNat = rn from (congrFun (((congrFun eA128 66).trans (uA_ne (by decide))).trans (((congrFun eA15 66).trans (uA_ne (by decide))).trans (((congrFun eA9 66).trans (uA_ne (by decide))).trans ((congrFun eA3 66).trans (uA_ne (by decide)))))) _).trans (e_rn)) (m0 := m0) (e_m0 := show A128 72 ((2 * p)).toNat = m0 from (congrFun (((congrFun eA128 72).trans (uA_ne (by decide))).trans (((congrFun eA15 72).trans (uA_ne (by decide))).trans (((congrFun eA9 72).trans (uA_ne (by decide))).trans ((congrFun eA3 72).trans (uA_ne (by decide)))))) _).trans (e_m0)) (m1 := m1) (e_m1 := show A128 72 (((2 * p) + 1)).toNat = m1 from (congrFun (((congrFun eA128 72).trans (uA_ne (by decide))).trans (((congrFun eA15 72).trans (uA_ne (by decide))).trans (((congrFun eA9 72).trans (uA_ne (by decide))).trans ((congrFun eA3 72).trans (uA_ne (by decide)))))) _).trans (e_m1))  (h_p := ⟨(Int.le_trans (by decide : (-2147483648 : Int) ≤ -2147483648) h_p.1), (Int.le_trans h_p.2 (by decide : (2147483647 : Int) ≤ 2147483647))⟩)  (p_0 := by omega) (p_1 := by omega) (p_2 := by omega) (p_3 := by omega) (p_4 := by omega) (p_5 := by omega) (p_6 := by omega)) (fun o V_q hq => ?_)
          obtain ⟨G136, A137, rfl, rfl, hW138, hF139, p140, -⟩ := hq
          have hF142 := Fr_tr hF130 hF139 (Fr_sub (by decide)) (Fr_sub (by decide))
          refine .inl ⟨rfl, ?_⟩
          refine jx_ar (pc_q := 168) (st_q := [.int (i32 (1))]) rfl rfl rfl rfl ?_
          refine jx_rt (v := some (.int (i32 (1)))) rfl rfl rfl rfl rfl (by first | rfl | exact jRet_b (by omega)) ?_
          exact ⟨_, _, _, om, it, rfl, rfl, hW138, hF142, by omega, ((hF139.1 113 rfl).trans (e_om)), ((hF139.1 111 rfl).trans (e_it)), by first | exact Or.inr ((⟨by omega, by omega, by omega, by omega, by omega, ⟨by rw [show A 66 (p).toNat = rn from e_rn]; omega, _, _, hob, Or.inr ⟨by omega, rfl⟩, p140⟩⟩))⟩
        · have _q := h133
          refine jx_ld (pc_q := 158) (l_q := L23) (st_q := [.ref 66]) rfl (jl_aloadn gL23_0) ?_
          refine jx_ld (pc_q := 159) (l_q := L23) (st_q := [.int (i32 (p)), .ref 66]) rfl (jl_iloadn gL23_1) ?_
          refine jx_vr (pc_q := 162) (as := [.int (i32 (p))]) (st := []) rfl rfl rfl rfl ⟨rfl, rfl, Nat.le_of_ble_eq_true rfl⟩ rfl rfl (c_dispatch (dd := d) (hd := by omega) (hW := hW129) (p := p) (m0 := m0) (e_m0 := show A128 72 ((2 * p)).toNat = m0 from (congrFun (((congrFun eA128 72).trans (uA_ne (by decide))).trans (((congrFun eA15 72).trans (uA_ne (by decide))).trans (((congrFun eA9 72).trans (uA_ne (by decide))).trans ((congrFun eA3 72).trans (uA_ne (by decide)))))) _).trans (e_m0)) (m1 := m1) (e_m1 := show A128 72 (((2 * p) + 1)).toNat = m1 from (congrFun (((congrFun eA128 72).trans (uA_ne (by decide))).trans (((congrFun eA15 72).trans (uA_ne (by decide))).trans (((congrFun eA9 72).trans (uA_ne (by decide))).trans ((congrFun eA3 72).trans (uA_ne (by decide)))))) _).trans (e_m1))  (h_p := ⟨(Int.le_trans (by decide : (-2147483648 : Int) ≤ -2147483648) h_p.1), (Int.le_trans h_p.2 (by decide : (2147483647 : Int) ≤ 2147483647))⟩)  (p_0 := by omega) (p_1 := by omega) (p_2 := by omega) (p_3 := by omega) (p_4 := by omega) (p_5 := by omega)) (fun o V_q hq => ?_)
          obtain ⟨G143, A144, rfl, rfl, hW145, hF146, p147, -⟩ := hq
          have hF149 := Fr_tr hF130 hF146 (Fr_sub (by decide)) (Fr_sub (by decide))
          refine .inl ⟨rfl, ?_⟩
          have hgd := hgD (by omega) _ p147; unfold Gb at hgd; have hk150 : A144 64 (p).toNat = A144 64 (p).toNat := rfl; have hk151 : A144 66 (p).toNat = A144 66 (p).toNat := rfl
          refine jx_ld (pc_q := 163) (l_q := L23) (st_q := [.ref 66]) rfl (jl_aloadn gL23_0) ?_
          refine jx_ld (pc_q := 164) (l_q := L23) (st_q := [.int (i32 (p)), .ref 66]) rfl (jl_iloadn gL23_1) ?_
          have b152 : (-2147483648 : Int) ≤ A144 66 (p).toNat ∧ A144 66 (p).toNat ≤ 2147483647 := hW145.2 66 _
          have b153 : (-2147483648 : Int) ≤ A144 72 ((2 * p)).toNat ∧ A144 72 ((2 * p)).toNat ≤ 2147483647 := hW145.2 72 _
          have b154 : (-2147483648 : Int) ≤ A144 72 (((2 * p) + 1)).toNat ∧ A144 72 (((2 * p) + 1)).toNat ≤ 2147483647 := hW145.2 72 _
          refine jx_vr (pc_q := 167) (as := [.int (i32 (p))]) (st := []) rfl rfl rfl rfl ⟨rfl, rfl, Nat.le_of_ble_eq_true rfl⟩ rfl rfl (c_yield0 (dd := d) (hd := by omega) (hW := hW145) (p := p) (rn0 := A144 66 (p).toNat) (e_rn0 := show A144 66 (p).toNat = A144 66 (p).toNat from rfl) (m0 := A144 72 ((2 * p)).toNat) (e_m0 := show A144 72 ((2 * p)).toNat = A144 72 ((2 * p)).toNat from rfl) (m1 := A144 72 (((2 * p) + 1)).toNat) (e_m1 := show A144 72 (((2 * p) + 1)).toNat = A144 72 (((2 * p) + 1)).toNat from rfl)  (h_p := ⟨(Int.le_trans (by decide : (-2147483648 : Int) ≤ -2147483648) h_p.1), (Int.le_trans h_p.2 (by decide : (2147483647 : Int) ≤ 2147483647))⟩)  (p_0 := by omega) (p_1 := by omega) (p_2 := by omega) (p_3 := by omega) (p_4 := by omega) (p_5 := by omega) (p_6 := by omega)) (fun o V_q hq => ?_)
          obtain ⟨G155, A156, rfl, rfl, hW157, hF158, p159, -⟩ := hq
          have hF161 := Fr_tr hF149 hF158 (Fr_sub (by decide)) (Fr_sub (by decide))
          refine .inl ⟨rfl, ?_⟩
          refine jx_ar (pc_q := 168) (st_q := [.int (i32 (1))]) rfl rfl rfl rfl ?_
          refine jx_rt (v := some (.int (i32 (1)))) rfl rfl rfl rfl rfl (by first | rfl | exact jRet_b (by omega)) ?_
          exact ⟨_, _, _, om, it, rfl, rfl, hW157, hF161, by omega, ((hF158.1 113 rfl).trans ((hF146.1 113 rfl).trans (e_om))), ((hF158.1 111 rfl).trans ((hF146.1 111 rfl).trans (e_it))), by first | exact Or.inr ((⟨by omega, by omega, by omega, by omega, by omega, ⟨by rw [show A 66 (p).toNat = rn from e_rn]; omega, _, _, hob, Or.inl ⟨by omega, p147⟩, p159⟩⟩))⟩
    · have _q := h24
      refine jx_ld (pc_q := 83) (l_q := L23) (st_q := [.ref 66]) rfl (jl_aloadn gL23_0) ?_
      refine jr_get (pc_q := 86) (i := 96) (v := .ref 132) rfl rfl (by decide) rfl rfl ?_
      refine jx_ld (pc_q := 87) (l_q := L23) (st_q := [.int (i32 (p)), .ref 132]) rfl (jl_iloadn gL23_1) ?_
      refine jx_ld (pc_q := 89) (l_q := L23) (st_q := [.int (i32 (b22)), .int (i32 (p)), .ref 132]) rfl (jl_iload gL23_4) ?_
      refine jx_ar (pc_q := 90) (st_q := [.int (i32 (4)), .int (i32 (b22)), .int (i32 (p)), .ref 132]) rfl rfl rfl rfl ?_
      refine jx_shl (pc_q := 91) rfl rfl ?_
      obtain ⟨b162, eb162⟩ : ∃ z, z = (i32 (b22) <<< (i32 (4) &&& 31)).toInt := ⟨_, rfl⟩
      rw [← eb162]
      have rb162 : (-2147483648 : Int) ≤ b162 ∧ b162 ≤ 2147483647 := eb162 ▸ i32_rg _
      have _q : True := trivial
      refine jr_st (pc_q := 92) (i := 65) (m := 6) (z := p) (y := b162) rfl (by decide) rfl (by decide) (by omega) (by omega) rfl ?_
      have hW164 : Wk G (uA A15 65 (p).toNat (b162)) := Wk_a hW16 (show (-2147483648 : Int) ≤ b162 by omega) (show b162 ≤ (2147483647 : Int) by omega)
      have hF165 := Fr_a (z := b162) (k := 65) (n := (p).toNat) hF17 (by decide)
      obtain ⟨A163, eA163⟩ : ∃ q, q = uA A15 65 (p).toNat (b162) := ⟨_, rfl⟩
      rw [← eA163]
      rw [← eA163] at hW164 hF165
      have q166 : A163 65 (p).toNat = b162 := by rw [eA163]; exact uA_eq
      refine jx_go (tg := 147) rfl rfl ?_
      have hob : obR A A163 it im om p := (obR_pfx _ _ _ _ _ _ _ _ _ _ _ _ e_ri e_ro e_b0 eA3 eA9 eA15 eb19 eb21 eb22 (by omega) eb162 eA163); obtain ⟨hg0, hgD⟩ := hH1 _ hob; have hg := hg0; unfold Gb at hg; have hk167 : A163 66 (p).toNat = rn := (congrFun (((congrFun eA163 66).trans (uA_ne (by decide))).trans (((congrFun eA15 66).trans (uA_ne (by decide))).trans (((congrFun eA9 66).trans (uA_ne (by decide))).trans ((congrFun eA3 66).trans (uA_ne (by decide)))))) _).trans (e_rn)
      refine jx_ld (pc_q := 148) (l_q := L23) (st_q := [.ref 66]) rfl (jl_aloadn gL23_0) ?_
      refine jr_get (pc_q := 151) (i := 97) (v := .ref 133) rfl rfl (by decide) rfl rfl ?_
      refine jx_ld (pc_q := 152) (l_q := L23) (st_q := [.int (i32 (p)), .ref 133]) rfl (jl_iloadn gL23_1) ?_
      refine jr_ldv (pc_q := 153) (i := 66) (m := 6) (z := p) (y := rn) rfl (by decide) rfl (by decide) (by omega) (by omega) rfl (show A163 66 (p).toNat = rn from (congrFun (((congrFun eA163 66).trans (uA_ne (by decide))).trans (((congrFun eA15 66).trans (uA_ne (by decide))).trans (((congrFun eA9 66).trans (uA_ne (by decide))).trans ((congrFun eA3 66).trans (uA_ne (by decide)))))) _).trans (e_rn)) ?_
      refine jx_ar (pc_q := 154) (st_q := [.int (i32 (-1)), .int (i32 (rn))]) rfl rfl rfl rfl ?_
      refine jx_icmp_ne (pc_q := 157) (tg := 162) rfl rfl rfl (Int.le_trans (by decide : (-2147483648 : Int) ≤ -2147483648) b_rn.1) (Int.le_trans b_rn.2 (by decide : (2147483647 : Int) ≤ 2147483647)) (by decide) (by decide) (fun h168 => ?_) (fun h168 => ?_)
      · have _q := h168
        have hk169 : A163 64 (p).toNat = rw := (congrFun (((congrFun eA163 64).trans (uA_ne (by decide))).trans (((congrFun eA15 64).trans (uA_ne (by decide))).trans (((congrFun eA9 64).trans (uA_ne (by decide))).trans ((congrFun eA3 64).trans (uA_ne (by decide)))))) _).trans (e_rw); have hk170 : A163 66 (p).toNat = rn := (congrFun (((congrFun eA163 66).trans (uA_ne (by decide))).trans (((congrFun eA15 66).trans (uA_ne (by decide))).trans (((congrFun eA9 66).trans (uA_ne (by decide))).trans ((congrFun eA3 66).trans (uA_ne (by decide)))))) _).trans (e_rn)
        refine jx_ld (pc_q := 163) (l_q := L23) (st_q := [.ref 66]) rfl (jl_aloadn gL23_0) ?_
        refine jx_ld (pc_q := 164) (l_q := L23) (st_q := [.int (i32 (p)), .ref 66]) rfl (jl_iloadn gL23_1) ?_
        refine jx_vr (pc_q := 167) (as := [.int (i32 (p))]) (st := []) rfl rfl rfl rfl ⟨rfl, rfl, Nat.le_of_ble_eq_true rfl⟩ rfl rfl (c_yield0 (dd := d) (hd := by omega) (hW := hW164) (p := p) (rn0 := rn) (e_rn0 := show A163 66 (p).toNat = rn from (congrFun (((congrFun eA163 66).trans (uA_ne (by decide))).trans (((congrFun eA15 66).trans (uA_ne (by decide))).trans (((congrFun eA9 66).trans (uA_ne (by decide))).trans ((congrFun eA3 66).trans (uA_ne (by decide)))))) _).trans (e_rn)) (m0 := m0) (e_m0 := show A163 72 ((2 * p)).toNat = m0 from (congrFun (((congrFun eA163 72).trans (uA_ne (by decide))).trans (((congrFun eA15 72).trans (uA_ne (by decide))).trans (((congrFun eA9 72).trans (uA_ne (by decide))).trans ((congrFun eA3 72).trans (uA_ne (by decide)))))) _).trans (e_m0)) (m1 := m1) (e_m1 := show A163 72 (((2 * p) + 1)).toNat = m1 from (congrFun (((congrFun eA163 72).trans (uA_ne (by decide))).trans (((congrFun eA15 72).trans (uA_ne (by decide))).trans (((congrFun eA9 72).trans (uA_ne (by decide))).trans ((congrFun eA3 72).trans (uA_ne (by decide)))))) _).trans (e_m1))  (h_p := ⟨(Int.le_trans (by decide : (-2147483648 : Int) ≤ -2147483648) h_p.1), (Int.le_trans h_p.2 (by decide : (2147483647 : Int) ≤ 2147483647))⟩)  (p_0 := by omega) (p_1 := by omega) (p_2 := by omega) (p_3 := by omega) (p_4 := by omega) (p_5 := by omega) (p_6 := by omega)) (fun o V_q hq => ?_)
        obtain ⟨G171, A172, rfl, rfl, hW173, hF174, p175, -⟩ := hq
        have hF177 := Fr_tr hF165 hF174 (Fr_sub (by decide)) (Fr_sub (by decide))
        refine .inl ⟨rfl, ?_⟩
        refine jx_ar (pc_q := 168) (st_q := [.int (i32 (1))]) rfl rfl rfl rfl ?_
        refine jx_rt (v := some (.int (i32 (1)))) rfl rfl rfl rfl rfl (by first | rfl | exact jRet_b (by omega)) ?_
        exact ⟨_, _, _, om, it, rfl, rfl, hW173, hF177, by omega, ((hF174.1 113 rfl).trans (e_om)), ((hF174.1 111 rfl).trans (e_it)), by first | exact Or.inr ((⟨by omega, by omega, by omega, by omega, by omega, ⟨by rw [show A 66 (p).toNat = rn from e_rn]; omega, _, _, hob, Or.inr ⟨by omega, rfl⟩, p175⟩⟩))⟩
      · have _q := h168
        refine jx_ld (pc_q := 158) (l_q := L23) (st_q := [.ref 66]) rfl (jl_aloadn gL23_0) ?_
        refine jx_ld (pc_q := 159) (l_q := L23) (st_q := [.int (i32 (p)), .ref 66]) rfl (jl_iloadn gL23_1) ?_
        refine jx_vr (pc_q := 162) (as := [.int (i32 (p))]) (st := []) rfl rfl rfl rfl ⟨rfl, rfl, Nat.le_of_ble_eq_true rfl⟩ rfl rfl (c_dispatch (dd := d) (hd := by omega) (hW := hW164) (p := p) (m0 := m0) (e_m0 := show A163 72 ((2 * p)).toNat = m0 from (congrFun (((congrFun eA163 72).trans (uA_ne (by decide))).trans (((congrFun eA15 72).trans (uA_ne (by decide))).trans (((congrFun eA9 72).trans (uA_ne (by decide))).trans ((congrFun eA3 72).trans (uA_ne (by decide)))))) _).trans (e_m0)) (m1 := m1) (e_m1 := show A163 72 (((2 * p) + 1)).toNat = m1 from (congrFun (((congrFun eA163 72).trans (uA_ne (by decide))).trans (((congrFun eA15 72).trans (uA_ne (by decide))).trans (((congrFun eA9 72).trans (uA_ne (by decide))).trans ((congrFun eA3 72).trans (uA_ne (by decide)))))) _).trans (e_m1))  (h_p := ⟨(Int.le_trans (by decide : (-2147483648 : Int) ≤ -2147483648) h_p.1), (Int.le_trans h_p.2 (by decide : (2147483647 : Int) ≤ 2147483647))⟩)  (p_0 := by omega) (p_1 := by omega) (p_2 := by omega) (p_3 := by omega) (p_4 := by omega) (p_5 := by omega)) (fun o V_q hq => ?_)
        obtain ⟨G178, A179, rfl, rfl, hW180, hF181, p182, -⟩ := hq
        have hF184 := Fr_tr hF165 hF181 (Fr_sub (by decide)) (Fr_sub (by decide))
        refine .inl ⟨rfl, ?_⟩
        have hgd := hgD (by omega) _ p182; unfold Gb at hgd; have hk185 : A179 64 (p).toNat = A179 64 (p).toNat := rfl; have hk186 : A179 66 (p).toNat = A179 66 (p).toNat := rfl
        refine jx_ld (pc_q := 163) (l_q := L23) (st_q := [.ref 66]) rfl (jl_aloadn gL23_0) ?_
        refine jx_ld (pc_q := 164) (l_q := L23) (st_q := [.int (i32 (p)), .ref 66]) rfl (jl_iloadn gL23_1) ?_
        have b187 : (-2147483648 : Int) ≤ A179 66 (p).toNat ∧ A179 66 (p).toNat ≤ 2147483647 := hW180.2 66 _
        have b188 : (-2147483648 : Int) ≤ A179 72 ((2 * p)).toNat ∧ A179 72 ((2 * p)).toNat ≤ 2147483647 := hW180.2 72 _
        have b189 : (-2147483648 : Int) ≤ A179 72 (((2 * p) + 1)).toNat ∧ A179 72 (((2 * p) + 1)).toNat ≤ 2147483647 := hW180.2 72 _
        refine jx_vr (pc_q := 167) (as := [.int (i32 (p))]) (st := []) rfl rfl rfl rfl ⟨rfl, rfl, Nat.le_of_ble_eq_true rfl⟩ rfl rfl (c_yield0 (dd := d) (hd := by omega) (hW := hW180) (p := p) (rn0 := A179 66 (p).toNat) (e_rn0 := show A179 66 (p).toNat = A179 66 (p).toNat from rfl) (m0 := A179 72 ((2 * p)).toNat) (e_m0 := show A179 72 ((2 * p)).toNat = A179 72 ((2 * p)).toNat from rfl) (m1 := A179 72 (((2 * p) + 1)).toNat) (e_m1 := show A179 72 (((2 * p) + 1)).toNat = A179 72 (((2 * p) + 1)).toNat from rfl)  (h_p := ⟨(Int.le_trans (by decide : (-2147483648 : Int) ≤ -2147483648) h_p.1), (Int.le_trans h_p.2 (by decide : (2147483647 : Int) ≤ 2147483647))⟩)  (p_0 := by omega) (p_1 := by omega) (p_2 := by omega) (p_3 := by omega) (p_4 := by omega) (p_5 := by omega) (p_6 := by omega)) (fun o V_q hq => ?_)
        obtain ⟨G190, A191, rfl, rfl, hW192, hF193, p194, -⟩ := hq
        have hF196 := Fr_tr hF184 hF193 (Fr_sub (by decide)) (Fr_sub (by decide))
        refine .inl ⟨rfl, ?_⟩
        refine jx_ar (pc_q := 168) (st_q := [.int (i32 (1))]) rfl rfl rfl rfl ?_
        refine jx_rt (v := some (.int (i32 (1)))) rfl rfl rfl rfl rfl (by first | rfl | exact jRet_b (by omega)) ?_
        exact ⟨_, _, _, om, it, rfl, rfl, hW192, hF196, by omega, ((hF193.1 113 rfl).trans ((hF181.1 113 rfl).trans (e_om))), ((hF193.1 111 rfl).trans ((hF181.1 111 rfl).trans (e_it))), by first | exact Or.inr ((⟨by omega, by omega, by omega, by omega, by omega, ⟨by rw [show A 66 (p).toNat = rn from e_rn]; omega, _, _, hob, Or.inl ⟨by omega, p182⟩, p194⟩⟩))⟩
  · have _q := h1
    refine jx_ar (pc_q := 11) (st_q := [.int (i32 (0))]) rfl rfl rfl rfl ?_
    refine jx_rt (v := some (.int (i32 (0)))) rfl rfl rfl rfl rfl (by first | rfl | exact jRet_b (by omega)) ?_
    exact ⟨_, _, _, om, it, rfl, rfl, hW, hF0, by omega, (e_om), (e_it), by first | exact Or.inl (⟨by omega, by omega, by omega, by omega, rfl⟩)⟩
