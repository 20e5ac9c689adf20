/-- rows that are short enough, W in reach -/
def Gb (A : Nat → Nat → Int) (p : Int) : Prop := 0 ≤ A 72 (2 * p).toNat ∧ A 72 (2 * p).toNat ≤ 1099 ∧ 0 ≤ A 72 (2 * p + 1).toNat ∧ A 72 (2 * p + 1).toNat ≤ 1099 ∧ -1000000 ≤ A 64 p.toNat ∧ A 64 p.toNat ≤ 1000000
/-- one byte, before the next process is looked for -/
def obR (A A' : Nat → Nat → Int) (it im om p : Int) : Prop :=
  (∃ ri ro b x1 x2 fn q o v : Int, ∃ A1 A2 A3 : Nat → Nat → Int, (A 63 p.toNat = ri) ∧ (A 65 p.toNat = ro) ∧ (A 53 (6000 * p + ri).toNat = b) ∧ (A1 = uA A 63 p.toNat (ri + 1)) ∧ (A2 = uA A1 69 p.toNat x1) ∧ (A3 = uA A2 70 p.toNat x2) ∧ (fn = (i32 b >>> (i32 4 &&& 31)).toInt) ∧ (q = (i32 b &&& i32 15).toInt) ∧ (o = (i32 ro ||| i32 q).toInt) ∧ (fn = 2) ∧ (v = (i32 o <<< (i32 4 &&& 31)).toInt) ∧ (A' = uA A3 65 p.toNat v)) ∨
  (∃ ri ro b x1 x2 fn q o o2 v : Int, ∃ A1 A2 A3 : Nat → Nat → Int, (A 63 p.toNat = ri) ∧ (A 65 p.toNat = ro) ∧ (A 53 (6000 * p + ri).toNat = b) ∧ (A1 = uA A 63 p.toNat (ri + 1)) ∧ (A2 = uA A1 69 p.toNat x1) ∧ (A3 = uA A2 70 p.toNat x2) ∧ (fn = (i32 b >>> (i32 4 &&& 31)).toInt) ∧ (q = (i32 b &&& i32 15).toInt) ∧ (o = (i32 ro ||| i32 q).toInt) ∧ (fn = 6) ∧ (o2 = (i32 o ^^^ i32 (-1)).toInt) ∧ (v = (i32 o2 <<< (i32 4 &&& 31)).toInt) ∧ (A' = uA A3 65 p.toNat v)) ∨
  (∃ ri ro b x1 x2 fn q o : Int, ∃ A1 A2 A3 A4 : Nat → Nat → Int, (A 63 p.toNat = ri) ∧ (A 65 p.toNat = ro) ∧ (A 53 (6000 * p + ri).toNat = b) ∧ (A1 = uA A 63 p.toNat (ri + 1)) ∧ (A2 = uA A1 69 p.toNat x1) ∧ (A3 = uA A2 70 p.toNat x2) ∧ (fn = (i32 b >>> (i32 4 &&& 31)).toInt) ∧ (q = (i32 b &&& i32 15).toInt) ∧ (o = (i32 ro ||| i32 q).toInt) ∧ (fn = 15) ∧ (A4 = uA A3 65 p.toNat 0) ∧ (opR A4 A' it im om p o)) ∨
  (∃ ri ro b x1 x2 fn q o : Int, ∃ A1 A2 A3 A4 : Nat → Nat → Int, (A 63 p.toNat = ri) ∧ (A 65 p.toNat = ro) ∧ (A 53 (6000 * p + ri).toNat = b) ∧ (A1 = uA A 63 p.toNat (ri + 1)) ∧ (A2 = uA A1 69 p.toNat x1) ∧ (A3 = uA A2 70 p.toNat x2) ∧ (fn = (i32 b >>> (i32 4 &&& 31)).toInt) ∧ (q = (i32 b &&& i32 15).toInt) ∧ (o = (i32 ro ||| i32 q).toInt) ∧ (fn ≠ 2 ∧ fn ≠ 6 ∧ fn ≠ 15) ∧ (A4 = uA A3 65 p.toNat 0) ∧ (acR A4 A' p fn o))
theorem obR_pfx {A A' : Nat → Nat → Int} {it im om p : Int} (ri ro b x1 x2 fn q o v : Int) (A1 A2 A3 : Nat → Nat → Int) (hi : A 63 p.toNat = ri) (ho : A 65 p.toNat = ro) (hb : A 53 (6000 * p + ri).toNat = b) (e1 : A1 = uA A 63 p.toNat (ri + 1)) (e2 : A2 = uA A1 69 p.toNat x1) (e3 : A3 = uA A2 70 p.toNat x2) (hf : fn = (i32 b >>> (i32 4 &&& 31)).toInt) (hq : q = (i32 b &&& i32 15).toInt) (hoo : o = (i32 ro ||| i32 q).toInt) (h : fn = 2) (hv : v = (i32 o <<< (i32 4 &&& 31)).toInt) (e : A' = uA A3 65 p.toNat v) : obR A A' it im om p := .inl ⟨ri, ro, b, x1, x2, fn, q, o, v, A1, A2, A3, hi, ho, hb, e1, e2, e3, hf, hq, hoo, h, hv, e⟩
theorem obR_nfx {A A' : Nat → Nat → Int} {it im om p : Int} (ri ro b x1 x2 fn q o o2 v : Int) (A1 A2 A3 : Nat → Nat → Int) (hi : A 63 p.toNat = ri) (ho : A 65 p.toNat = ro) (hb : A 53 (6000 * p + ri).toNat = b) (e1 : A1 = uA A 63 p.toNat (ri + 1)) (e2 : A2 = uA A1 69 p.toNat x1) (e3 : A3 = uA A2 70 p.toNat x2) (hf : fn = (i32 b >>> (i32 4 &&& 31)).toInt) (hq : q = (i32 b &&& i32 15).toInt) (hoo : o = (i32 ro ||| i32 q).toInt) (h : fn = 6) (h2 : o2 = (i32 o ^^^ i32 (-1)).toInt) (hv : v = (i32 o2 <<< (i32 4 &&& 31)).toInt) (e : A' = uA A3 65 p.toNat v) : obR A A' it im om p := .inr (.inl ⟨ri, ro, b, x1, x2, fn, q, o, o2, v, A1, A2, A3, hi, ho, hb, e1, e2, e3, hf, hq, hoo, h, h2, hv, e⟩)
theorem obR_opr {A A' : Nat → Nat → Int} {it im om p : Int} (ri ro b x1 x2 fn q o : Int) (A1 A2 A3 A4 : Nat → Nat → Int) (hi : A 63 p.toNat = ri) (ho : A 65 p.toNat = ro) (hb : A 53 (6000 * p + ri).toNat = b) (e1 : A1 = uA A 63 p.toNat (ri + 1)) (e2 : A2 = uA A1 69 p.toNat x1) (e3 : A3 = uA A2 70 p.toNat x2) (hf : fn = (i32 b >>> (i32 4 &&& 31)).toInt) (hq : q = (i32 b &&& i32 15).toInt) (hoo : o = (i32 ro ||| i32 q).toInt) (h : fn = 15) (e4 : A4 = uA A3 65 p.toNat 0) (k : opR A4 A' it im om p o) : obR A A' it im om p := .inr (.inr (.inl ⟨ri, ro, b, x1, x2, fn, q, o, A1, A2, A3, A4, hi, ho, hb, e1, e2, e3, hf, hq, hoo, h, e4, k⟩))
theorem obR_act {A A' : Nat → Nat → Int} {it im om p : Int} (ri ro b x1 x2 fn q o : Int) (A1 A2 A3 A4 : Nat → Nat → Int) (hi : A 63 p.toNat = ri) (ho : A 65 p.toNat = ro) (hb : A 53 (6000 * p + ri).toNat = b) (e1 : A1 = uA A 63 p.toNat (ri + 1)) (e2 : A2 = uA A1 69 p.toNat x1) (e3 : A3 = uA A2 70 p.toNat x2) (hf : fn = (i32 b >>> (i32 4 &&& 31)).toInt) (hq : q = (i32 b &&& i32 15).toInt) (hoo : o = (i32 ro ||| i32 q).toInt) (h : fn ≠ 2 ∧ fn ≠ 6 ∧ fn ≠ 15) (e4 : A4 = uA A3 65 p.toNat 0) (k : acR A4 A' p fn o) : obR A A' it im om p := .inr (.inr (.inr (⟨ri, ro, b, x1, x2, fn, q, o, A1, A2, A3, A4, hi, ho, hb, e1, e2, e3, hf, hq, hoo, h, e4, k⟩)))
/-- one byte, and who runs then -/
def obY (A A' : Nat → Nat → Int) (it im om p : Int) : Prop := A 66 p.toNat ≠ -1 ∧ ∃ A5 A6 : Nat → Nat → Int, obR A A5 it im om p ∧ ((A5 66 p.toNat = -1 ∧ dispR A5 A6 p) ∨ (A5 66 p.toNat ≠ -1 ∧ A6 = A5)) ∧ yR A6 A' p
/-- what a byte needs of the state: that what it makes is in order again -/
def Hob (A : Nat → Nat → Int) (it im om p : Int) : Prop := A 66 p.toNat ≠ -1 → (∀ A5, obR A A5 it im om p → Gb A5 p ∧ (A5 66 p.toNat = -1 → ∀ A6, dispR A5 A6 p → Gb A6 p)) ∧ (∀ q o : Int, q = (i32 (A 53 (6000 * p + A 63 p.toNat).toNat) &&& i32 15).toInt → o = (i32 (A 65 p.toNat) ||| i32 q).toInt → o = 17 → -1000000 ≤ A 60 p.toNat ∧ A 60 p.toNat ≤ 1000000) ∧ 0 ≤ A 63 p.toNat ∧ A 63 p.toNat ≤ 5999

set_option maxRecDepth 20000 in
set_option maxHeartbeats 4000000 in
theorem c_oneByte {X : jX} {dd : Nat} {c0 c1 : jC} {G : Nat → Int} {A : Nat → Nat → Int} {T : jH} {p : Int} {m0 m1 rw rn it im om ri ro ra b0 : Int} (hd : 9 ≤ dd) (hW : Wk G A) (e_m0 : A 72 ((2 * p)).toNat = m0) (e_m1 : A 72 (((2 * p) + 1)).toNat = m1) (e_rw : A 64 (p).toNat = rw) (e_rn : A 66 (p).toNat = rn) (e_it : G 111 = it) (e_im : G 110 = im) (e_om : G 113 = om) (e_ri : A 63 (p).toNat = ri) (e_ro : A 65 (p).toNat = ro) (e_ra : A 60 (p).toNat = ra) (e_b0 : A 53 (((6000 * p) + ri)).toNat = b0) (h_p : (-2147483648 : Int) ≤ p ∧ p ≤ 2147483647) (p_0 : 0 ≤ p) (p_1 : p ≤ 5) (p_2 : 0 ≤ m0) (p_3 : m0 ≤ 1099) (p_4 : 0 ≤ m1) (p_5 : m1 ≤ 1099) (p_6 : -1000000 ≤ rw) (p_7 : rw ≤ 1000000) (p_8 : 0 ≤ it) (p_9 : it ≤ im) (p_10 : im ≤ 200) (p_11 : 0 ≤ om) (p_12 : om ≤ 2000000000) (p_13 : Hob A (it) (im) (om) (p)) : wk X dd 379 [.ref 66, .int (i32 p)] (rV c0 c1 G A T) (fun o V' => ∃ (G' : Nat → Int) (A' : Nat → Nat → Int) (r : Int) (om2 : Int) (it2 : Int), V' = rV c0 c1 G' A' T ∧ o = .inl (some (.int (i32 r))) ∧ Wk G' A' ∧ Fr [111, 113] [59, 60, 61, 62, 63, 64, 65, 66, 67, 68, 69, 70, 71, 72, 73, 74, 75, 76, 77, 79, 80, 81, 82, 83, 84, 85] G A G' A' ∧ ((0 : Int) ≤ r ∧ r ≤ 1) ∧ G' 113 = om2 ∧ G' 111 = it2 ∧ ((r = 0 ∧ (rn = -1) ∧ (om2 = om) ∧ (it2 = it) ∧ (A' = A)) ∨ (r = 1 ∧ (om ≤ om2) ∧ (om2 ≤ om + 1) ∧ (it ≤ it2) ∧ (it2 ≤ im) ∧ (obY A A' (it) (im) (om) (p))))) := by
  obtain ⟨d, rfl⟩ : ∃ d, dd = d + 1 := ⟨dd - 1, by omega⟩
  refine wk_of (e := jm379) rfl (Nat.le_of_ble_eq_true rfl) ?_
  show wj X d jm379 (0, [(0, .ref 66), (1, .int (i32 (p)))], [], rV c0 c1 G A T) _
  have hF0 : Fr [111, 113] [59, 60, 61, 62, 63, 64, 65, 66, 67, 68, 69, 70, 71, 72, 73, 74, 75, 76, 77, 79, 80, 81, 82, 83, 84, 85] G A G A := Fr_rf
  have b_m0 : (-2147483648 : Int) ≤ m0 ∧ m0 ≤ 2147483647 := e_m0 ▸ hW.2 72 _
  have b_m1 : (-2147483648 : Int) ≤ m1 ∧ m1 ≤ 2147483647 := e_m1 ▸ hW.2 72 _
  have b_rw : (-2147483648 : Int) ≤ rw ∧ rw ≤ 2147483647 := e_rw ▸ hW.2 64 _
  have b_rn : (-2147483648 : Int) ≤ rn ∧ rn ≤ 2147483647 := e_rn ▸ hW.2 66 _
  have b_it : (-2147483648 : Int) ≤ it ∧ it ≤ 2147483647 := e_it ▸ hW.1 111
  have b_im : (-2147483648 : Int) ≤ im ∧ im ≤ 2147483647 := e_im ▸ hW.1 110
  have b_om : (-2147483648 : Int) ≤ om ∧ om ≤ 2147483647 := e_om ▸ hW.1 113
  have b_ri : (-2147483648 : Int) ≤ ri ∧ ri ≤ 2147483647 := e_ri ▸ hW.2 63 _
  have b_ro : (-2147483648 : Int) ≤ ro ∧ ro ≤ 2147483647 := e_ro ▸ hW.2 65 _
  have b_ra : (-2147483648 : Int) ≤ ra ∧ ra ≤ 2147483647 := e_ra ▸ hW.2 60 _
  have b_b0 : (-2147483648 : Int) ≤ b0 ∧ b0 ≤ 2147483647 := e_b0 ▸ hW.2 53 _
  refine jx_ld (pc' := 1) (l' := [(0, .ref 66), (1, .int (i32 (p)))]) (st' := [.ref 66]) rfl (jl_aloadn rfl) ?_
  refine jr_get (pc' := 4) (i := 97) (v := .ref 133) rfl rfl (by decide) rfl rfl ?_
  refine jx_ld (pc' := 5) (l' := [(0, .ref 66), (1, .int (i32 (p)))]) (st' := [.int (i32 (p)), .ref 133]) rfl (jl_iloadn rfl) ?_
  refine jr_ldv (pc' := 6) (i := 66) (m := 6) (z := p) (y := rn) rfl (by decide) rfl (by decide) (by omega) (by omega) rfl (show A 66 (p).toNat = rn from (e_rn)) ?_
  refine jx_ar (pc' := 7) (st' := [.int (i32 (-1)), .int (i32 (rn))]) rfl rfl rfl rfl ?_
  refine jx_icmp_ne (pc' := 10) (tg := 12) rfl rfl rfl (Int.le_trans (by decide : (-2147483648 : Int) ≤ -2147483648) b_rn.1) (Int.le_trans b_rn.2 (by decide : (2147483647 : Int) ≤ 2147483647)) (by decide) (by decide) (fun h1 => ?_) (fun h1 => ?_)
  · have _q := h1
    obtain ⟨hH1, hH2, hH3, hH4⟩ := p_13 (by rw [show A 66 (p).toNat = rn from e_rn]; omega); rw [show A 63 (p).toNat = ri from e_ri] at hH3 hH4
    refine jx_ld (pc' := 13) (l' := [(0, .ref 66), (1, .int (i32 (p)))]) (st' := [.ref 66]) rfl (jl_aloadn rfl) ?_
    refine jr_get (pc' := 16) (i := 83) (v := .ref 120) rfl rfl (by decide) rfl rfl ?_
    refine jx_ar (pc' := 19) (st' := [.int (i32 (6000)), .ref 120]) rfl rfl rfl rfl ?_
    refine jx_ld (pc' := 20) (l' := [(0, .ref 66), (1, .int (i32 (p)))]) (st' := [.int (i32 (p)), .int (i32 (6000)), .ref 120]) rfl (jl_iloadn rfl) ?_
    refine jx_mul (pc' := 21) rfl rfl ?_
    refine jx_ld (pc' := 22) (l' := [(0, .ref 66), (1, .int (i32 (p)))]) (st' := [.ref 66, .int (i32 ((6000 * p))), .ref 120]) rfl (jl_aloadn rfl) ?_
    refine jr_get (pc' := 25) (i := 94) (v := .ref 130) rfl rfl (by decide) rfl rfl ?_
    refine jx_ld (pc' := 26) (l' := [(0, .ref 66), (1, .int (i32 (p)))]) (st' := [.int (i32 (p)), .ref 130, .int (i32 ((6000 * p))), .ref 120]) rfl (jl_iloadn rfl) ?_
    refine jr_ldv (pc' := 27) (i := 63) (m := 6) (z := p) (y := ri) rfl (by decide) rfl (by decide) (by omega) (by omega) rfl (show A 63 (p).toNat = ri from (e_ri)) ?_
    refine jx_add (pc' := 28) rfl rfl ?_
    refine jr_ldv (pc' := 29) (i := 53) (m := 36000) (z := ((6000 * p) + ri)) (y := b0) rfl (by decide) rfl (by decide) (by omega) (by omega) rfl (show A 53 (((6000 * p) + ri)).toNat = b0 from (e_b0)) ?_
    refine jx_ld (pc' := 30) (l' := jSto1 [(0, .ref 66), (1, .int (i32 (p)))] 2 (.int (i32 (b0)))) (st' := []) rfl rfl ?_
    obtain ⟨L2, eL2⟩ : ∃ q, q = jSto1 [(0, .ref 66), (1, .int (i32 (p)))] 2 (.int (i32 (b0))) := ⟨_, rfl⟩
    rw [← eL2]
    have gL2_0 : jGet L2 0 = some (.ref 66) := eL2 ▸ jg_ne (by decide) (rfl : jGet [(0, .ref 66), (1, .int (i32 (p)))] 0 = some (.ref 66)) rfl
    have gL2_1 : jGet L2 1 = some (.int (i32 (p))) := eL2 ▸ jg_ne (by decide) (rfl : jGet [(0, .ref 66), (1, .int (i32 (p)))] 1 = some (.int (i32 (p)))) rfl
    have gL2_2 : jGet L2 2 = some (.int (i32 (b0))) := eL2 ▸ jg_eq
    refine jx_ld (pc' := 31) (l' := L2) (st' := [.ref 66]) rfl (jl_aloadn gL2_0) ?_
    refine jr_get (pc' := 34) (i := 94) (v := .ref 130) rfl rfl (by decide) rfl rfl ?_
    refine jx_ld (pc' := 35) (l' := L2) (st' := [.int (i32 (p)), .ref 130]) rfl (jl_iloadn gL2_1) ?_
    refine jx_ar (pc' := 36) (st' := [.int (i32 (p)), .ref 130, .int (i32 (p)), .ref 130]) rfl rfl rfl rfl ?_
    refine jr_ldv (pc' := 37) (i := 63) (m := 6) (z := p) (y := ri) rfl (by decide) rfl (by decide) (by omega) (by omega) rfl (show A 63 (p).toNat = ri from (e_ri)) ?_
    refine jx_ar (pc' := 38) (st' := [.int (i32 (1)), .int (i32 (ri)), .int (i32 (p)), .ref 130]) rfl rfl rfl rfl ?_
    refine jx_add (pc' := 39) rfl rfl ?_
    refine jr_st (pc' := 40) (i := 63) (m := 6) (z := p) (y := (ri + 1)) rfl (by decide) rfl (by decide) (by omega) (by omega) rfl ?_
    have hW4 : Wk G (uA A 63 (p).toNat ((ri + 1))) := Wk_a hW (show (-2147483648 : Int) ≤ (ri + 1) by omega) (show (ri + 1) ≤ (2147483647 : Int) by omega)
    have hF5 := Fr_a (z := (ri + 1)) (k := 63) (n := (p).toNat) hF0 (by decide)
    obtain ⟨A3, eA3⟩ : ∃ q, q = uA A 63 (p).toNat ((ri + 1)) := ⟨_, rfl⟩
    rw [← eA3]
    rw [← eA3] at hW4 hF5
    have q6 : A3 63 (p).toNat = (ri + 1) := by rw [eA3]; exact uA_eq
    refine jx_ld (pc' := 41) (l' := L2) (st' := [.ref 66]) rfl (jl_aloadn gL2_0) ?_
    refine jr_get (pc' := 44) (i := 100) (v := .ref 136) rfl rfl (by decide) rfl rfl ?_
    refine jx_ld (pc' := 45) (l' := L2) (st' := [.int (i32 (p)), .ref 136]) rfl (jl_iloadn gL2_1) ?_
    refine jx_ar (pc' := 46) (st' := [.int (i32 (p)), .ref 136, .int (i32 (p)), .ref 136]) rfl rfl rfl rfl ?_
    have b7 : (-2147483648 : Int) ≤ A 69 (p).toNat ∧ A 69 (p).toNat ≤ 2147483647 := hW.2 69 _
    refine jr_ldv (pc' := 47) (i := 69) (m := 6) (z := p) (y := A 69 (p).toNat) rfl (by decide) rfl (by decide) (by omega) (by omega) rfl (show A3 69 (p).toNat = A 69 (p).toNat from (congrFun ((congrFun eA3 69).trans (uA_ne (by decide))) _)) ?_
    refine jx_ar (pc' := 48) (st' := [.int (i32 (1)), .int (i32 (A 69 (p).toNat)), .int (i32 (p)), .ref 136]) rfl rfl rfl rfl ?_
    refine jx_add (pc' := 49) rfl rfl ?_
    obtain ⟨v8, ev8⟩ : ∃ z, z = (i32 (A 69 (p).toNat + 1)).toInt := ⟨_, rfl⟩; have fv8 : i32 (A 69 (p).toNat + 1) = i32 v8 := (by rw [ev8]; exact (i32_of _).symm); rw [fv8]; have rv8 : (-2147483648 : Int) ≤ v8 ∧ v8 ≤ 2147483647 := ev8 ▸ i32_rg _
    refine jr_st (pc' := 50) (i := 69) (m := 6) (z := p) (y := v8) rfl (by decide) rfl (by decide) (by omega) (by omega) rfl ?_
    have hW10 : Wk G (uA A3 69 (p).toNat (v8)) := Wk_a hW4 (show (-2147483648 : Int) ≤ v8 by omega) (show v8 ≤ (2147483647 : Int) by omega)
    have hF11 := Fr_a (z := v8) (k := 69) (n := (p).toNat) hF5 (by decide)
    obtain ⟨A9, eA9⟩ : ∃ q, q = uA A3 69 (p).toNat (v8) := ⟨_, rfl⟩
    rw [← eA9]
    rw [← eA9] at hW10 hF11
    have q12 : A9 69 (p).toNat = v8 := by rw [eA9]; exact uA_eq
    refine jx_ld (pc' := 51) (l' := L2) (st' := [.ref 66]) rfl (jl_aloadn gL2_0) ?_
    refine jr_get (pc' := 54) (i := 101) (v := .ref 137) rfl rfl (by decide) rfl rfl ?_
    refine jx_ld (pc' := 55) (l' := L2) (st' := [.int (i32 (p)), .ref 137]) rfl (jl_iloadn gL2_1) ?_
    refine jx_ar (pc' := 56) (st' := [.int (i32 (p)), .ref 137, .int (i32 (p)), .ref 137]) rfl rfl rfl rfl ?_
    have b13 : (-2147483648 : Int) ≤ A 70 (p).toNat ∧ A 70 (p).toNat ≤ 2147483647 := hW.2 70 _
    refine jr_ldv (pc' := 57) (i := 70) (m := 6) (z := p) (y := A 70 (p).toNat) rfl (by decide) rfl (by decide) (by omega) (by omega) rfl (show A9 70 (p).toNat = A 70 (p).toNat from (congrFun (((congrFun eA9 70).trans (uA_ne (by decide))).trans ((congrFun eA3 70).trans (uA_ne (by decide)))) _)) ?_
    refine jx_ar (pc' := 58) (st' := [.int (i32 (1)), .int (i32 (A 70 (p).toNat)), .int (i32 (p)), .ref 137]) rfl rfl rfl rfl ?_
    refine jx_add (pc' := 59) rfl rfl ?_
    obtain ⟨v14, ev14⟩ : ∃ z, z = (i32 (A 70 (p).toNat + 1)).toInt := ⟨_, rfl⟩; have fv14 : i32 (A 70 (p).toNat + 1) = i32 v14 := (by rw [ev14]; exact (i32_of _).symm); rw [fv14]; have rv14 : (-2147483648 : Int) ≤ v14 ∧ v14 ≤ 2147483647 := ev14 ▸ i32_rg _
    refine jr_st (pc' := 60) (i := 70) (m := 6) (z := p) (y := v14) rfl (by decide) rfl (by decide) (by omega) (by omega) rfl ?_
    have hW16 : Wk G (uA A9 70 (p).toNat (v14)) := Wk_a hW10 (show (-2147483648 : Int) ≤ v14 by omega) (show v14 ≤ (2147483647 : Int) by omega)
    have hF17 := Fr_a (z := v14) (k := 70) (n := (p).toNat) hF11 (by decide)
    obtain ⟨A15, eA15⟩ : ∃ q, q = uA A9 70 (p).toNat (v14) := ⟨_, rfl⟩
    rw [← eA15]
    rw [← eA15] at hW16 hF17
    have q18 : A15 70 (p).toNat = v14 := by rw [eA15]; exact uA_eq
    refine jx_ld (pc' := 61) (l' := L2) (st' := [.int (i32 (b0))]) rfl (jl_iloadn gL2_2) ?_
    refine jx_ar (pc' := 62) (st' := [.int (i32 (4)), .int (i32 (b0))]) rfl rfl rfl rfl ?_
    refine jx_shr (pc' := 63) rfl rfl ?_
    obtain ⟨b19, eb19⟩ : ∃ z, z = (i32 (b0) >>> (i32 (4) &&& 31)).toInt := ⟨_, rfl⟩
    rw [← eb19]
    have rb19 : (-2147483648 : Int) ≤ b19 ∧ b19 ≤ 2147483647 := eb19 ▸ i32_rg _
    have _q : True := trivial
    refine jx_ld (pc' := 64) (l' := jSto1 L2 3 (.int (i32 (b19)))) (st' := []) rfl rfl ?_
    obtain ⟨L20, eL20⟩ : ∃ q, q = jSto1 L2 3 (.int (i32 (b19))) := ⟨_, rfl⟩
    rw [← eL20]
    have gL20_0 : jGet L20 0 = some (.ref 66) := eL20 ▸ jg_ne (by decide) gL2_0 rfl
    have gL20_1 : jGet L20 1 = some (.int (i32 (p))) := eL20 ▸ jg_ne (by decide) gL2_1 rfl
    have gL20_2 : jGet L20 2 = some (.int (i32 (b0))) := eL20 ▸ jg_ne (by decide) gL2_2 rfl
    have gL20_3 : jGet L20 3 = some (.int (i32 (b19))) := eL20 ▸ jg_eq
    refine jx_ld (pc' := 65) (l' := L20) (st' := [.ref 66]) rfl (jl_aloadn gL20_0) ?_
    refine jr_get (pc' := 68) (i := 96) (v := .ref 132) rfl rfl (by decide) rfl rfl ?_
    refine jx_ld (pc' := 69) (l' := L20) (st' := [.int (i32 (p)), .ref 132]) rfl (jl_iloadn gL20_1) ?_
    refine jr_ldv (pc' := 70) (i := 65) (m := 6) (z := p) (y := ro) rfl (by decide) rfl (by decide) (by omega) (by omega) rfl (show A15 65 (p).toNat = ro from (congrFun (((congrFun eA15 65).trans (uA_ne (by decide))).trans (((congrFun eA9 65).trans (uA_ne (by decide))).trans ((congrFun eA3 65).trans (uA_ne (by decide))))) _).trans (e_ro)) ?_
    refine jx_ld (pc' := 71) (l' := L20) (st' := [.int (i32 (b0)), .int (i32 (ro))]) rfl (jl_iloadn gL20_2) ?_
    refine jx_ar (pc' := 73) (st' := [.int (i32 (15)), .int (i32 (b0)), .int (i32 (ro))]) rfl rfl rfl rfl ?_
    refine jx_and (pc' := 74) rfl rfl ?_
    obtain ⟨b21, eb21⟩ : ∃ z, z = (i32 (b0) &&& i32 (15)).toInt := ⟨_, rfl⟩
    rw [← eb21]
    have rb21 : (-2147483648 : Int) ≤ b21 ∧ b21 ≤ 2147483647 := eb21 ▸ i32_rg _
    have _q : True := trivial
    refine jx_or (pc' := 75) rfl rfl ?_
    obtain ⟨b22, eb22⟩ : ∃ z, z = (i32 (ro) ||| i32 (b21)).toInt := ⟨_, rfl⟩
    rw [← eb22]
    have rb22 : (-2147483648 : Int) ≤ b22 ∧ b22 ≤ 2147483647 := eb22 ▸ i32_rg _
    have _q : True := trivial
    refine jx_ld (pc' := 77) (l' := jSto1 L20 4 (.int (i32 (b22)))) (st' := []) rfl rfl ?_
    obtain ⟨L23, eL23⟩ : ∃ q, q = jSto1 L20 4 (.int (i32 (b22))) := ⟨_, rfl⟩
    rw [← eL23]
    have gL23_0 : jGet L23 0 = some (.ref 66) := eL23 ▸ jg_ne (by decide) gL20_0 rfl
    have gL23_1 : jGet L23 1 = some (.int (i32 (p))) := eL23 ▸ jg_ne (by decide) gL20_1 rfl
    have gL23_2 : jGet L23 2 = some (.int (i32 (b0))) := eL23 ▸ jg_ne (by decide) gL20_2 rfl
    have gL23_3 : jGet L23 3 = some (.int (i32 (b19))) := eL23 ▸ jg_ne (by decide) gL20_3 rfl
    have gL23_4 : jGet L23 4 = some (.int (i32 (b22))) := eL23 ▸ jg_eq
    refine jx_ld (pc' := 78) (l' := L23) (st' := [.int (i32 (b19))]) rfl (jl_iloadn gL23_3) ?_
    refine jx_ar (pc' := 79) (st' := [.int (i32 (2)), .int (i32 (b19))]) rfl rfl rfl rfl ?_
    refine jx_icmp_ne (pc' := 82) (tg := 95) rfl rfl rfl (Int.le_trans (by decide : (-2147483648 : Int) ≤ -2147483648) rb19.1) (Int.le_trans rb19.2 (by decide : (2147483647 : Int) ≤ 2147483647)) (by decide) (by decide) (fun h24 => ?_) (fun h24 => ?_)
    · have _q := h24
      refine jx_ld (pc' := 96) (l' := L23) (st' := [.int (i32 (b19))]) rfl (jl_iloadn gL23_3) ?_
      refine jx_ar (pc' := 98) (st' := [.int (i32 (6)), .int (i32 (b19))]) rfl rfl rfl rfl ?_
      refine jx_icmp_ne (pc' := 101) (tg := 116) rfl rfl rfl (Int.le_trans (by decide : (-2147483648 : Int) ≤ -2147483648) rb19.1) (Int.le_trans rb19.2 (by decide : (2147483647 : Int) ≤ 2147483647)) (by decide) (by decide) (fun h25 => ?_) (fun h25 => ?_)
      · have _q := h25
        refine jx_ld (pc' := 117) (l' := L23) (st' := [.ref 66]) rfl (jl_aloadn gL23_0) ?_
        refine jr_get (pc' := 120) (i := 96) (v := .ref 132) rfl rfl (by decide) rfl rfl ?_
        refine jx_ld (pc' := 121) (l' := L23) (st' := [.int (i32 (p)), .ref 132]) rfl (jl_iloadn gL23_1) ?_
        refine jx_ar (pc' := 122) (st' := [.int (i32 (0)), .int (i32 (p)), .ref 132]) rfl rfl rfl rfl ?_
        refine jr_st (pc' := 123) (i := 65) (m := 6) (z := p) (y := 0) rfl (by decide) rfl (by decide) (by omega) (by omega) rfl ?_
        have hW27 : Wk G (uA A15 65 (p).toNat (0)) := Wk_a hW16 (show (-2147483648 : Int) ≤ 0 by omega) (show 0 ≤ (2147483647 : Int) by omega)
        have hF28 := Fr_a (z := 0) (k := 65) (n := (p).toNat) hF17 (by decide)
        obtain ⟨A26, eA26⟩ : ∃ q, q = uA A15 65 (p).toNat (0) := ⟨_, rfl⟩
        rw [← eA26]
        rw [← eA26] at hW27 hF28
        have q29 : A26 65 (p).toNat = 0 := by rw [eA26]; exact uA_eq
        refine jx_ld (pc' := 124) (l' := L23) (st' := [.int (i32 (b19))]) rfl (jl_iloadn gL23_3) ?_
        refine jx_ar (pc' := 126) (st' := [.int (i32 (15)), .int (i32 (b19))]) rfl rfl rfl rfl ?_
        refine jx_icmp_ne (pc' := 129) (tg := 139) rfl rfl rfl (Int.le_trans (by decide : (-2147483648 : Int) ≤ -2147483648) rb19.1) (Int.le_trans rb19.2 (by decide : (2147483647 : Int) ≤ 2147483647)) (by decide) (by decide) (fun h30 => ?_) (fun h30 => ?_)
        · have _q := h30
          refine jx_ld (pc' := 140) (l' := L23) (st' := [.ref 66]) rfl (jl_aloadn gL23_0) ?_
          refine jx_ld (pc' := 141) (l' := L23) (st' := [.int (i32 (p)), .ref 66]) rfl (jl_iloadn gL23_1) ?_
          refine jx_ld (pc' := 142) (l' := L23) (st' := [.int (i32 (b19)), .int (i32 (p)), .ref 66]) rfl (jl_iloadn gL23_3) ?_
          refine jx_ld (pc' := 144) (l' := L23) (st' := [.int (i32 (b22)), .int (i32 (b19)), .int (i32 (p)), .ref 66]) rfl (jl_iload gL23_4) ?_
          have b31 : (-2147483648 : Int) ≤ A 61 (p).toNat ∧ A 61 (p).toNat ≤ 2147483647 := hW.2 61 _
          refine jx_vr (pc' := 147) (as := [.int (i32 (p)), .int (i32 (b19)), .int (i32 (b22))]) (st := []) rfl rfl rfl rfl ⟨rfl, rfl, Nat.le_of_ble_eq_true rfl⟩ rfl rfl (c_act (dd := d) (hd := by omega) (hW := hW27) (p := p) (fn := b19) (op1 := b22) (m0 := m0) (e_m0 := show A26 72 ((2 * p)).toNat = m0 from (congrFun (((congrFun eA26 72).trans (uA_ne (by decide))).trans (((congrFun eA15 72).trans (uA_ne (by decide))).trans (((congrFun eA9 72).trans (uA_ne (by decide))).trans ((congrFun eA3 72).trans (uA_ne (by decide)))))) _).trans (e_m0)) (m1 := m1) (e_m1 := show A26 72 (((2 * p) + 1)).toNat = m1 from (congrFun (((congrFun eA26 72).trans (uA_ne (by decide))).trans (((congrFun eA15 72).trans (uA_ne (by decide))).trans (((congrFun eA9 72).trans (uA_ne (by decide))).trans ((congrFun eA3 72).trans (uA_ne (by decide)))))) _).trans (e_m1)) (rw := rw) (e_rw := show A26 64 (p).toNat = rw from (congrFun (((congrFun eA26 64).trans (uA_ne (by decide))).trans (((congrFun eA15 64).trans (uA_ne (by decide))).trans (((congrFun eA9 64).trans (uA_ne (by decide))).trans ((congrFun eA3 64).trans (uA_ne (by decide)))))) _).trans (e_rw)) (rn := rn) (e_rn := show A26 66 (p).toNat = rn from (congrFun (((congrFun eA26 66).trans (uA_ne (by decide))).trans (((congrFun eA15 66).trans (uA_ne (by decide))).trans (((congrFun eA9 66).trans (uA_ne (by decide))).trans ((congrFun eA3 66).trans (uA_ne (by decide)))))) _).trans (e_rn)) (ri := (ri + 1)) (e_ri := show A26 63 (p).toNat = (ri + 1) from (congrFun (((congrFun eA26 63).trans (uA_ne (by decide))).trans (((congrFun eA15 63).trans (uA_ne (by decide))).trans ((congrFun eA9 63).trans (uA_ne (by decide))))) _).trans (q6)) (ra := ra) (e_ra := show A26 60 (p).toNat = ra from (congrFun (((congrFun eA26 60).trans (uA_ne (by decide))).trans (((congrFun eA15 60).trans (uA_ne (by decide))).trans (((congrFun eA9 60).trans (uA_ne (by decide))).trans ((congrFun eA3 60).trans (uA_ne (by decide)))))) _).trans (e_ra)) (rb := A 61 (p).toNat) (e_rb := show A26 61 (p).toNat = A 61 (p).toNat from (congrFun (((congrFun eA26 61).trans (uA_ne (by decide))).trans (((congrFun eA15 61).trans (uA_ne (by decide))).trans (((congrFun eA9 61).trans (uA_ne (by decide))).trans ((congrFun eA3 61).trans (uA_ne (by decide)))))) _))  (h_p := ⟨(Int.le_trans (by decide : (-2147483648 : Int) ≤ -2147483648) h_p.1), (Int.le_trans h_p.2 (by decide : (2147483647 : Int) ≤ 2147483647))⟩) (h_fn := ⟨(Int.le_trans (by decide : (-2147483648 : Int) ≤ -2147483648) rb19.1), (Int.le_trans rb19.2 (by decide : (2147483647 : Int) ≤ 2147483647))⟩) (h_op1 := ⟨(Int.le_trans (by decide : (-2147483648 : Int) ≤ -2147483648) rb22.1), (Int.le_trans rb22.2 (by decide : (2147483647 : Int) ≤ 2147483647))⟩)  (p_0 := by omega) (p_1 := by omega) (p_2 := by omega) (p_3 := by omega) (p_4 := by omega) (p_5 := by omega) (p_6 := by omega) (p_7 := by omega) (p_8 := by omega)) (fun o V' hq => ?_)
          obtain ⟨G32, A33, rfl, rfl, hW34, hF35, p36, -⟩ := hq
          have hF38 := Fr_tr hF28 hF35 (Fr_sub (by decide)) (Fr_sub (by decide))
          refine .inl ⟨rfl, ?_⟩
          have hob : obR A A33 it im om p := (obR_act _ _ _ _ _ _ _ _ _ _ _ _ e_ri e_ro e_b0 eA3 eA9 eA15 eb19 eb21 eb22 (by omega) eA26 p36); obtain ⟨hg0, hgD⟩ := hH1 _ hob; have hg := hg0; unfold Gb at hg; have hk39 : A33 66 (p).toNat = A33 66 (p).toNat := rfl
          refine jx_ld (pc' := 148) (l' := L23) (st' := [.ref 66]) rfl (jl_aloadn gL23_0) ?_
          refine jr_get (pc' := 151) (i := 97) (v := .ref 133) rfl rfl (by decide) rfl rfl ?_
          refine jx_ld (pc' := 152) (l' := L23) (st' := [.int (i32 (p)), .ref 133]) rfl (jl_iloadn gL23_1) ?_
          have b40 : (-2147483648 : Int) ≤ A33 66 (p).toNat ∧ A33 66 (p).toNat ≤ 2147483647 := hW34.2 66 _
          refine jr_ldv (pc' := 153) (i := 66) (m := 6) (z := p) (y := A33 66 (p).toNat) rfl (by decide) rfl (by decide) (by omega) (by omega) rfl (show A33 66 (p).toNat = A33 66 (p).toNat from rfl) ?_
          refine jx_ar (pc' := 154) (st' := [.int (i32 (-1)), .int (i32 (A33 66 (p).toNat))]) rfl rfl rfl rfl ?_
          refine jx_icmp_ne (pc' := 157) (tg := 162) rfl rfl rfl (Int.le_trans (by decide : (-2147483648 : Int) ≤ -2147483648) b40.1) (Int.le_trans b40.2 (by decide : (2147483647 : Int) ≤ 2147483647)) (by decide) (by decide) (fun h41 => ?_) (fun h41 => ?_)
          · have _q := h41
            have hk42 : A33 64 (p).toNat = A33 64 (p).toNat := rfl
            refine jx_ld (pc' := 163) (l' := L23) (st' := [.ref 66]) rfl (jl_aloadn gL23_0) ?_
            refine jx_ld (pc' := 164) (l' := L23) (st' := [.int (i32 (p)), .ref 66]) rfl (jl_iloadn gL23_1) ?_
            have b43 : (-2147483648 : Int) ≤ A33 72 ((2 * p)).toNat ∧ A33 72 ((2 * p)).toNat ≤ 2147483647 := hW34.2 72 _
            have b44 : (-2147483648 : Int) ≤ A33 72 (((2 * p) + 1)).toNat ∧ A33 72 (((2 * p) + 1)).toNat ≤ 2147483647 := hW34.2 72 _
            refine jx_vr (pc' := 167) (as := [.int (i32 (p))]) (st := []) rfl rfl rfl rfl ⟨rfl, rfl, Nat.le_of_ble_eq_true rfl⟩ rfl rfl (c_yield0 (dd := d) (hd := by omega) (hW := hW34) (p := p) (rn0 := A33 66 (p).toNat) (e_rn0 := show A33 66 (p).toNat = A33 66 (p).toNat from rfl) (m0 := A33 72 ((2 * p)).toNat) (e_m0 := show A33 72 ((2 * p)).toNat = A33 72 ((2 * p)).toNat from rfl) (m1 := A33 72 (((2 * p) + 1)).toNat) (e_m1 := show A33 72 (((2 * p) + 1)).toNat = A33 72 (((2 * p) + 1)).toNat from rfl)  (h_p := ⟨(Int.le_trans (by decide : (-2147483648 : Int) ≤ -2147483648) h_p.1), (Int.le_trans h_p.2 (by decide : (2147483647 : Int) ≤ 2147483647))⟩)  (p_0 := by omega) (p_1 := by omega) (p_2 := by omega) (p_3 := by omega) (p_4 := by omega) (p_5 := by omega) (p_6 := by omega)) (fun o V' hq => ?_)
            obtain ⟨G45, A46, rfl, rfl, hW47, hF48, p49, -⟩ := hq
            have hF51 := Fr_tr hF38 hF48 (Fr_sub (by decide)) (Fr_sub (by decide))
            refine .inl ⟨rfl, ?_⟩
            refine jx_ar (pc' := 168) (st' := [.int (i32 (1))]) rfl rfl rfl rfl ?_
            refine jx_rt (v := some (.int (i32 (1)))) rfl rfl rfl rfl rfl (by first | rfl | exact jRet_b (by omega)) ?_
            exact ⟨_, _, _, om, it, rfl, rfl, hW47, hF51, by omega, ((hF48.1 113 rfl).trans ((hF35.1 113 rfl).trans (e_om))), ((hF48.1 111 rfl).trans ((hF35.1 111 rfl).trans (e_it))), by first | exact Or.inr ((⟨by omega, by omega, by omega, by omega, by omega, ⟨by rw [show A 66 (p).toNat = rn from e_rn]; omega, _, _, hob, Or.inr ⟨by omega, rfl⟩, p49⟩⟩))⟩
          · have _q := h41
            refine jx_ld (pc' := 158) (l' := L23) (st' := [.ref 66]) rfl (jl_aloadn gL23_0) ?_
            refine jx_ld (pc' := 159) (l' := L23) (st' := [.int (i32 (p)), .ref 66]) rfl (jl_iloadn gL23_1) ?_
            have b52 : (-2147483648 : Int) ≤ A33 72 ((2 * p)).toNat ∧ A33 72 ((2 * p)).toNat ≤ 2147483647 := hW34.2 72 _
            have b53 : (-2147483648 : Int) ≤ A33 72 (((2 * p) + 1)).toNat ∧ A33 72 (((2 * p) + 1)).toNat ≤ 2147483647 := hW34.2 72 _
            refine jx_vr (pc' := 162) (as := [.int (i32 (p))]) (st := []) rfl rfl rfl rfl ⟨rfl, rfl, Nat.le_of_ble_eq_true rfl⟩ rfl rfl (c_dispatch (dd := d) (hd := by omega) (hW := hW34) (p := p) (m0 := A33 72 ((2 * p)).toNat) (e_m0 := show A33 72 ((2 * p)).toNat = A33 72 ((2 * p)).toNat from rfl) (m1 := A33 72 (((2 * p) + 1)).toNat) (e_m1 := show A33 72 (((2 * p) + 1)).toNat = A33 72 (((2 * p) + 1)).toNat from rfl)  (h_p := ⟨(Int.le_trans (by decide : (-2147483648 : Int) ≤ -2147483648) h_p.1), (Int.le_trans h_p.2 (by decide : (2147483647 : Int) ≤ 2147483647))⟩)  (p_0 := by omega) (p_1 := by omega) (p_2 := by omega) (p_3 := by omega) (p_4 := by omega) (p_5 := by omega)) (fun o V' hq => ?_)
            obtain ⟨G54, A55, rfl, rfl, hW56, hF57, p58, -⟩ := hq
            have hF60 := Fr_tr hF38 hF57 (Fr_sub (by decide)) (Fr_sub (by decide))
            refine .inl ⟨rfl, ?_⟩
            have hgd := hgD (by omega) _ p58; unfold Gb at hgd; have hk61 : A55 64 (p).toNat = A55 64 (p).toNat := rfl
            refine jx_ld (pc' := 163) (l' := L23) (st' := [.ref 66]) rfl (jl_aloadn gL23_0) ?_
            refine jx_ld (pc' := 164) (l' := L23) (st' := [.int (i32 (p)), .ref 66]) rfl (jl_iloadn gL23_1) ?_
            have b62 : (-2147483648 : Int) ≤ A55 66 (p).toNat ∧ A55 66 (p).toNat ≤ 2147483647 := hW56.2 66 _
            have b63 : (-2147483648 : Int) ≤ A55 72 ((2 * p)).toNat ∧ A55 72 ((2 * p)).toNat ≤ 2147483647 := hW56.2 72 _
            have b64 : (-2147483648 : Int) ≤ A55 72 (((2 * p) + 1)).toNat ∧ A55 72 (((2 * p) + 1)).toNat ≤ 2147483647 := hW56.2 72 _
            refine jx_vr (pc' := 167) (as := [.int (i32 (p))]) (st := []) rfl rfl rfl rfl ⟨rfl, rfl, Nat.le_of_ble_eq_true rfl⟩ rfl rfl (c_yield0 (dd := d) (hd := by omega) (hW := hW56) (p := p) (rn0 := A55 66 (p).toNat) (e_rn0 := show A55 66 (p).toNat = A55 66 (p).toNat from rfl) (m0 := A55 72 ((2 * p)).toNat) (e_m0 := show A55 72 ((2 * p)).toNat = A55 72 ((2 * p)).toNat from rfl) (m1 := A55 72 (((2 * p) + 1)).toNat) (e_m1 := show A55 72 (((2 * p) + 1)).toNat = A55 72 (((2 * p) + 1)).toNat from rfl)  (h_p := ⟨(Int.le_trans (by decide : (-2147483648 : Int) ≤ -2147483648) h_p.1), (Int.le_trans h_p.2 (by decide : (2147483647 : Int) ≤ 2147483647))⟩)  (p_0 := by omega) (p_1 := by omega) (p_2 := by omega) (p_3 := by omega) (p_4 := by omega) (p_5 := by omega) (p_6 := by omega)) (fun o V' hq => ?_)
            obtain ⟨G65, A66, rfl, rfl, hW67, hF68, p69, -⟩ := hq
            have hF71 := Fr_tr hF60 hF68 (Fr_sub (by decide)) (Fr_sub (by decide))
            refine .inl ⟨rfl, ?_⟩
            refine jx_ar (pc' := 168) (st' := [.int (i32 (1))]) rfl rfl rfl rfl ?_
            refine jx_rt (v := some (.int (i32 (1)))) rfl rfl rfl rfl rfl (by first | rfl | exact jRet_b (by omega)) ?_
            exact ⟨_, _, _, om, it, rfl, rfl, hW67, hF71, by omega, ((hF68.1 113 rfl).trans ((hF57.1 113 rfl).trans ((hF35.1 113 rfl).trans (e_om)))), ((hF68.1 111 rfl).trans ((hF57.1 111 rfl).trans ((hF35.1 111 rfl).trans (e_it)))), by first | exact Or.inr ((⟨by omega, by omega, by omega, by omega, by omega, ⟨by rw [show A 66 (p).toNat = rn from e_rn]; omega, _, _, hob, Or.inl ⟨by omega, p58⟩, p69⟩⟩))⟩
        · have _q := h30
          have hE9 : b22 < 17 ∨ 18 ≤ b22 ∨ (-1000000 ≤ ra ∧ ra ≤ 1000000) := (by by_cases w : b22 = 17; exact Or.inr (Or.inr (by have z := hH2 b21 b22 (by rw [show A 63 (p).toNat = ri from e_ri, show A 53 (6000 * p + ri).toNat = b0 from e_b0]; exact eb21) (by rw [show A 65 (p).toNat = ro from e_ro]; exact eb22) w; rw [show A 60 (p).toNat = ra from e_ra] at z; exact z)); omega)
          refine jx_ld (pc' := 130) (l' := L23) (st' := [.ref 66]) rfl (jl_aloadn gL23_0) ?_
          refine jx_ld (pc' := 131) (l' := L23) (st' := [.int (i32 (p)), .ref 66]) rfl (jl_iloadn gL23_1) ?_
          refine jx_ld (pc' := 133) (l' := L23) (st' := [.int (i32 (b22)), .int (i32 (p)), .ref 66]) rfl (jl_iload gL23_4) ?_
          have b72 : (-2147483648 : Int) ≤ A 61 (p).toNat ∧ A 61 (p).toNat ≤ 2147483647 := hW.2 61 _
          have b73 : (-2147483648 : Int) ≤ A 62 (p).toNat ∧ A 62 (p).toNat ≤ 2147483647 := hW.2 62 _
          refine jx_vr (pc' := 136) (as := [.int (i32 (p)), .int (i32 (b22))]) (st := []) rfl rfl rfl rfl ⟨rfl, rfl, Nat.le_of_ble_eq_true rfl⟩ rfl rfl (c_operate (dd := d) (hd := by omega) (hW := hW27) (p := p) (op1 := b22) (m0 := m0) (e_m0 := show A26 72 ((2 * p)).toNat = m0 from (congrFun (((congrFun eA26 72).trans (uA_ne (by decide))).trans (((congrFun eA15 72).trans (uA_ne (by decide))).trans (((congrFun eA9 72).trans (uA_ne (by decide))).trans ((congrFun eA3 72).trans (uA_ne (by decide)))))) _).trans (e_m0)) (m1 := m1) (e_m1 := show A26 72 (((2 * p) + 1)).toNat = m1 from (congrFun (((congrFun eA26 72).trans (uA_ne (by decide))).trans (((congrFun eA15 72).trans (uA_ne (by decide))).trans (((congrFun eA9 72).trans (uA_ne (by decide))).trans ((congrFun eA3 72).trans (uA_ne (by decide)))))) _).trans (e_m1)) (rw := rw) (e_rw := show A26 64 (p).toNat = rw from (congrFun (((congrFun eA26 64).trans (uA_ne (by decide))).trans (((congrFun eA15 64).trans (uA_ne (by decide))).trans (((congrFun eA9 64).trans (uA_ne (by decide))).trans ((congrFun eA3 64).trans (uA_ne (by decide)))))) _).trans (e_rw)) (rn := rn) (e_rn := show A26 66 (p).toNat = rn from (congrFun (((congrFun eA26 66).trans (uA_ne (by decide))).trans (((congrFun eA15 66).trans (uA_ne (by decide))).trans (((congrFun eA9 66).trans (uA_ne (by decide))).trans ((congrFun eA3 66).trans (uA_ne (by decide)))))) _).trans (e_rn)) (it := it) (e_it := show G 111 = it from (e_it)) (im := im) (e_im := show G 110 = im from (e_im)) (om := om) (e_om := show G 113 = om from (e_om)) (ri := (ri + 1)) (e_ri := show A26 63 (p).toNat = (ri + 1) from (congrFun (((congrFun eA26 63).trans (uA_ne (by decide))).trans (((congrFun eA15 63).trans (uA_ne (by decide))).trans ((congrFun eA9 63).trans (uA_ne (by decide))))) _).trans (q6)) (ra := ra) (e_ra := show A26 60 (p).toNat = ra from (congrFun (((congrFun eA26 60).trans (uA_ne (by decide))).trans (((congrFun eA15 60).trans (uA_ne (by decide))).trans (((congrFun eA9 60).trans (uA_ne (by decide))).trans ((congrFun eA3 60).trans (uA_ne (by decide)))))) _).trans (e_ra)) (rb := A 61 (p).toNat) (e_rb := show A26 61 (p).toNat = A 61 (p).toNat from (congrFun (((congrFun eA26 61).trans (uA_ne (by decide))).trans (((congrFun eA15 61).trans (uA_ne (by decide))).trans (((congrFun eA9 61).trans (uA_ne (by decide))).trans ((congrFun eA3 61).trans (uA_ne (by decide)))))) _)) (rc := A 62 (p).toNat) (e_rc := show A26 62 (p).toNat = A 62 (p).toNat from (congrFun (((congrFun eA26 62).trans (uA_ne (by decide))).trans (((congrFun eA15 62).trans (uA_ne (by decide))).trans (((congrFun eA9 62).trans (uA_ne (by decide))).trans ((congrFun eA3 62).trans (uA_ne (by decide)))))) _))  (h_p := ⟨(Int.le_trans (by decide : (-2147483648 : Int) ≤ -2147483648) h_p.1), (Int.le_trans h_p.2 (by decide : (2147483647 : Int) ≤ 2147483647))⟩) (h_op1 := ⟨(Int.le_trans (by decide : (-2147483648 : Int) ≤ -2147483648) rb22.1), (Int.le_trans rb22.2 (by decide : (2147483647 : Int) ≤ 2147483647))⟩)  (p_0 := by omega) (p_1 := by omega) (p_2 := by omega) (p_3 := by omega) (p_4 := by omega) (p_5 := by omega) (p_6 := by omega) (p_7 := by omega) (p_8 := by omega) (p_9 := by omega) (p_10 := by omega) (p_11 := by omega) (p_12 := by omega) (p_13 := by omega) (p_14 := by omega)) (fun o V' hq => ?_)
          obtain ⟨G74, A75, om2_76, it2_77, rfl, rfl, hW78, hF79, e80, e81, p82, p83, p84, p85, p86, -⟩ := hq
          have hF88 := Fr_tr hF28 hF79 (Fr_sub (by decide)) (Fr_sub (by decide))
          have bom2_76 : (-2147483648 : Int) ≤ om2_76 ∧ om2_76 ≤ 2147483647 := e80 ▸ hW78.1 113
          have bit2_77 : (-2147483648 : Int) ≤ it2_77 ∧ it2_77 ≤ 2147483647 := e81 ▸ hW78.1 111
          refine .inl ⟨rfl, ?_⟩
          refine jx_go (tg := 147) rfl rfl ?_
          have hob : obR A A75 it im om p := (obR_opr _ _ _ _ _ _ _ _ _ _ _ _ e_ri e_ro e_b0 eA3 eA9 eA15 eb19 eb21 eb22 (by omega) eA26 p86); obtain ⟨hg0, hgD⟩ := hH1 _ hob; have hg := hg0; unfold Gb at hg; have hk89 : A75 66 (p).toNat = A75 66 (p).toNat := rfl
          refine jx_ld (pc' := 148) (l' := L23) (st' := [.ref 66]) rfl (jl_aloadn gL23_0) ?_
          refine jr_get (pc' := 151) (i := 97) (v := .ref 133) rfl rfl (by decide) rfl rfl ?_
          refine jx_ld (pc' := 152) (l' := L23) (st' := [.int (i32 (p)), .ref 133]) rfl (jl_iloadn gL23_1) ?_
          have b90 : (-2147483648 : Int) ≤ A75 66 (p).toNat ∧ A75 66 (p).toNat ≤ 2147483647 := hW78.2 66 _
          refine jr_ldv (pc' := 153) (i := 66) (m := 6) (z := p) (y := A75 66 (p).toNat) rfl (by decide) rfl (by decide) (by omega) (by omega) rfl (show A75 66 (p).toNat = A75 66 (p).toNat from rfl) ?_
          refine jx_ar (pc' := 154) (st' := [.int (i32 (-1)), .int (i32 (A75 66 (p).toNat))]) rfl rfl rfl rfl ?_
          refine jx_icmp_ne (pc' := 157) (tg := 162) rfl rfl rfl (Int.le_trans (by decide : (-2147483648 : Int) ≤ -2147483648) b90.1) (Int.le_trans b90.2 (by decide : (2147483647 : Int) ≤ 2147483647)) (by decide) (by decide) (fun h91 => ?_) (fun h91 => ?_)
          · have _q := h91
            have hk92 : A75 64 (p).toNat = A75 64 (p).toNat := rfl
            refine jx_ld (pc' := 163) (l' := L23) (st' := [.ref 66]) rfl (jl_aloadn gL23_0) ?_
            refine jx_ld (pc' := 164) (l' := L23) (st' := [.int (i32 (p)), .ref 66]) rfl (jl_iloadn gL23_1) ?_
            have b93 : (-2147483648 : Int) ≤ A75 72 ((2 * p)).toNat ∧ A75 72 ((2 * p)).toNat ≤ 2147483647 := hW78.2 72 _
            have b94 : (-2147483648 : Int) ≤ A75 72 (((2 * p) + 1)).toNat ∧ A75 72 (((2 * p) + 1)).toNat ≤ 2147483647 := hW78.2 72 _
            refine jx_vr (pc' := 167) (as := [.int (i32 (p))]) (st := []) rfl rfl rfl rfl ⟨rfl, rfl, Nat.le_of_ble_eq_true rfl⟩ rfl rfl (c_yield0 (dd := d) (hd := by omega) (hW := hW78) (p := p) (rn0 := A75 66 (p).toNat) (e_rn0 := show A75 66 (p).toNat = A75 66 (p).toNat from rfl) (m0 := A75 72 ((2 * p)).toNat) (e_m0 := show A75 72 ((2 * p)).toNat = A75 72 ((2 * p)).toNat from rfl) (m1 := A75 72 (((2 * p) + 1)).toNat) (e_m1 := show A75 72 (((2 * p) + 1)).toNat = A75 72 (((2 * p) + 1)).toNat from rfl)  (h_p := ⟨(Int.le_trans (by decide : (-2147483648 : Int) ≤ -2147483648) h_p.1), (Int.le_trans h_p.2 (by decide : (2147483647 : Int) ≤ 2147483647))⟩)  (p_0 := by omega) (p_1 := by omega) (p_2 := by omega) (p_3 := by omega) (p_4 := by omega) (p_5 := by omega) (p_6 := by omega)) (fun o V' hq => ?_)
            obtain ⟨G95, A96, rfl, rfl, hW97, hF98, p99, -⟩ := hq
            have hF101 := Fr_tr hF88 hF98 (Fr_sub (by decide)) (Fr_sub (by decide))
            refine .inl ⟨rfl, ?_⟩
            refine jx_ar (pc' := 168) (st' := [.int (i32 (1))]) rfl rfl rfl rfl ?_
            refine jx_rt (v := some (.int (i32 (1)))) rfl rfl rfl rfl rfl (by first | rfl | exact jRet_b (by omega)) ?_
            exact ⟨_, _, _, om2_76, it2_77, rfl, rfl, hW97, hF101, by omega, ((hF98.1 113 rfl).trans (e80)), ((hF98.1 111 rfl).trans (e81)), by first | exact Or.inr ((⟨by omega, by omega, by omega, by omega, by omega, ⟨by rw [show A 66 (p).toNat = rn from e_rn]; omega, _, _, hob, Or.inr ⟨by omega, rfl⟩, p99⟩⟩))⟩
          · have _q := h91
            refine jx_ld (pc' := 158) (l' := L23) (st' := [.ref 66]) rfl (jl_aloadn gL23_0) ?_
            refine jx_ld (pc' := 159) (l' := L23) (st' := [.int (i32 (p)), .ref 66]) rfl (jl_iloadn gL23_1) ?_
            have b102 : (-2147483648 : Int) ≤ A75 72 ((2 * p)).toNat ∧ A75 72 ((2 * p)).toNat ≤ 2147483647 := hW78.2 72 _
            have b103 : (-2147483648 : Int) ≤ A75 72 (((2 * p) + 1)).toNat ∧ A75 72 (((2 * p) + 1)).toNat ≤ 2147483647 := hW78.2 72 _
            refine jx_vr (pc' := 162) (as := [.int (i32 (p))]) (st := []) rfl rfl rfl rfl ⟨rfl, rfl, Nat.le_of_ble_eq_true rfl⟩ rfl rfl (c_dispatch (dd := d) (hd := by omega) (hW := hW78) (p := p) (m0 := A75 72 ((2 * p)).toNat) (e_m0 := show A75 72 ((2 * p)).toNat = A75 72 ((2 * p)).toNat from rfl) (m1 := A75 72 (((2 * p) + 1)).toNat) (e_m1 := show A75 72 (((2 * p) + 1)).toNat = A75 72 (((2 * p) + 1)).toNat from rfl)  (h_p := ⟨(Int.le_trans (by decide : (-2147483648 : Int) ≤ -2147483648) h_p.1), (Int.le_trans h_p.2 (by decide : (2147483647 : Int) ≤ 2147483647))⟩)  (p_0 := by omega) (p_1 := by omega) (p_2 := by omega) (p_3 := by omega) (p_4 := by omega) (p_5 := by omega)) (fun o V' hq => ?_)
            obtain ⟨G104, A105, rfl, rfl, hW106, hF107, p108, -⟩ := hq
            have hF110 := Fr_tr hF88 hF107 (Fr_sub (by decide)) (Fr_sub (by decide))
            refine .inl ⟨rfl, ?_⟩
            have hgd := hgD (by omega) _ p108; unfold Gb at hgd; have hk111 : A105 64 (p).toNat = A105 64 (p).toNat := rfl
            refine jx_ld (pc' := 163) (l' := L23) (st' := [.ref 66]) rfl (jl_aloadn gL23_0) ?_
            refine jx_ld (pc' := 164) (l' := L23) (st' := [.int (i32 (p)), .ref 66]) rfl (jl_iloadn gL23_1) ?_
            have b112 : (-2147483648 : Int) ≤ A105 66 (p).toNat ∧ A105 66 (p).toNat ≤ 2147483647 := hW106.2 66 _
            have b113 : (-2147483648 : Int) ≤ A105 72 ((2 * p)).toNat ∧ A105 72 ((2 * p)).toNat ≤ 2147483647 := hW106.2 72 _
            have b114 : (-2147483648 : Int) ≤ A105 72 (((2 * p) + 1)).toNat ∧ A105 72 (((2 * p) + 1)).toNat ≤ 2147483647 := hW106.2 72 _
            refine jx_vr (pc' := 167) (as := [.int (i32 (p))]) (st := []) rfl rfl rfl rfl ⟨rfl, rfl, Nat.le_of_ble_eq_true rfl⟩ rfl rfl (c_yield0 (dd := d) (hd := by omega) (hW := hW106) (p := p) (rn0 := A105 66 (p).toNat) (e_rn0 := show A105 66 (p).toNat = A105 66 (p).toNat from rfl) (m0 := A105 72 ((2 * p)).toNat) (e_m0 := show A105 72 ((2 * p)).toNat = A105 72 ((2 * p)).toNat from rfl) (m1 := A105 72 (((2 * p) + 1)).toNat) (e_m1 := show A105 72 (((2 * p) + 1)).toNat = A105 72 (((2 * p) + 1)).toNat from rfl)  (h_p := ⟨(Int.le_trans (by decide : (-2147483648 : Int) ≤ -2147483648) h_p.1), (Int.le_trans h_p.2 (by decide : (2147483647 : Int) ≤ 2147483647))⟩)  (p_0 := by omega) (p_1 := by omega) (p_2 := by omega) (p_3 := by omega) (p_4 := by omega) (p_5 := by omega) (p_6 := by omega)) (fun o V' hq => ?_)
            obtain ⟨G115, A116, rfl, rfl, hW117, hF118, p119, -⟩ := hq
            have hF121 := Fr_tr hF110 hF118 (Fr_sub (by decide)) (Fr_sub (by decide))
            refine .inl ⟨rfl, ?_⟩
            refine jx_ar (pc' := 168) (st' := [.int (i32 (1))]) rfl rfl rfl rfl ?_
            refine jx_rt (v := some (.int (i32 (1)))) rfl rfl rfl rfl rfl (by first | rfl | exact jRet_b (by omega)) ?_
            exact ⟨_, _, _, om2_76, it2_77, rfl, rfl, hW117, hF121, by omega, ((hF118.1 113 rfl).trans ((hF107.1 113 rfl).trans (e80))), ((hF118.1 111 rfl).trans ((hF107.1 111 rfl).trans (e81))), by first | exact Or.inr ((⟨by omega, by omega, by omega, by omega, by omega, ⟨by rw [show A 66 (p).toNat = rn from e_rn]; omega, _, _, hob, Or.inl ⟨by omega, p108⟩, p119⟩⟩))⟩
      · have _q := h25
        refine jx_ld (pc' := 102) (l' := L23) (st' := [.ref 66]) rfl (jl_aloadn gL23_0) ?_
        refine jr_get (pc' := 105) (i := 96) (v := .ref 132) rfl rfl (by decide) rfl rfl ?_
        refine jx_ld (pc' := 106) (l' := L23) (st' := [.int (i32 (p)), .ref 132]) rfl (jl_iloadn gL23_1) ?_
        refine jx_ld (pc' := 108) (l' := L23) (st' := [.int (i32 (b22)), .int (i32 (p)), .ref 132]) rfl (jl_iload gL23_4) ?_
        refine jx_ar (pc' := 109) (st' := [.int (i32 (-1)), .int (i32 (b22)), .int (i32 (p)), .ref 132]) rfl rfl rfl rfl ?_
        refine jx_xor (pc' := 110) rfl rfl ?_
        obtain ⟨b122, eb122⟩ : ∃ z, z = (i32 (b22) ^^^ i32 (-1)).toInt := ⟨_, rfl⟩
        rw [← eb122]
        have rb122 : (-2147483648 : Int) ≤ b122 ∧ b122 ≤ 2147483647 := eb122 ▸ i32_rg _
        have _q : True := trivial
        refine jx_ar (pc' := 111) (st' := [.int (i32 (4)), .int (i32 (b122)), .int (i32 (p)), .ref 132]) rfl rfl rfl rfl ?_
        refine jx_shl (pc' := 112) rfl rfl ?_
        obtain ⟨b123, eb123⟩ : ∃ z, z = (i32 (b122) <<< (i32 (4) &&& 31)).toInt := ⟨_, rfl⟩
        rw [← eb123]
        have rb123 : (-2147483648 : Int) ≤ b123 ∧ b123 ≤ 2147483647 := eb123 ▸ i32_rg _
        have _q : True := trivial
        refine jr_st (pc' := 113) (i := 65) (m := 6) (z := p) (y := b123) rfl (by decide) rfl (by decide) (by omega) (by omega) rfl ?_
        have hW125 : Wk G (uA A15 65 (p).toNat (b123)) := Wk_a hW16 (show (-2147483648 : Int) ≤ b123 by omega) (show b123 ≤ (2147483647 : Int) by omega)
        have hF126 := Fr_a (z := b123) (k := 65) (n := (p).toNat) hF17 (by decide)
        obtain ⟨A124, eA124⟩ : ∃ q, q = uA A15 65 (p).toNat (b123) := ⟨_, rfl⟩
        rw [← eA124]
        rw [← eA124] at hW125 hF126
        have q127 : A124 65 (p).toNat = b123 := by rw [eA124]; exact uA_eq
        refine jx_go (tg := 147) rfl rfl ?_
        have hob : obR A A124 it im om p := (obR_nfx _ _ _ _ _ _ _ _ _ _ _ _ _ e_ri e_ro e_b0 eA3 eA9 eA15 eb19 eb21 eb22 (by omega) eb122 eb123 eA124); obtain ⟨hg0, hgD⟩ := hH1 _ hob; have hg := hg0; unfold Gb at hg; have hk128 : A124 66 (p).toNat = rn := (congrFun (((congrFun eA124 66).trans (uA_ne (by decide))).trans (((congrFun eA15 66).trans (uA_ne (by decide))).trans (((congrFun eA9 66).trans (uA_ne (by decide))).trans ((congrFun eA3 66).trans (uA_ne (by decide)))))) _).trans (e_rn)
        refine jx_ld (pc' := 148) (l' := L23) (st' := [.ref 66]) rfl (jl_aloadn gL23_0) ?_
        refine jr_get (pc' := 151) (i := 97) (v := .ref 133) rfl rfl (by decide) rfl rfl ?_
        refine jx_ld (pc' := 152) (l' := L23) (st' := [.int (i32 (p)), .ref 133]) rfl (jl_iloadn gL23_1) ?_
        refine jr_ldv (pc' := 153) (i := 66) (m := 6) (z := p) (y := rn) rfl (by decide) rfl (by decide) (by omega) (by omega) rfl (show A124 66 (p).toNat = rn from (congrFun (((congrFun eA124 66).trans (uA_ne (by decide))).trans (((congrFun eA15 66).trans (uA_ne (by decide))).trans (((congrFun eA9 66).trans (uA_ne (by decide))).trans ((congrFun eA3 66).trans (uA_ne (by decide)))))) _).trans (e_rn)) ?_
        refine jx_ar (pc' := 154) (st' := [.int (i32 (-1)), .int (i32 (rn))]) rfl rfl rfl rfl ?_
        refine jx_icmp_ne (pc' := 157) (tg := 162) rfl rfl rfl (Int.le_trans (by decide : (-2147483648 : Int) ≤ -2147483648) b_rn.1) (Int.le_trans b_rn.2 (by decide : (2147483647 : Int) ≤ 2147483647)) (by decide) (by decide) (fun h129 => ?_) (fun h129 => ?_)
        · have _q := h129
          have hk130 : A124 64 (p).toNat = rw := (congrFun (((congrFun eA124 64).trans (uA_ne (by decide))).trans (((congrFun eA15 64).trans (uA_ne (by decide))).trans (((congrFun eA9 64).trans (uA_ne (by decide))).trans ((congrFun eA3 64).trans (uA_ne (by decide)))))) _).trans (e_rw)
          refine jx_ld (pc' := 163) (l' := L23) (st' := [.ref 66]) rfl (jl_aloadn gL23_0) ?_
          refine jx_ld (pc' := 164) (l' := L23) (st' := [.int (i32 (p)), .ref 66]) rfl (jl_iloadn gL23_1) ?_
          refine jx_vr (pc' := 167) (as := [.int (i32 (p))]) (st := []) rfl rfl rfl rfl ⟨rfl, rfl, Nat.le_of_ble_eq_true rfl⟩ rfl rfl (c_yield0 (dd := d) (hd := by omega) (hW := hW125) (p := p) (rn0 := rn) (e_rn0 := show A124 66 (p).toNat = rn from (congrFun (((congrFun eA124 66).trans (uA_ne (by decide))).trans (((congrFun eA15 66).trans (uA_ne (by decide))).trans (((congrFun eA9 66).trans (uA_ne (by decide))).trans ((congrFun eA3 66).trans (uA_ne (by decide)))))) _).trans (e_rn)) (m0 := m0) (e_m0 := show A124 72 ((2 * p)).toNat = m0 from (congrFun (((congrFun eA124 72).trans (uA_ne (by decide))).trans (((congrFun eA15 72).trans (uA_ne (by decide))).trans (((congrFun eA9 72).trans (uA_ne (by decide))).trans ((congrFun eA3 72).trans (uA_ne (by decide)))))) _).trans (e_m0)) (m1 := m1) (e_m1 := show A124 72 (((2 * p) + 1)).toNat = m1 from (congrFun (((congrFun eA124 72).trans (uA_ne (by decide))).trans (((congrFun eA15 72).trans (uA_ne (by decide))).trans (((congrFun eA9 72).trans (uA_ne (by decide))).trans ((congrFun eA3 72).trans (uA_ne (by decide)))))) _).trans (e_m1))  (h_p := ⟨(Int.le_trans (by decide : (-2147483648 : Int) ≤ -2147483648) h_p.1), (Int.le_trans h_p.2 (by decide : (2147483647 : Int) ≤ 2147483647))⟩)  (p_0 := by omega) (p_1 := by omega) (p_2 := by omega) (p_3 := by omega) (p_4 := by omega) (p_5 := by omega) (p_6 := by omega)) (fun o V' hq => ?_)
          obtain ⟨G131, A132, rfl, rfl, hW133, hF134, p135, -⟩ := hq
          have hF137 := Fr_tr hF126 hF134 (Fr_sub (by decide)) (Fr_sub (by decide))
          refine .inl ⟨rfl, ?_⟩
          refine jx_ar (pc' := 168) (st' := [.int (i32 (1))]) rfl rfl rfl rfl ?_
          refine jx_rt (v := some (.int (i32 (1)))) rfl rfl rfl rfl rfl (by first | rfl | exact jRet_b (by omega)) ?_
          exact ⟨_, _, _, om, it, rfl, rfl, hW133, hF137, by omega, ((hF134.1 113 rfl).trans (e_om)), ((hF134.1 111 rfl).trans (e_it)), by first | exact Or.inr ((⟨by omega, by omega, by omega, by omega, by omega, ⟨by rw [show A 66 (p).toNat = rn from e_rn]; omega, _, _, hob, Or.inr ⟨by omega, rfl⟩, p135⟩⟩))⟩
        · have _q := h129
          refine jx_ld (pc' := 158) (l' := L23) (st' := [.ref 66]) rfl (jl_aloadn gL23_0) ?_
          refine jx_ld (pc' := 159) (l' := L23) (st' := [.int (i32 (p)), .ref 66]) rfl (jl_iloadn gL23_1) ?_
          refine jx_vr (pc' := 162) (as := [.int (i32 (p))]) (st := []) rfl rfl rfl rfl ⟨rfl, rfl, Nat.le_of_ble_eq_true rfl⟩ rfl rfl (c_dispatch (dd := d) (hd := by omega) (hW := hW125) (p := p) (m0 := m0) (e_m0 := show A124 72 ((2 * p)).toNat = m0 from (congrFun (((congrFun eA124 72).trans (uA_ne (by decide))).trans (((congrFun eA15 72).trans (uA_ne (by decide))).trans (((congrFun eA9 72).trans (uA_ne (by decide))).trans ((congrFun eA3 72).trans (uA_ne (by decide)))))) _).trans (e_m0)) (m1 := m1) (e_m1 := show A124 72 (((2 * p) + 1)).toNat = m1 from (congrFun (((congrFun eA124 72).trans (uA_ne (by decide))).trans (((congrFun eA15 72).trans (uA_ne (by decide))).trans (((congrFun eA9 72).trans (uA_ne (by decide))).trans ((congrFun eA3 72).trans (uA_ne (by decide)))))) _).trans (e_m1))  (h_p := ⟨(Int.le_trans (by decide : (-2147483648 : Int) ≤ -2147483648) h_p.1), (Int.le_trans h_p.2 (by decide : (2147483647 : Int) ≤ 2147483647))⟩)  (p_0 := by omega) (p_1 := by omega) (p_2 := by omega) (p_3 := by omega) (p_4 := by omega) (p_5 := by omega)) (fun o V' hq => ?_)
          obtain ⟨G138, A139, rfl, rfl, hW140, hF141, p142, -⟩ := hq
          have hF144 := Fr_tr hF126 hF141 (Fr_sub (by decide)) (Fr_sub (by decide))
          refine .inl ⟨rfl, ?_⟩
          have hgd := hgD (by omega) _ p142; unfold Gb at hgd; have hk145 : A139 64 (p).toNat = A139 64 (p).toNat := rfl
          refine jx_ld (pc' := 163) (l' := L23) (st' := [.ref 66]) rfl (jl_aloadn gL23_0) ?_
          refine jx_ld (pc' := 164) (l' := L23) (st' := [.int (i32 (p)), .ref 66]) rfl (jl_iloadn gL23_1) ?_
          have b146 : (-2147483648 : Int) ≤ A139 66 (p).toNat ∧ A139 66 (p).toNat ≤ 2147483647 := hW140.2 66 _
          have b147 : (-2147483648 : Int) ≤ A139 72 ((2 * p)).toNat ∧ A139 72 ((2 * p)).toNat ≤ 2147483647 := hW140.2 72 _
          have b148 : (-2147483648 : Int) ≤ A139 72 (((2 * p) + 1)).toNat ∧ A139 72 (((2 * p) + 1)).toNat ≤ 2147483647 := hW140.2 72 _
          refine jx_vr (pc' := 167) (as := [.int (i32 (p))]) (st := []) rfl rfl rfl rfl ⟨rfl, rfl, Nat.le_of_ble_eq_true rfl⟩ rfl rfl (c_yield0 (dd := d) (hd := by omega) (hW := hW140) (p := p) (rn0 := A139 66 (p).toNat) (e_rn0 := show A139 66 (p).toNat = A139 66 (p).toNat from rfl) (m0 := A139 72 ((2 * p)).toNat) (e_m0 := show A139 72 ((2 * p)).toNat = A139 72 ((2 * p)).toNat from rfl) (m1 := A139 72 (((2 * p) + 1)).toNat) (e_m1 := show A139 72 (((2 * p) + 1)).toNat = A139 72 (((2 * p) + 1)).toNat from rfl)  (h_p := ⟨(Int.le_trans (by decide : (-2147483648 : Int) ≤ -2147483648) h_p.1), (Int.le_trans h_p.2 (by decide : (2147483647 : Int) ≤ 2147483647))⟩)  (p_0 := by omega) (p_1 := by omega) (p_2 := by omega) (p_3 := by omega) (p_4 := by omega) (p_5 := by omega) (p_6 := by omega)) (fun o V' hq => ?_)
          obtain ⟨G149, A150, rfl, rfl, hW151, hF152, p153, -⟩ := hq
          have hF155 := Fr_tr hF144 hF152 (Fr_sub (by decide)) (Fr_sub (by decide))
          refine .inl ⟨rfl, ?_⟩
          refine jx_ar (pc' := 168) (st' := [.int (i32 (1))]) rfl rfl rfl rfl ?_
          refine jx_rt (v := some (.int (i32 (1)))) rfl rfl rfl rfl rfl (by first | rfl | exact jRet_b (by omega)) ?_
          exact ⟨_, _, _, om, it, rfl, rfl, hW151, hF155, by omega, ((hF152.1 113 rfl).trans ((hF141.1 113 rfl).trans (e_om))), ((hF152.1 111 rfl).trans ((hF141.1 111 rfl).trans (e_it))), by first | exact Or.inr ((⟨by omega, by omega, by omega, by omega, by omega, ⟨by rw [show A 66 (p).toNat = rn from e_rn]; omega, _, _, hob, Or.inl ⟨by omega, p142⟩, p153⟩⟩))⟩
    · have _q := h24
      refine jx_ld (pc' := 83) (l' := L23) (st' := [.ref 66]) rfl (jl_aloadn gL23_0) ?_
      refine jr_get (pc' := 86) (i := 96) (v := .ref 132) rfl rfl (by decide) rfl rfl ?_
      refine jx_ld (pc' := 87) (l' := L23) (st' := [.int (i32 (p)), .ref 132]) rfl (jl_iloadn gL23_1) ?_
      refine jx_ld (pc' := 89) (l' := L23) (st' := [.int (i32 (b22)), .int (i32 (p)), .ref 132]) rfl (jl_iload gL23_4) ?_
      refine jx_ar (pc' := 90) (st' := [.int (i32 (4)), .int (i32 (b22)), .int (i32 (p)), .ref 132]) rfl rfl rfl rfl ?_
      refine jx_shl (pc' := 91) rfl rfl ?_
      obtain ⟨b156, eb156⟩ : ∃ z, z = (i32 (b22) <<< (i32 (4) &&& 31)).toInt := ⟨_, rfl⟩
      rw [← eb156]
      have rb156 : (-2147483648 : Int) ≤ b156 ∧ b156 ≤ 2147483647 := eb156 ▸ i32_rg _
      have _q : True := trivial
      refine jr_st (pc' := 92) (i := 65) (m := 6) (z := p) (y := b156) rfl (by decide) rfl (by decide) (by omega) (by omega) rfl ?_
      have hW158 : Wk G (uA A15 65 (p).toNat (b156)) := Wk_a hW16 (show (-2147483648 : Int) ≤ b156 by omega) (show b156 ≤ (2147483647 : Int) by omega)
      have hF159 := Fr_a (z := b156) (k := 65) (n := (p).toNat) hF17 (by decide)
      obtain ⟨A157, eA157⟩ : ∃ q, q = uA A15 65 (p).toNat (b156) := ⟨_, rfl⟩
      rw [← eA157]
      rw [← eA157] at hW158 hF159
      have q160 : A157 65 (p).toNat = b156 := by rw [eA157]; exact uA_eq
      refine jx_go (tg := 147) rfl rfl ?_
      have hob : obR A A157 it im om p := (obR_pfx _ _ _ _ _ _ _ _ _ _ _ _ e_ri e_ro e_b0 eA3 eA9 eA15 eb19 eb21 eb22 (by omega) eb156 eA157); obtain ⟨hg0, hgD⟩ := hH1 _ hob; have hg := hg0; unfold Gb at hg; have hk161 : A157 66 (p).toNat = rn := (congrFun (((congrFun eA157 66).trans (uA_ne (by decide))).trans (((congrFun eA15 66).trans (uA_ne (by decide))).trans (((congrFun eA9 66).trans (uA_ne (by decide))).trans ((congrFun eA3 66).trans (uA_ne (by decide)))))) _).trans (e_rn)
      refine jx_ld (pc' := 148) (l' := L23) (st' := [.ref 66]) rfl (jl_aloadn gL23_0) ?_
      refine jr_get (pc' := 151) (i := 97) (v := .ref 133) rfl rfl (by decide) rfl rfl ?_
      refine jx_ld (pc' := 152) (l' := L23) (st' := [.int (i32 (p)), .ref 133]) rfl (jl_iloadn gL23_1) ?_
      refine jr_ldv (pc' := 153) (i := 66) (m := 6) (z := p) (y := rn) rfl (by decide) rfl (by decide) (by omega) (by omega) rfl (show A157 66 (p).toNat = rn from (congrFun (((congrFun eA157 66).trans (uA_ne (by decide))).trans (((congrFun eA15 66).trans (uA_ne (by decide))).trans (((congrFun eA9 66).trans (uA_ne (by decide))).trans ((congrFun eA3 66).trans (uA_ne (by decide)))))) _).trans (e_rn)) ?_
      refine jx_ar (pc' := 154) (st' := [.int (i32 (-1)), .int (i32 (rn))]) rfl rfl rfl rfl ?_
      refine jx_icmp_ne (pc' := 157) (tg := 162) rfl rfl rfl (Int.le_trans (by decide : (-2147483648 : Int) ≤ -2147483648) b_rn.1) (Int.le_trans b_rn.2 (by decide : (2147483647 : Int) ≤ 2147483647)) (by decide) (by decide) (fun h162 => ?_) (fun h162 => ?_)
      · have _q := h162
        have hk163 : A157 64 (p).toNat = rw := (congrFun (((congrFun eA157 64).trans (uA_ne (by decide))).trans (((congrFun eA15 64).trans (uA_ne (by decide))).trans (((congrFun eA9 64).trans (uA_ne (by decide))).trans ((congrFun eA3 64).trans (uA_ne (by decide)))))) _).trans (e_rw)
        refine jx_ld (pc' := 163) (l' := L23) (st' := [.ref 66]) rfl (jl_aloadn gL23_0) ?_
        refine jx_ld (pc' := 164) (l' := L23) (st' := [.int (i32 (p)), .ref 66]) rfl (jl_iloadn gL23_1) ?_
        refine jx_vr (pc' := 167) (as := [.int (i32 (p))]) (st := []) rfl rfl rfl rfl ⟨rfl, rfl, Nat.le_of_ble_eq_true rfl⟩ rfl rfl (c_yield0 (dd := d) (hd := by omega) (hW := hW158) (p := p) (rn0 := rn) (e_rn0 := show A157 66 (p).toNat = rn from (congrFun (((congrFun eA157 66).trans (uA_ne (by decide))).trans (((congrFun eA15 66).trans (uA_ne (by decide))).trans (((congrFun eA9 66).trans (uA_ne (by decide))).trans ((congrFun eA3 66).trans (uA_ne (by decide)))))) _).trans (e_rn)) (m0 := m0) (e_m0 := show A157 72 ((2 * p)).toNat = m0 from (congrFun (((congrFun eA157 72).trans (uA_ne (by decide))).trans (((congrFun eA15 72).trans (uA_ne (by decide))).trans (((congrFun eA9 72).trans (uA_ne (by decide))).trans ((congrFun eA3 72).trans (uA_ne (by decide)))))) _).trans (e_m0)) (m1 := m1) (e_m1 := show A157 72 (((2 * p) + 1)).toNat = m1 from (congrFun (((congrFun eA157 72).trans (uA_ne (by decide))).trans (((congrFun eA15 72).trans (uA_ne (by decide))).trans (((congrFun eA9 72).trans (uA_ne (by decide))).trans ((congrFun eA3 72).trans (uA_ne (by decide)))))) _).trans (e_m1))  (h_p := ⟨(Int.le_trans (by decide : (-2147483648 : Int) ≤ -2147483648) h_p.1), (Int.le_trans h_p.2 (by decide : (2147483647 : Int) ≤ 2147483647))⟩)  (p_0 := by omega) (p_1 := by omega) (p_2 := by omega) (p_3 := by omega) (p_4 := by omega) (p_5 := by omega) (p_6 := by omega)) (fun o V' hq => ?_)
        obtain ⟨G164, A165, rfl, rfl, hW166, hF167, p168, -⟩ := hq
        have hF170 := Fr_tr hF159 hF167 (Fr_sub (by decide)) (Fr_sub (by decide))
        refine .inl ⟨rfl, ?_⟩
        refine jx_ar (pc' := 168) (st' := [.int (i32 (1))]) rfl rfl rfl rfl ?_
        refine jx_rt (v := some (.int (i32 (1)))) rfl rfl rfl rfl rfl (by first | rfl | exact jRet_b (by omega)) ?_
        exact ⟨_, _, _, om, it, rfl, rfl, hW166, hF170, by omega, ((hF167.1 113 rfl).trans (e_om)), ((hF167.1 111 rfl).trans (e_it)), by first | exact Or.inr ((⟨by omega, by omega, by omega, by omega, by omega, ⟨by rw [show A 66 (p).toNat = rn from e_rn]; omega, _, _, hob, Or.inr ⟨by omega, rfl⟩, p168⟩⟩))⟩
      · have _q := h162
        refine jx_ld (pc' := 158) (l' := L23) (st' := [.ref 66]) rfl (jl_aloadn gL23_0) ?_
        refine jx_ld (pc' := 159) (l' := L23) (st' := [.int (i32 (p)), .ref 66]) rfl (jl_iloadn gL23_1) ?_
        refine jx_vr (pc' := 162) (as := [.int (i32 (p))]) (st := []) rfl rfl rfl rfl ⟨rfl, rfl, Nat.le_of_ble_eq_true rfl⟩ rfl rfl (c_dispatch (dd := d) (hd := by omega) (hW := hW158) (p := p) (m0 := m0) (e_m0 := show A157 72 ((2 * p)).toNat = m0 from (congrFun (((congrFun eA157 72).trans (uA_ne (by decide))).trans (((congrFun eA15 72).trans (uA_ne (by decide))).trans (((congrFun eA9 72).trans (uA_ne (by decide))).trans ((congrFun eA3 72).trans (uA_ne (by decide)))))) _).trans (e_m0)) (m1 := m1) (e_m1 := show A157 72 (((2 * p) + 1)).toNat = m1 from (congrFun (((congrFun eA157 72).trans (uA_ne (by decide))).trans (((congrFun eA15 72).trans (uA_ne (by decide))).trans (((congrFun eA9 72).trans (uA_ne (by decide))).trans ((congrFun eA3 72).trans (uA_ne (by decide)))))) _).trans (e_m1))  (h_p := ⟨(Int.le_trans (by decide : (-2147483648 : Int) ≤ -2147483648) h_p.1), (Int.le_trans h_p.2 (by decide : (2147483647 : Int) ≤ 2147483647))⟩)  (p_0 := by omega) (p_1 := by omega) (p_2 := by omega) (p_3 := by omega) (p_4 := by omega) (p_5 := by omega)) (fun o V' hq => ?_)
        obtain ⟨G171, A172, rfl, rfl, hW173, hF174, p175, -⟩ := hq
        have hF177 := Fr_tr hF159 hF174 (Fr_sub (by decide)) (Fr_sub (by decide))
        refine .inl ⟨rfl, ?_⟩
        have hgd := hgD (by omega) _ p175; unfold Gb at hgd; have hk178 : A172 64 (p).toNat = A172 64 (p).toNat := rfl
        refine jx_ld (pc' := 163) (l' := L23) (st' := [.ref 66]) rfl (jl_aloadn gL23_0) ?_
        refine jx_ld (pc' := 164) (l' := L23) (st' := [.int (i32 (p)), .ref 66]) rfl (jl_iloadn gL23_1) ?_
        have b179 : (-2147483648 : Int) ≤ A172 66 (p).toNat ∧ A172 66 (p).toNat ≤ 2147483647 := hW173.2 66 _
        have b180 : (-2147483648 : Int) ≤ A172 72 ((2 * p)).toNat ∧ A172 72 ((2 * p)).toNat ≤ 2147483647 := hW173.2 72 _
        have b181 : (-2147483648 : Int) ≤ A172 72 (((2 * p) + 1)).toNat ∧ A172 72 (((2 * p) + 1)).toNat ≤ 2147483647 := hW173.2 72 _
        refine jx_vr (pc' := 167) (as := [.int (i32 (p))]) (st := []) rfl rfl rfl rfl ⟨rfl, rfl, Nat.le_of_ble_eq_true rfl⟩ rfl rfl (c_yield0 (dd := d) (hd := by omega) (hW := hW173) (p := p) (rn0 := A172 66 (p).toNat) (e_rn0 := show A172 66 (p).toNat = A172 66 (p).toNat from rfl) (m0 := A172 72 ((2 * p)).toNat) (e_m0 := show A172 72 ((2 * p)).toNat = A172 72 ((2 * p)).toNat from rfl) (m1 := A172 72 (((2 * p) + 1)).toNat) (e_m1 := show A172 72 (((2 * p) + 1)).toNat = A172 72 (((2 * p) + 1)).toNat from rfl)  (h_p := ⟨(Int.le_trans (by decide : (-2147483648 : Int) ≤ -2147483648) h_p.1), (Int.le_trans h_p.2 (by decide : (2147483647 : Int) ≤ 2147483647))⟩)  (p_0 := by omega) (p_1 := by omega) (p_2 := by omega) (p_3 := by omega) (p_4 := by omega) (p_5 := by omega) (p_6 := by omega)) (fun o V' hq => ?_)
        obtain ⟨G182, A183, rfl, rfl, hW184, hF185, p186, -⟩ := hq
        have hF188 := Fr_tr hF177 hF185 (Fr_sub (by decide)) (Fr_sub (by decide))
        refine .inl ⟨rfl, ?_⟩
        refine jx_ar (pc' := 168) (st' := [.int (i32 (1))]) rfl rfl rfl rfl ?_
        refine jx_rt (v := some (.int (i32 (1)))) rfl rfl rfl rfl rfl (by first | rfl | exact jRet_b (by omega)) ?_
        exact ⟨_, _, _, om, it, rfl, rfl, hW184, hF188, by omega, ((hF185.1 113 rfl).trans ((hF174.1 113 rfl).trans (e_om))), ((hF185.1 111 rfl).trans ((hF174.1 111 rfl).trans (e_it))), by first | exact Or.inr ((⟨by omega, by omega, by omega, by omega, by omega, ⟨by rw [show A 66 (p).toNat = rn from e_rn]; omega, _, _, hob, Or.inl ⟨by omega, p175⟩, p186⟩⟩))⟩
  · have _q := h1
    refine jx_ar (pc' := 11) (st' := [.int (i32 (0))]) rfl rfl rfl rfl ?_
    refine jx_rt (v := some (.int (i32 (0)))) rfl rfl rfl rfl rfl (by first | rfl | exact jRet_b (by omega)) ?_
    exact ⟨_, _, _, om, it, rfl, rfl, hW, hF0, by omega, (e_om), (e_it), by first | exact Or.inl (⟨by omega, by omega, by omega, by omega, rfl⟩)⟩
