theorem and_1f {x : Int} (h0 : -2147483648 ≤ x) (h1 : x ≤ 2147483647) : (i32 x &&& i32 1).toInt = x % 2 := by
  have e : ((i32 x &&& i32 1).toBitVec).toNat = (i32 x).toBitVec.toNat % 2 := by
    show ((i32 x).toBitVec &&& (i32 1).toBitVec).toNat = _
    rw [BitVec.toNat_and]
    exact Nat.and_two_pow_sub_one_eq_mod (i32 x).toBitVec.toNat 1
  have e2 : ((i32 x).toBitVec.toNat : Int) = x % 4294967296 := by
    have g := i32_to h0 h1
    have g2 : (i32 x).toInt = (i32 x).toBitVec.toInt := rfl
    rw [g2, BitVec.toInt_eq_toNat_cond] at g
    have := (i32 x).toBitVec.isLt
    split at g <;> omega
  have e3 : (i32 x &&& i32 1).toInt = (((i32 x &&& i32 1).toBitVec).toNat : Int) := by
    have g2 : (i32 x &&& i32 1).toInt = (i32 x &&& i32 1).toBitVec.toInt := rfl
    rw [g2, BitVec.toInt_eq_toNat_cond, if_pos (by rw [e]; omega)]
  rw [e3, e]
  omega
theorem mr_b {A : Nat → Nat → Int} {p b m0 m1 : Int} (h0 : A 72 (2 * p).toNat = m0) (h1 : A 72 (2 * p + 1).toNat = m1) (hb : b = 0 ∨ b = 1) (g0 : 0 ≤ m0 ∧ m0 ≤ 1099) (g1 : 0 ≤ m1 ∧ m1 ≤ 1099) : 0 ≤ A 72 (2 * p + b).toNat ∧ A 72 (2 * p + b).toNat ≤ 1099 := by
  rcases hb with rfl | rfl
  · rw [show 2 * p + 0 = 2 * p by omega, h0]
    exact g0
  · rw [h1]
    exact g1
theorem mr_c {A A1 A2 : Nat → Nat → Int} {z v x : Int} {i : Nat} (e1 : A1 72 = A 72) (e : A2 = uA A1 72 z.toNat v) (hv : 0 ≤ v ∧ v ≤ 1100) (hx : A 72 i = x) (g : 0 ≤ x ∧ x ≤ 1099) : 0 ≤ A2 72 i ∧ A2 72 i ≤ 1100 := by
  rw [e]
  by_cases q : i = z.toNat
  · subst q
    rw [uA_eq]
    exact hv
  · rw [uA_ni q, e1, hx]
    omega
/-- d stands last in its row -/
def adM (A : Nat → Nat → Int) (q d : Int) : Nat → Nat → Int := uA (uA A 71 (1100 * q + A 72 q.toNat).toNat d) 72 q.toNat (A 72 q.toNat + 1)
def mkR (A A_q : Nat → Nat → Int) (p d : Int) : Prop := (A 66 p.toNat ≠ -1 ∧ A_q = adM A (2 * p + d % 2) d) ∨ (A 66 p.toNat = -1 ∧ dispR (adM A (2 * p + d % 2) d) A_q p)
theorem ad_eq {A A1 A2 : Nat → Nat → Int} {p d b q : Int} (hb : b = d % 2) (hq : q = 2 * p + b) (e1 : A1 = uA A 71 (1100 * q + A 72 q.toNat).toNat d) (e2 : A2 = uA A1 72 q.toNat (A 72 q.toNat + 1)) : A2 = adM A (2 * p + d % 2) d := by
  subst hb hq
  rw [e2, e1]
  rfl

set_option maxRecDepth 20000 in
set_option maxHeartbeats 4000000 in
theorem c_makeReady {X : jX} {dd : Nat} {c0 c1 : jC} {G : Nat → Int} {A : Nat → Nat → Int} {T : jH} {p d2 : Int} {m0 m1 : Int} (hd : 4 ≤ dd) (hW : Wk G A) (e_m0 : A 72 ((2 * p)).toNat = m0) (e_m1 : A 72 (((2 * p) + 1)).toNat = m1) (h_p : (-2147483648 : Int) ≤ p ∧ p ≤ 2147483647) (h_d2 : (-2147483648 : Int) ≤ d2 ∧ d2 ≤ 2147483647) (p_0 : 0 ≤ p) (p_1 : p ≤ 5) (p_2 : 0 ≤ m0) (p_3 : m0 ≤ 1099) (p_4 : 0 ≤ m1) (p_5 : m1 ≤ 1099) : wk X dd 371 [.ref 66, .int (i32 p), .int (i32 d2)] (rV c0 c1 G A T) (fun o V_q => ∃ (G_q : Nat → Int) (A_q : Nat → Nat → Int), V_q = rV c0 c1 G_q A_q T ∧ o = .inl none ∧ Wk G_q A_q ∧ Fr [] [60, 61, 62, 63, 64, 65, 66, 70, 71, 72, 73] G A G_q A_q ∧ (mkR A A_q (p) (d2)) ∧ True) := by
  obtain ⟨d, rfl⟩ : ∃ d, dd = d + 1 := ⟨dd - 1, by omega⟩
  refine wk_of (e := jm371) rfl (Nat.le_of_ble_eq_true rfl) ?_
  show wj X d jm371 (0, [(0, .ref 66), (1, .int (i32 (p))), (2, .int (i32 (d2)))], [], rV c0 c1 G A T) _
  have hF0 : Fr [] [60, 61, 62, 63, 64, 65, 66, 70, 71, 72, 73] G A G A := Fr_rf
  have b_m0 : (-2147483648 : Int) ≤ m0 ∧ m0 ≤ 2147483647 := e_m0 ▸ hW.2 72 _
  have b_m1 : (-2147483648 : Int) ≤ m1 ∧ m1 ≤ 2147483647 := e_m1 ▸ hW.2 72 _
  refine jx_ar (pc_q := 1) (st_q := [.int (i32 (2))]) rfl rfl rfl rfl ?_
  refine jx_ld (pc_q := 2) (l_q := [(0, .ref 66), (1, .int (i32 (p))), (2, .int (i32 (d2)))]) (st_q := [.int (i32 (p)), .int (i32 (2))]) rfl (jl_iloadn rfl) ?_
  refine jx_mul (pc_q := 3) rfl rfl ?_
  refine jx_ld (pc_q := 4) (l_q := [(0, .ref 66), (1, .int (i32 (p))), (2, .int (i32 (d2)))]) (st_q := [.int (i32 (d2)), .int (i32 ((2 * p)))]) rfl (jl_iloadn rfl) ?_
  refine jx_ar (pc_q := 5) (st_q := [.int (i32 (1)), .int (i32 (d2)), .int (i32 ((2 * p)))]) rfl rfl rfl rfl ?_
  refine jx_and (pc_q := 6) rfl rfl ?_
  obtain ⟨b1, eb1⟩ : ∃ z, z = (i32 (d2) &&& i32 (1)).toInt := ⟨_, rfl⟩
  rw [← eb1]
  have rb1 : (-2147483648 : Int) ≤ b1 ∧ b1 ≤ 2147483647 := eb1 ▸ i32_rg _
  have hb1 := (show b1 = (i32 d2 &&& i32 1).toInt from eb1).trans (and_1f (by omega) (by omega)); have hmb := mr_b (b := b1) e_m0 e_m1 (by omega) (by omega) (by omega)
  refine jx_add (pc_q := 7) rfl rfl ?_
  refine jx_ld (pc_q := 8) (l_q := jSto1 [(0, .ref 66), (1, .int (i32 (p))), (2, .int (i32 (d2)))] 3 (.int (i32 (((2 * p) + b1))))) (st_q := []) rfl rfl ?_
  obtain ⟨L2, eL2⟩ : ∃ q, q = jSto1 [(0, .ref 66), (1, .int (i32 (p))), (2, .int (i32 (d2)))] 3 (.int (i32 (((2 * p) + b1)))) := ⟨_, rfl⟩
  rw [← eL2]
  have gL2_0 : jGet L2 0 = some (.ref 66) := eL2 ▸ jg_ne (by decide) (rfl : jGet [(0, .ref 66), (1, .int (i32 (p))), (2, .int (i32 (d2)))] 0 = some (.ref 66)) rfl
  have gL2_1 : jGet L2 1 = some (.int (i32 (p))) := eL2 ▸ jg_ne (by decide) (rfl : jGet [(0, .ref 66), (1, .int (i32 (p))), (2, .int (i32 (d2)))] 1 = some (.int (i32 (p)))) rfl
  have gL2_2 : jGet L2 2 = some (.int (i32 (d2))) := eL2 ▸ jg_ne (by decide) (rfl : jGet [(0, .ref 66), (1, .int (i32 (p))), (2, .int (i32 (d2)))] 2 = some (.int (i32 (d2)))) rfl
  have gL2_3 : jGet L2 3 = some (.int (i32 (((2 * p) + b1)))) := eL2 ▸ jg_eq
  refine jx_ld (pc_q := 9) (l_q := L2) (st_q := [.ref 66]) rfl (jl_aloadn gL2_0) ?_
  refine jr_get (pc_q := 12) (i := 102) (v := .ref 138) rfl rfl (by decide) rfl rfl ?_
  refine jx_ar (pc_q := 15) (st_q := [.int (i32 (1100)), .ref 138]) rfl rfl rfl rfl ?_
  refine jx_ld (pc_q := 16) (l_q := L2) (st_q := [.int (i32 (((2 * p) + b1))), .int (i32 (1100)), .ref 138]) rfl (jl_iloadn gL2_3) ?_
  refine jx_mul (pc_q := 17) rfl rfl ?_
  refine jx_ld (pc_q := 18) (l_q := L2) (st_q := [.ref 66, .int (i32 ((1100 * ((2 * p) + b1)))), .ref 138]) rfl (jl_aloadn gL2_0) ?_
  refine jr_get (pc_q := 21) (i := 103) (v := .ref 139) rfl rfl (by decide) rfl rfl ?_
  refine jx_ld (pc_q := 22) (l_q := L2) (st_q := [.int (i32 (((2 * p) + b1))), .ref 139, .int (i32 ((1100 * ((2 * p) + b1)))), .ref 138]) rfl (jl_iloadn gL2_3) ?_
  have b3 : (-2147483648 : Int) ≤ A 72 (((2 * p) + b1)).toNat ∧ A 72 (((2 * p) + b1)).toNat ≤ 2147483647 := hW.2 72 _
  refine jr_ldv (pc_q := 23) (i := 72) (m := 12) (z := ((2 * p) + b1)) (y := A 72 (((2 * p) + b1)).toNat) rfl (by decide) rfl (by decide) (by omega) (by omega) rfl (show A 72 (((2 * p) + b1)).toNat = A 72 (((2 * p) + b1)).toNat from rfl) ?_
  refine jx_add (pc_q := 24) rfl rfl ?_
  refine jx_ld (pc_q := 25) (l_q := L2) (st_q := [.int (i32 (d2)), .int (i32 (((1100 * ((2 * p) + b1)) + A 72 (((2 * p) + b1)).toNat))), .ref 138]) rfl (jl_iloadn gL2_2) ?_
  refine jr_st (pc_q := 26) (i := 71) (m := 13200) (z := ((1100 * ((2 * p) + b1)) + A 72 (((2 * p) + b1)).toNat)) (y := d2) rfl (by decide) rfl (by decide) (by omega) (by omega) rfl ?_
  have hW5 : Wk G (uA A 71 (((1100 * ((2 * p) + b1)) + A 72 (((2 * p) + b1)).toNat)).toNat (d2)) := Wk_a hW (show (-2147483648 : Int) ≤ d2 by omega) (show d2 ≤ (2147483647 : Int) by omega)
  have hF6 := Fr_a (z := d2) (k := 71) (n := (((1100 * ((2 * p) + b1)) + A 72 (((2 * p) + b1)).toNat)).toNat) hF0 (by decide)
  obtain ⟨A4, eA4⟩ : ∃ q, q = uA A 71 (((1100 * ((2 * p) + b1)) + A 72 (((2 * p) + b1)).toNat)).toNat (d2) := ⟨_, rfl⟩
  rw [← eA4]
  rw [← eA4] at hW5 hF6
  have q7 : A4 71 (((1100 * ((2 * p) + b1)) + A 72 (((2 * p) + b1)).toNat)).toNat = d2 := by rw [eA4]; exact uA_eq
  refine jx_ld (pc_q := 27) (l_q := L2) (st_q := [.ref 66]) rfl (jl_aloadn gL2_0) ?_
  refine jr_get (pc_q := 30) (i := 103) (v := .ref 139) rfl rfl (by decide) rfl rfl ?_
  refine jx_ld (pc_q := 31) (l_q := L2) (st_q := [.int (i32 (((2 * p) + b1))), .ref 139]) rfl (jl_iloadn gL2_3) ?_
  refine jx_ar (pc_q := 32) (st_q := [.int (i32 (((2 * p) + b1))), .ref 139, .int (i32 (((2 * p) + b1))), .ref 139]) rfl rfl rfl rfl ?_
  refine jr_ldv (pc_q := 33) (i := 72) (m := 12) (z := ((2 * p) + b1)) (y := A 72 (((2 * p) + b1)).toNat) rfl (by decide) rfl (by decide) (by omega) (by omega) rfl (show A4 72 (((2 * p) + b1)).toNat = A 72 (((2 * p) + b1)).toNat from (congrFun ((congrFun eA4 72).trans (uA_ne (by decide))) _)) ?_
  refine jx_ar (pc_q := 34) (st_q := [.int (i32 (1)), .int (i32 (A 72 (((2 * p) + b1)).toNat)), .int (i32 (((2 * p) + b1))), .ref 139]) rfl rfl rfl rfl ?_
  refine jx_add (pc_q := 35) rfl rfl ?_
  refine jr_st (pc_q := 36) (i := 72) (m := 12) (z := ((2 * p) + b1)) (y := (A 72 (((2 * p) + b1)).toNat + 1)) rfl (by decide) rfl (by decide) (by omega) (by omega) rfl ?_
  have hW9 : Wk G (uA A4 72 (((2 * p) + b1)).toNat ((A 72 (((2 * p) + b1)).toNat + 1))) := Wk_a hW5 (show (-2147483648 : Int) ≤ (A 72 (((2 * p) + b1)).toNat + 1) by omega) (show (A 72 (((2 * p) + b1)).toNat + 1) ≤ (2147483647 : Int) by omega)
  have hF10 := Fr_a (z := (A 72 (((2 * p) + b1)).toNat + 1)) (k := 72) (n := (((2 * p) + b1)).toNat) hF6 (by decide)
  obtain ⟨A8, eA8⟩ : ∃ q, q = uA A4 72 (((2 * p) + b1)).toNat ((A 72 (((2 * p) + b1)).toNat + 1)) := ⟨_, rfl⟩
  rw [← eA8]
  rw [← eA8] at hW9 hF10
  have q11 : A8 72 (((2 * p) + b1)).toNat = (A 72 (((2 * p) + b1)).toNat + 1) := by rw [eA8]; exact uA_eq
  have hc0 := mr_c (i := (2 * p).toNat) ((congrFun eA4 72).trans (uA_ne (by decide))) eA8 (by omega) e_m0 (by omega); have hc1 := mr_c (i := (2 * p + 1).toNat) ((congrFun eA4 72).trans (uA_ne (by decide))) eA8 (by omega) e_m1 (by omega); have had : A8 = adM A (2 * p + d2 % 2) d2 := ad_eq (b := b1) (by omega) rfl eA4 eA8
  refine jx_ld (pc_q := 37) (l_q := L2) (st_q := [.ref 66]) rfl (jl_aloadn gL2_0) ?_
  refine jr_get (pc_q := 40) (i := 97) (v := .ref 133) rfl rfl (by decide) rfl rfl ?_
  refine jx_ld (pc_q := 41) (l_q := L2) (st_q := [.int (i32 (p)), .ref 133]) rfl (jl_iloadn gL2_1) ?_
  have b12 : (-2147483648 : Int) ≤ A 66 (p).toNat ∧ A 66 (p).toNat ≤ 2147483647 := hW.2 66 _
  refine jr_ldv (pc_q := 42) (i := 66) (m := 6) (z := p) (y := A 66 (p).toNat) rfl (by decide) rfl (by decide) (by omega) (by omega) rfl (show A8 66 (p).toNat = A 66 (p).toNat from (congrFun (((congrFun eA8 66).trans (uA_ne (by decide))).trans ((congrFun eA4 66).trans (uA_ne (by decide)))) _)) ?_
  refine jx_ar (pc_q := 43) (st_q := [.int (i32 (-1)), .int (i32 (A 66 (p).toNat))]) rfl rfl rfl rfl ?_
  refine jx_icmp_ne (pc_q := 46) (tg := 51) rfl rfl rfl (Int.le_trans (by decide : (-2147483648 : Int) ≤ -2147483648) b12.1) (Int.le_trans b12.2 (by decide : (2147483647 : Int) ≤ 2147483647)) (by decide) (by decide) (fun h13 => ?_) (fun h13 => ?_)
  · have _q := h13
    refine jx_rt (v := none) rfl rfl rfl rfl rfl rfl ?_
    exact ⟨_, _, rfl, rfl, hW9, hF10, (.inl ⟨by omega, had⟩), trivial⟩
  · have _q := h13
    refine jx_ld (pc_q := 47) (l_q := L2) (st_q := [.ref 66]) rfl (jl_aloadn gL2_0) ?_
    refine jx_ld (pc_q := 48) (l_q := L2) (st_q := [.int (i32 (p)), .ref 66]) rfl (jl_iloadn gL2_1) ?_
    have b14 : (-2147483648 : Int) ≤ A8 72 ((2 * p)).toNat ∧ A8 72 ((2 * p)).toNat ≤ 2147483647 := hW9.2 72 _
    have b15 : (-2147483648 : Int) ≤ A8 72 (((2 * p) + 1)).toNat ∧ A8 72 (((2 * p) + 1)).toNat ≤ 2147483647 := hW9.2 72 _
    refine jx_vr (pc_q := 51) (as := [.int (i32 (p))]) (st := []) rfl rfl rfl rfl ⟨rfl, rfl, Nat.le_of_ble_eq_true rfl⟩ rfl rfl (c_dispatch (dd := d) (hd := by omega) (hW := hW9) (p := p) (m0 := A8 72 ((2 * p)).toNat) (e_m0 := show A8 72 ((2 * p)).toNat = A8 72 ((2 * p)).toNat from rfl) (m1 := A8 72 (((2 * p) + 1)).toNat) (e_m1 := show A8 72 (((2 * p) + 1)).toNat = A8 72 (((2 * p) + 1)).toNat from rfl)  (h_p := ⟨(Int.le_trans (by decide : (-2147483648 : Int) ≤ -2147483648) h_p.1), (Int.le_trans h_p.2 (by decide : (2147483647 : Int) ≤ 2147483647))⟩)  (p_0 := by omega) (p_1 := by omega) (p_2 := by omega) (p_3 := by omega) (p_4 := by omega) (p_5 := by omega)) (fun o V_q hq => ?_)
    obtain ⟨G16, A17, rfl, rfl, hW18, hF19, p20, -⟩ := hq
    have hF22 := Fr_tr hF10 hF19 (Fr_sub (by decide)) (Fr_sub (by decide))
    refine .inl ⟨rfl, ?_⟩
    refine jx_rt (v := none) rfl rfl rfl rfl rfl rfl ?_
    exact ⟨_, _, rfl, rfl, hW18, hF22, (.inr ⟨by omega, had ▸ p20⟩), trivial⟩
