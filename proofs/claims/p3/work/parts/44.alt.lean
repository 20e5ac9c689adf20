theorem wX_kd {A : Nat → Nat → Int} {V : Nat → Prop} {sb e lo hi : Int} (h : wX A V sb e lo hi) : lo ≤ e ∧ e < hi ∧ (A 15 e.toNat = 2 ∨ A 15 e.toNat = 3) := by
  obtain ⟨h1, h2, h3⟩ := h
  refine ⟨h1, h2, ?_⟩
  rcases h3 with h3 | h3
  · exact .inl h3
  · exact .inr h3.1
theorem wX_i3 {A : Nat → Nat → Int} {V : Nat → Prop} {sb e lo hi : Int} (h : wX A V sb e lo hi) (k : A 15 e.toNat = 3) : wE A V sb 20 (A 18 e.toNat) lo e := by
  obtain ⟨h1, h2, h3⟩ := h
  rcases h3 with h3 | h3
  · exact absurd h3 (by omega)
  · exact h3.2
theorem lG2_mk {A : Nat → Nat → Int} {M : Int → Int → Int → Int → Int → Prop} {n f g L z D b : Int} (q25 : A 25 n.toNat = f) (q18 : A 18 n.toNat = b) (hg : g = f + 2 * b) (hz : g ≤ z) (h : ∀ l, CH A (A 21 n.toNat) l → ∀ e ∈ l, lG A M g L z D e) : lG2 A M n f L z D := by
  unfold lG2
  rw [q18, ← hg]
  exact ⟨q25, hz, h⟩

set_option maxRecDepth 20000 in
set_option maxHeartbeats 4000000 in
theorem c_measureE_x {X : jX} {dd : Nat} {Vs : Nat → Prop} {sb : Int} {c0 c1 : jC} {G : Nat → Int} {A : Nat → Nat → Int} {T : jH} {e free : Int} {lo hi : Int} {mo : Int} (hd : 27 ≤ dd) (hW : Wk G A) (e_mo : G 59 = mo) (h_e : (-2147483648 : Int) ≤ e ∧ e ≤ 2147483647) (h_free : (-2147483648 : Int) ≤ free ∧ free ≤ 2147483647) (p_0 : 0 ≤ lo) (p_1 : hi ≤ 6999) (p_2 : 0 ≤ free) (p_3 : free + 22 ≤ 900000) (p_4 : mo ≤ 1000000) (p_5 : wX A Vs sb (e) (lo) (hi)) : wk X dd 316 [.ref 66, .int (i32 e), .int (i32 free)] (rV c0 c1 G A T) (fun o V_q => ∃ (G_q : Nat → Int) (A_q : Nat → Nat → Int) (mo2 : Int), V_q = rV c0 c1 G_q A_q T ∧ o = .inl none ∧ Wk G_q A_q ∧ Fr [59] [25] G A G_q A_q ∧ Fo [25, 26, 27] (lo) (hi) A A_q ∧ G_q 59 = mo2 ∧ (mo ≤ mo2) ∧ (mo2 ≤ 1000000) ∧ (lE A_q (22) (e) (free) (mo2)) ∧ True) := by
  obtain ⟨d, rfl⟩ : ∃ d, dd = d + 1 := ⟨dd - 1, by omega⟩
  refine wk_of (e := jm316) rfl (Nat.le_of_ble_eq_true rfl) ?_
  show wj X d jm316 (0, [(0, .ref 66), (1, .int (i32 (e))), (2, .int (i32 (free)))], [], rV c0 c1 G A T) _
  have hF0 : Fr [59] [25] G A G A := Fr_rf
  have hO0 : Fo [25, 26, 27] (lo) (hi) A A := Fo_rf
  have b_mo : (-2147483648 : Int) ≤ mo ∧ mo ≤ 2147483647 := e_mo ▸ hW.1 59
  have hkd := wX_kd p_5
  refine jx_ld (pc_q := 1) (l_q := [(0, .ref 66), (1, .int (i32 (e))), (2, .int (i32 (free)))]) (st_q := [.ref 66]) rfl (jl_aloadn rfl) ?_
  refine jr_get (pc_q := 4) (i := 32) (v := .ref 82) rfl rfl (by decide) rfl rfl ?_
  refine jx_ld (pc_q := 5) (l_q := [(0, .ref 66), (1, .int (i32 (e))), (2, .int (i32 (free)))]) (st_q := [.int (i32 (e)), .ref 82]) rfl (jl_iloadn rfl) ?_
  have b1 : (0 : Int) ≤ A 15 (e).toNat ∧ A 15 (e).toNat ≤ 34 := hW.2 15 _
  refine jr_ldv (pc_q := 6) (i := 15) (m := 7000) (z := e) (y := A 15 (e).toNat) rfl (by decide) rfl (by decide) (by omega) (by omega) rfl (show A 15 (e).toNat = A 15 (e).toNat from rfl) ?_
  rcases (by omega : A 15 (e).toNat = 3 ∨ A 15 (e).toNat = 4 ∨ A 15 (e).toNat = 5 ∨ A 15 (e).toNat = 6 ∨ A 15 (e).toNat = 7 ∨ (A 15 (e).toNat < 3 ∨ 7 < A 15 (e).toNat)) with h2 | h2 | h2 | h2 | h2 | h2
  · refine jx_swe (z := 3) (tg := 40) h2 rfl rfl rfl rfl ?_
    have hq3 := wX_i3 p_5 (by omega)
    refine jx_ld (pc_q := 41) (l_q := [(0, .ref 66), (1, .int (i32 (e))), (2, .int (i32 (free)))]) (st_q := [.ref 66]) rfl (jl_aloadn rfl) ?_
    refine jx_ld (pc_q := 42) (l_q := [(0, .ref 66), (1, .int (i32 (e))), (2, .int (i32 (free)))]) (st_q := [.ref 66, .ref 66]) rfl (jl_aloadn rfl) ?_
    refine jr_get (pc_q := 45) (i := 35) (v := .ref 85) rfl rfl (by decide) rfl rfl ?_
    refine jx_ld (pc_q := 46) (l_q := [(0, .ref 66), (1, .int (i32 (e))), (2, .int (i32 (free)))]) (st_q := [.int (i32 (e)), .ref 85, .ref 66]) rfl (jl_iloadn rfl) ?_
    have b3 : (-2147483648 : Int) ≤ A 18 (e).toNat ∧ A 18 (e).toNat ≤ 2147483647 := hW.2 18 _
    refine jr_ldv (pc_q := 47) (i := 18) (m := 7000) (z := e) (y := A 18 (e).toNat) rfl (by decide) rfl (by decide) (by omega) (by omega) rfl (show A 18 (e).toNat = A 18 (e).toNat from rfl) ?_
    refine jx_ld (pc_q := 48) (l_q := [(0, .ref 66), (1, .int (i32 (e))), (2, .int (i32 (free)))]) (st_q := [.int (i32 (free)), .int (i32 (A 18 (e).toNat)), .ref 66]) rfl (jl_iloadn rfl) ?_
    refine jx_vr (pc_q := 51) (as := [.int (i32 (A 18 (e).toNat)), .int (i32 (free))]) (st := []) rfl rfl rfl rfl ⟨rfl, rfl, Nat.le_of_ble_eq_true rfl⟩ rfl rfl (ME_all X 22 (dd := d) (hd := by omega) (hW := hW) (e := A 18 (e).toNat) (free := free) (lo := lo) (hi := e) (mo := mo) (e_mo := show G 59 = mo from (e_mo))  (h_e := ⟨(Int.le_trans (by decide : (-2147483648 : Int) ≤ -2147483648) b3.1), (Int.le_trans b3.2 (by decide : (2147483647 : Int) ≤ 2147483647))⟩) (h_free := ⟨(Int.le_trans (by decide : (-2147483648 : Int) ≤ -2147483648) h_free.1), (Int.le_trans h_free.2 (by decide : (2147483647 : Int) ≤ 2147483647))⟩)  (p_0 := by omega) (p_1 := by omega) (p_2 := by omega) (p_3 := by omega) (p_4 := by omega) (p_5 := (wE_mono (by omega) (by omega) (by omega) hq3)) (p_6 := by omega)) (fun o V_q hq => ?_)
    obtain ⟨G4, A5, mo2_6, rfl, rfl, hW7, hF8, hQ9, e10, p11, p12, p13, -⟩ := hq
    have hF15 := Fr_tr hF0 hF8 (Fr_sub (by decide)) (Fr_sub (by decide))
    have hO16 := Fo_tr hO0 hQ9 (by omega) (by omega)
    have bmo2_6 : (-2147483648 : Int) ≤ mo2_6 ∧ mo2_6 ≤ 2147483647 := e10 ▸ hW7.1 59
    refine .inl ⟨rfl, ?_⟩
    refine jx_go (tg := 177) rfl rfl ?_
    refine jx_rt (v := none) rfl rfl rfl rfl rfl rfl ?_
    exact ⟨_, _, mo2_6, rfl, rfl, hW7, hF15, hO16, (e10), by omega, by omega, (lE_k3 (show A5 15 (e).toNat = A 15 (e).toNat from (congrFun (hF8.2 15 rfl) _)) (show A5 18 (e).toNat = A 18 (e).toNat from (congrFun (hF8.2 18 rfl) _)) (by omega) (lE_sz (by omega) (by omega) p13)), trivial⟩
  · refine jx_swe (z := 4) (tg := 68) h2 rfl rfl rfl rfl ?_
    exfalso
    omega
  · refine jx_swe (z := 5) (tg := 54) h2 rfl rfl rfl rfl ?_
    exfalso
    omega
  · refine jx_swe (z := 6) (tg := 54) h2 rfl rfl rfl rfl ?_
    exfalso
    omega
  · refine jx_swe (z := 7) (tg := 54) h2 rfl rfl rfl rfl ?_
    exfalso
    omega
  · refine jx_swt (tg := 177) (by omega) (by omega) rfl h2 rfl ?_
    refine jx_rt (v := none) rfl rfl rfl rfl rfl rfl ?_
    exact ⟨_, _, mo, rfl, rfl, hW, hF0, hO0, (e_mo), by omega, by omega, (lE_k1 (show A 15 (e).toNat = A 15 (e).toNat from rfl) (by omega)), trivial⟩
set_option maxRecDepth 20000 in
set_option maxHeartbeats 4000000 in
theorem c_measureReference_0 {X : jX} {dd : Nat} {c0 c1 : jC} {G : Nat → Int} {A : Nat → Nat → Int} {T : jH} {x free : Int} (hd : 1 ≤ dd) (hW : Wk G A) (h_x : (-2147483648 : Int) ≤ x ∧ x ≤ 2147483647) (h_free : (-2147483648 : Int) ≤ free ∧ free ≤ 2147483647) (p_0 : x ≤ 0) : wk X dd 317 [.ref 66, .int (i32 x), .int (i32 free)] (rV c0 c1 G A T) (fun o V_q => V_q = rV c0 c1 G A T ∧ o = .inl none ∧ True) := by
  obtain ⟨d, rfl⟩ : ∃ d, dd = d + 1 := ⟨dd - 1, by omega⟩
  refine wk_of (e := jm317) rfl (Nat.le_of_ble_eq_true rfl) ?_
  show wj X d jm317 (0, [(0, .ref 66), (1, .int (i32 (x))), (2, .int (i32 (free)))], [], rV c0 c1 G A T) _
  refine jx_ld (pc_q := 1) (l_q := [(0, .ref 66), (1, .int (i32 (x))), (2, .int (i32 (free)))]) (st_q := [.int (i32 (x))]) rfl (jl_iloadn rfl) ?_
  refine jx_if_le (pc_q := 4) (tg := 25) rfl rfl rfl (Int.le_trans (by decide : (-2147483648 : Int) ≤ -2147483648) h_x.1) (Int.le_trans h_x.2 (by decide : (2147483647 : Int) ≤ 2147483647)) (fun h1 => ?_) (fun h1 => ?_)
  · have _q := h1
    refine jx_rt (v := none) rfl rfl rfl rfl rfl rfl ?_
    exact ⟨rfl, rfl, trivial⟩
  · have _q := h1
    exfalso
    omega
def MM (X : jX) (k : Nat) : Prop := ∀ ⦃dd : Nat⦄ ⦃Vs : Nat → Prop⦄ ⦃sb pb : Int⦄ ⦃c0 c1 : jC⦄ ⦃G : Nat → Int⦄ ⦃A : Nat → Nat → Int⦄ ⦃T : jH⦄ ⦃n fr : Int⦄ ⦃lo hi s0 s1 : Int⦄ ⦃mo lv : Int⦄ (hd : 2 * k + 30 ≤ dd) (hW : Wk G A) (e_mo : G 59 = mo) (e_lv : G 60 = lv) (h_n : (-2147483648 : Int) ≤ n ∧ n ≤ 2147483647) (h_fr : (-2147483648 : Int) ≤ fr ∧ fr ≤ 2147483647) (p_0 : 0 ≤ lo) (p_1 : hi ≤ 6999) (p_2 : 0 ≤ s0) (p_3 : s1 ≤ sb) (p_4 : sb ≤ 202) (p_5 : 0 ≤ lv) (p_6 : lv + (k : Int) ≤ 60) (p_7 : mo ≤ 1000000) (p_8 : PS A (pb)) (p_9 : 1 ≤ fr) (p_10 : fr ≤ 70 + 64 * s0 + 20 * lo) (p_11 : fr ≤ mo) (p_12 : wP A sb pb (k) (Vs) (n) (lo) (hi) (s0) (s1)) (p_13 : pb ≤ 24), wk X dd 320 [.ref 66, .int (i32 n), .int (i32 fr)] (rV c0 c1 G A T) (fun o V_q => ∃ (G_q : Nat → Int) (A_q : Nat → Nat → Int) (r : Int) (mo2 : Int) (lv2 : Int), V_q = rV c0 c1 G_q A_q T ∧ o = .inl (some (.int (i32 r))) ∧ Wk G_q A_q ∧ Fr [59, 60] [9, 10, 25, 26, 27] G A G_q A_q ∧ Fo [25, 26, 27] (lo) (hi) A A_q ∧ Fo [9, 10] (s0) (s1) A A_q ∧ ((-2147483648 : Int) ≤ r ∧ r ≤ 2147483647) ∧ G_q 59 = mo2 ∧ G_q 60 = lv2 ∧ (mo ≤ mo2) ∧ (mo2 ≤ 1000000) ∧ (lv2 = lv) ∧ (0 ≤ r) ∧ (r ≤ 1000000) ∧ (lP A_q (k) (n) (fr) (lv) (mo2) (r)) ∧ True)
set_option maxRecDepth 20000 in
set_option maxHeartbeats 4000000 in
theorem c_measureBranch {X : jX} {k : Nat} (hM : MM X k) {dd : Nat} {Vs : Nat → Prop} {sb pb : Int} {c0 c1 : jC} {G : Nat → Int} {A : Nat → Nat → Int} {T : jH} {n : Int} {lo hi s0 s1 : Int} {mo lv : Int} (hd : 2 * k + 31 ≤ dd) (hW : Wk G A) (e_mo : G 59 = mo) (e_lv : G 60 = lv) (h_n : (-2147483648 : Int) ≤ n ∧ n ≤ 2147483647) (p_0 : 0 ≤ lo) (p_1 : hi ≤ 6999) (p_2 : 0 ≤ s0) (p_3 : s1 ≤ sb) (p_4 : sb ≤ 202) (p_5 : 0 ≤ lv) (p_6 : lv + (k : Int) + 1 ≤ 60) (p_7 : mo ≤ 1000000) (p_8 : PS A (pb)) (p_9 : wP A sb pb (k) (Vs) (n) (lo) (hi) (s0) (s1)) (p_10 : pb ≤ 24) : wk X dd 319 [.ref 66, .int (i32 n)] (rV c0 c1 G A T) (fun o V_q => ∃ (G_q : Nat → Int) (A_q : Nat → Nat → Int) (r : Int) (mo2 : Int) (lv2 : Int) (zs2 : Int) (zd2 : Int), V_q = rV c0 c1 G_q A_q T ∧ o = .inl (some (.int (i32 r))) ∧ Wk G_q A_q ∧ Fr [59, 60] [9, 10, 25, 26, 27] G A G_q A_q ∧ Fo [25, 26, 27] (lo) (hi) A A_q ∧ Fo [9, 10] (s0) (s1) A A_q ∧ ((-2147483648 : Int) ≤ r ∧ r ≤ 2147483647) ∧ G_q 59 = mo2 ∧ G_q 60 = lv2 ∧ A_q 26 (n).toNat = zs2 ∧ A_q 27 (n).toNat = zd2 ∧ (mo2 = mo) ∧ (lv2 = lv) ∧ (0 ≤ r) ∧ (r ≤ 1000000) ∧ (1 ≤ zs2) ∧ (0 ≤ zd2) ∧ (lB A_q (lP A_q k) (lv) (n)) ∧ (((r = zs2 + zd2 + 3)) ∨ ((r = 1000000)))) := by
  obtain ⟨d, rfl⟩ : ∃ d, dd = d + 1 := ⟨dd - 1, by omega⟩
  refine wk_of (e := jm319) rfl (Nat.le_of_ble_eq_true rfl) ?_
  show wj X d jm319 (0, [(0, .ref 66), (1, .int (i32 (n)))], [], rV c0 c1 G A T) _
  have hF0 : Fr [59, 60] [9, 10, 25, 26, 27] G A G A := Fr_rf
  have hO0 : Fo [25, 26, 27] (lo) (hi) A A := Fo_rf
  have hN0 : Fo [9, 10] (s0) (s1) A A := Fo_rf
  have b_mo : (-2147483648 : Int) ≤ mo ∧ mo ≤ 2147483647 := e_mo ▸ hW.1 59
  have b_lv : (-2147483648 : Int) ≤ lv ∧ lv ≤ 2147483647 := e_lv ▸ hW.1 60
  have hin := wP_in p_9
  refine jx_ld (pc_q := 1) (l_q := [(0, .ref 66), (1, .int (i32 (n)))]) (st_q := [.ref 66]) rfl (jl_aloadn rfl) ?_
  refine jr_get (pc_q := 4) (i := 59) (v := .int (i32 (mo))) rfl rfl (by decide) (rFv_eq (by decide) (show G 59 = mo from (e_mo))) rfl ?_
  refine jx_ld (pc_q := 5) (l_q := jSto1 [(0, .ref 66), (1, .int (i32 (n)))] 2 (.int (i32 (mo)))) (st_q := []) rfl rfl ?_
  obtain ⟨L1, eL1⟩ : ∃ q, q = jSto1 [(0, .ref 66), (1, .int (i32 (n)))] 2 (.int (i32 (mo))) := ⟨_, rfl⟩
  rw [← eL1]
  have gL1_0 : jGet L1 0 = some (.ref 66) := eL1 ▸ jg_ne (by decide) (rfl : jGet [(0, .ref 66), (1, .int (i32 (n)))] 0 = some (.ref 66)) rfl
  have gL1_1 : jGet L1 1 = some (.int (i32 (n))) := eL1 ▸ jg_ne (by decide) (rfl : jGet [(0, .ref 66), (1, .int (i32 (n)))] 1 = some (.int (i32 (n)))) rfl
  have gL1_2 : jGet L1 2 = some (.int (i32 (mo))) := eL1 ▸ jg_eq
  refine jx_ld (pc_q := 6) (l_q := L1) (st_q := [.ref 66]) rfl (jl_aloadn gL1_0) ?_
  refine jx_ar (pc_q := 7) (st_q := [.int (i32 (1)), .ref 66]) rfl rfl rfl rfl ?_
  refine jr_put (pc_q := 10) (i := 59) (z := 1) rfl rfl (by decide) rfl rfl rfl rfl rfl rfl ?_
  have hW2 : Wk (uG G 59 (1)) A := Wk_g hW (show (-2147483648 : Int) ≤ 1 by omega) (show 1 ≤ (2147483647 : Int) by omega)
  have hF3 := Fr_g (z := 1) (i := 59) hF0 (by decide)
  refine jx_ld (pc_q := 11) (l_q := L1) (st_q := [.ref 66]) rfl (jl_aloadn gL1_0) ?_
  refine jx_ar (pc_q := 12) (st_q := [.ref 66, .ref 66]) rfl rfl rfl rfl ?_
  refine jr_get (pc_q := 15) (i := 60) (v := .int (i32 (lv))) rfl rfl (by decide) (rFv_eq (by decide) (show (uG G 59 (1)) 60 = lv from (e_lv))) rfl ?_
  refine jx_ar (pc_q := 16) (st_q := [.int (i32 (1)), .int (i32 (lv)), .ref 66]) rfl rfl rfl rfl ?_
  refine jx_add (pc_q := 17) rfl rfl ?_
  refine jr_put (pc_q := 20) (i := 60) (z := (lv + 1)) rfl rfl (by decide) rfl rfl rfl rfl rfl rfl ?_
  have hW4 : Wk (uG (uG G 59 (1)) 60 ((lv + 1))) A := Wk_g hW2 (show (-2147483648 : Int) ≤ (lv + 1) by omega) (show (lv + 1) ≤ (2147483647 : Int) by omega)
  have hF5 := Fr_g (z := (lv + 1)) (i := 60) hF3 (by decide)
  refine jx_ld (pc_q := 21) (l_q := L1) (st_q := [.ref 66]) rfl (jl_aloadn gL1_0) ?_
  refine jr_get (pc_q := 24) (i := 44) (v := .ref 94) rfl rfl (by decide) rfl rfl ?_
  refine jx_ld (pc_q := 25) (l_q := L1) (st_q := [.int (i32 (n)), .ref 94]) rfl (jl_iloadn gL1_1) ?_
  refine jx_ld (pc_q := 26) (l_q := L1) (st_q := [.ref 66, .int (i32 (n)), .ref 94]) rfl (jl_aloadn gL1_0) ?_
  refine jx_ld (pc_q := 27) (l_q := L1) (st_q := [.int (i32 (n)), .ref 66, .int (i32 (n)), .ref 94]) rfl (jl_iloadn gL1_1) ?_
  refine jx_ar (pc_q := 28) (st_q := [.int (i32 (1)), .int (i32 (n)), .ref 66, .int (i32 (n)), .ref 94]) rfl rfl rfl rfl ?_
  refine jx_vr (pc_q := 31) (as := [.int (i32 (n)), .int (i32 (1))]) (st := [.int (i32 (n)), .ref 94]) rfl rfl rfl rfl ⟨rfl, rfl, Nat.le_of_ble_eq_true rfl⟩ rfl rfl (hM (dd := d) (hd := by omega) (hW := hW4) (n := n) (fr := 1) (lo := lo) (hi := hi) (s0 := s0) (s1 := s1) (mo := 1) (e_mo := show (uG (uG G 59 (1)) 60 ((lv + 1))) 59 = 1 from rfl) (lv := (lv + 1)) (e_lv := show (uG (uG G 59 (1)) 60 ((lv + 1))) 60 = (lv + 1) from rfl)  (h_n := ⟨(Int.le_trans (by decide : (-2147483648 : Int) ≤ -2147483648) h_n.1), (Int.le_trans h_n.2 (by decide : (2147483647 : Int) ≤ 2147483647))⟩) (h_fr := ⟨(by decide), (by decide)⟩)  (p_0 := by omega) (p_1 := by omega) (p_2 := by omega) (p_3 := by omega) (p_4 := by omega) (p_5 := by omega) (p_6 := by omega) (p_7 := by omega) (p_8 := p_8) (p_9 := by omega) (p_10 := by omega) (p_11 := by omega) (p_12 := p_9) (p_13 := by omega)) (fun o V_q hq => ?_)
  obtain ⟨G6, A7, r8, mo2_9, lv2_10, rfl, rfl, hW11, hF12, hQ13, hQ14, b15, e16, e17, p18, p19, p20, p21, p22, p23, -⟩ := hq
  have hF25 := Fr_tr hF5 hF12 (Fr_sub (by decide)) (Fr_sub (by decide))
  have hO26 := Fo_tr hO0 hQ13 (by omega) (by omega)
  have hN27 := Fo_tr hN0 hQ14 (by omega) (by omega)
  have bmo2_9 : (-2147483648 : Int) ≤ mo2_9 ∧ mo2_9 ≤ 2147483647 := e16 ▸ hW11.1 59
  have blv2_10 : (-2147483648 : Int) ≤ lv2_10 ∧ lv2_10 ≤ 2147483647 := e17 ▸ hW11.1 60
  refine .inr ⟨_, rfl, ?_⟩
  refine jr_st (pc_q := 32) (i := 27) (m := 7000) (z := n) (y := r8) rfl (by decide) rfl (by decide) (by omega) (by omega) rfl ?_
  have hW29 : Wk G6 (uA A7 27 (n).toNat (r8)) := Wk_a hW11 (show (-2147483648 : Int) ≤ r8 by omega) (show r8 ≤ (2147483647 : Int) by omega)
  have hF30 := Fr_a (z := r8) (k := 27) (n := (n).toNat) hF25 (by decide)
  obtain ⟨A28, eA28⟩ : ∃ q, q = uA A7 27 (n).toNat (r8) := ⟨_, rfl⟩
  rw [← eA28]
  rw [← eA28] at hW29 hF30
  have q31 : A28 27 (n).toNat = r8 := by rw [eA28]; exact uA_eq
  have hO32 : Fo [25, 26, 27] (lo) (hi) A A28 := eA28 ▸ Fo_a hO26 (z := n) (by omega) (by omega) (by omega)
  have hN33 : Fo [9, 10] (s0) (s1) A A28 := eA28 ▸ Fo_n hN27 rfl
  have sf34 : lP A28 (k) (n) (1) (lv + 1) (mo2_9) (r8) := lP_own eA28 (by decide) (by omega) (by omega) (wP_fr hF25 (by decide) (by omega) (by omega) p_9) p23
  refine jx_ld (pc_q := 33) (l_q := L1) (st_q := [.ref 66]) rfl (jl_aloadn gL1_0) ?_
  refine jx_ar (pc_q := 34) (st_q := [.ref 66, .ref 66]) rfl rfl rfl rfl ?_
  refine jr_get (pc_q := 37) (i := 60) (v := .int (i32 (lv2_10))) rfl rfl (by decide) (rFv_eq (by decide) (show G6 60 = lv2_10 from (e17))) rfl ?_
  refine jx_ar (pc_q := 38) (st_q := [.int (i32 (1)), .int (i32 (lv2_10)), .ref 66]) rfl rfl rfl rfl ?_
  refine jx_sub (pc_q := 39) rfl rfl ?_
  refine jr_put (pc_q := 42) (i := 60) (z := (lv2_10 - 1)) rfl rfl (by decide) rfl rfl rfl rfl rfl rfl ?_
  have hW35 : Wk (uG G6 60 ((lv2_10 - 1))) A28 := Wk_g hW29 (show (-2147483648 : Int) ≤ (lv2_10 - 1) by omega) (show (lv2_10 - 1) ≤ (2147483647 : Int) by omega)
  have hF36 := Fr_g (z := (lv2_10 - 1)) (i := 60) hF30 (by decide)
  refine jx_ld (pc_q := 43) (l_q := L1) (st_q := [.ref 66]) rfl (jl_aloadn gL1_0) ?_
  refine jr_get (pc_q := 46) (i := 43) (v := .ref 93) rfl rfl (by decide) rfl rfl ?_
  refine jx_ld (pc_q := 47) (l_q := L1) (st_q := [.int (i32 (n)), .ref 93]) rfl (jl_iloadn gL1_1) ?_
  refine jx_ld (pc_q := 48) (l_q := L1) (st_q := [.ref 66, .int (i32 (n)), .ref 93]) rfl (jl_aloadn gL1_0) ?_
  refine jr_get (pc_q := 51) (i := 59) (v := .int (i32 (mo2_9))) rfl rfl (by decide) (rFv_eq (by decide) (show (uG G6 60 ((lv2_10 - 1))) 59 = mo2_9 from (e16))) rfl ?_
  refine jr_st (pc_q := 52) (i := 26) (m := 7000) (z := n) (y := mo2_9) rfl (by decide) rfl (by decide) (by omega) (by omega) rfl ?_
  have hW38 : Wk (uG G6 60 ((lv2_10 - 1))) (uA A28 26 (n).toNat (mo2_9)) := Wk_a hW35 (show (-2147483648 : Int) ≤ mo2_9 by omega) (show mo2_9 ≤ (2147483647 : Int) by omega)
  have hF39 := Fr_a (z := mo2_9) (k := 26) (n := (n).toNat) hF36 (by decide)
  obtain ⟨A37, eA37⟩ : ∃ q, q = uA A28 26 (n).toNat (mo2_9) := ⟨_, rfl⟩
  rw [← eA37]
  rw [← eA37] at hW38 hF39
  have q40 : A37 26 (n).toNat = mo2_9 := by rw [eA37]; exact uA_eq
  have hO41 : Fo [25, 26, 27] (lo) (hi) A A37 := eA37 ▸ Fo_a hO32 (z := n) (by omega) (by omega) (by omega)
  have hN42 : Fo [9, 10] (s0) (s1) A A37 := eA37 ▸ Fo_n hN33 rfl
  have sf43 : lP A37 (k) (n) (1) (lv + 1) (mo2_9) (r8) := lP_own eA37 (by decide) (by omega) (by omega) (wP_fr hF36 (by decide) (by omega) (by omega) p_9) sf34
  refine jx_ld (pc_q := 53) (l_q := L1) (st_q := [.ref 66]) rfl (jl_aloadn gL1_0) ?_
  refine jx_ld (pc_q := 54) (l_q := L1) (st_q := [.int (i32 (mo)), .ref 66]) rfl (jl_iloadn gL1_2) ?_
  refine jr_put (pc_q := 57) (i := 59) (z := mo) rfl rfl (by decide) rfl rfl rfl rfl rfl rfl ?_
  have hW44 : Wk (uG (uG G6 60 ((lv2_10 - 1))) 59 (mo)) A37 := Wk_g hW38 (show (-2147483648 : Int) ≤ mo by omega) (show mo ≤ (2147483647 : Int) by omega)
  have hF45 := Fr_g (z := mo) (i := 59) hF39 (by decide)
  refine jx_ld (pc_q := 58) (l_q := L1) (st_q := [.ref 66]) rfl (jl_aloadn gL1_0) ?_
  refine jr_get (pc_q := 61) (i := 43) (v := .ref 93) rfl rfl (by decide) rfl rfl ?_
  refine jx_ld (pc_q := 62) (l_q := L1) (st_q := [.int (i32 (n)), .ref 93]) rfl (jl_iloadn gL1_1) ?_
  refine jr_ldv (pc_q := 63) (i := 26) (m := 7000) (z := n) (y := mo2_9) rfl (by decide) rfl (by decide) (by omega) (by omega) rfl (show A37 26 (n).toNat = mo2_9 from (q40)) ?_
  refine jx_i2n (pc_q := 64) rfl rfl (Int.le_trans (by decide : (-2147483648 : Int) ≤ -2147483648) bmo2_9.1) (Int.le_trans bmo2_9.2 (by decide : (2147483647 : Int) ≤ 2147483647)) ?_
  refine jx_ld (pc_q := 65) (l_q := L1) (st_q := [.ref 66, .long (i64 (mo2_9))]) rfl (jl_aloadn gL1_0) ?_
  refine jr_get (pc_q := 68) (i := 44) (v := .ref 94) rfl rfl (by decide) rfl rfl ?_
  refine jx_ld (pc_q := 69) (l_q := L1) (st_q := [.int (i32 (n)), .ref 94, .long (i64 (mo2_9))]) rfl (jl_iloadn gL1_1) ?_
  refine jr_ldv (pc_q := 70) (i := 27) (m := 7000) (z := n) (y := r8) rfl (by decide) rfl (by decide) (by omega) (by omega) rfl (show A37 27 (n).toNat = r8 from (congrFun ((congrFun eA37 27).trans (uA_ne (by decide))) _).trans (q31)) ?_
  refine jx_i2n (pc_q := 71) rfl rfl (Int.le_trans (by decide : (-2147483648 : Int) ≤ -2147483648) b15.1) (Int.le_trans b15.2 (by decide : (2147483647 : Int) ≤ 2147483647)) ?_
  refine jx_nadd (pc_q := 72) rfl rfl ?_
  refine jx_hp (pc_q := 75) (st_q := [.long (i64 (3)), .long (i64 ((mo2_9 + r8)))]) rfl rfl rfl rfl rfl rfl ?_
  refine jx_nadd (pc_q := 76) rfl rfl ?_
  refine jx_st (pc_q := 79) (as := [.long (i64 (((mo2_9 + r8) + 3)))]) (st := []) rfl rfl ⟨rfl, Nat.le_of_ble_eq_true rfl⟩ rfl rfl rfl (c_capped (dd := d) (hd := by omega) (v := ((mo2_9 + r8) + 3))   (h_v := ⟨(by omega), (by omega)⟩)  (p_0 := by omega)) (fun o V_q hq => ?_)
  obtain ⟨r46, rfl, rfl, b47, q48⟩ := hq
  refine .inr ⟨_, rfl, ?_⟩
  rcases q48 with ⟨a49, a50⟩ | ⟨a51, a52⟩
  · have _q : True := trivial
    refine jx_rt (v := some (.int (i32 (r46)))) rfl rfl rfl rfl rfl rfl ?_
    exact ⟨_, _, _, mo, (lv2_10 - 1), mo2_9, r8, rfl, rfl, hW44, hF45, hO41, hN42, by omega, rfl, rfl, (q40), (congrFun ((congrFun eA37 27).trans (uA_ne (by decide))) _).trans (q31), by omega, by omega, by omega, by omega, by omega, by omega, (lB_mk (show A37 26 (n).toNat = mo2_9 from (q40)) (show A37 27 (n).toNat = r8 from (congrFun ((congrFun eA37 27).trans (uA_ne (by decide))) _).trans (q31)) sf43 (by omega) (by omega)), by first | exact Or.inl (by omega) | exact Or.inr ((by omega))⟩
  · have _q : True := trivial
    refine jx_rt (v := some (.int (i32 (r46)))) rfl rfl rfl rfl rfl rfl ?_
    exact ⟨_, _, _, mo, (lv2_10 - 1), mo2_9, r8, rfl, rfl, hW44, hF45, hO41, hN42, by omega, rfl, rfl, (q40), (congrFun ((congrFun eA37 27).trans (uA_ne (by decide))) _).trans (q31), by omega, by omega, by omega, by omega, by omega, by omega, (lB_mk (show A37 26 (n).toNat = mo2_9 from (q40)) (show A37 27 (n).toNat = r8 from (congrFun ((congrFun eA37 27).trans (uA_ne (by decide))) _).trans (q31)) sf43 (by omega) (by omega)), by first | exact Or.inl (by omega) | exact Or.inr ((by omega))⟩
set_option maxRecDepth 20000 in
set_option maxHeartbeats 4000000 in
theorem c_measureAlt_at_34 {X : jX} {k : Nat} (hM : MM X k) {d : Nat} {Vs : Nat → Prop} {sb pb : Int} {c0 c1 : jC} {G : Nat → Int} {A : Nat → Nat → Int} {T : jH} {n fr : Int} {hi s0 s1 : Int} {mo lv gb : Int} (hd : 2 * k + 31 ≤ d + 1) (hW : Wk G A) (e_mo : G 59 = mo) (e_lv : G 60 = lv) (e_gb : A 18 (n).toNat = gb) (h_n : (-2147483648 : Int) ≤ n ∧ n ≤ 2147483647) (h_fr : (-2147483648 : Int) ≤ fr ∧ fr ≤ 2147483647) (p_0 : 0 ≤ n) (p_1 : n < hi) (p_2 : hi ≤ 6999) (p_3 : 0 ≤ s0) (p_4 : s0 ≤ s1) (p_5 : s1 ≤ sb) (p_6 : sb ≤ 202) (p_7 : 0 ≤ lv) (p_8 : lv + (k : Int) ≤ 60) (p_9 : mo ≤ 1000000) (p_10 : PS A (pb)) (p_11 : 1 ≤ fr) (p_12 : fr ≤ 70 + 64 * s0 + 20 * n) (p_13 : fr ≤ mo) (p_14 : 1 ≤ gb) (p_15 : gb ≤ 8) (p_16 : (∃ l, CH A (A 21 (n).toNat) l ∧ wCs (wG A Vs sb (wP A sb pb k Vs)) l (n + 1) (hi) (s0) (s1))) (p_17 : pb ≤ 24) : ∀ (m : Nat) (L : jL) (Gx : Nat → Int) (Ax : Nat → Nat → Int) (free deep c mo1 w1 gm gt : Int), (hi - gm).toNat = m → jGet L 0 = some (.ref 66) → jGet L 1 = some (.int (i32 (n))) → jGet L 2 = some (.int (i32 (fr))) → jGet L 3 = some (.int (i32 free)) → jGet L 4 = some (.int (i32 deep)) → jGet L 5 = some (.int (i32 c)) → Wk Gx Ax → Fr [59, 60] [9, 10, 25, 26, 27] G A Gx Ax → Fo [25, 26, 27] (n) (hi) A Ax → Fo [9, 10] (s0) (s1) A Ax → Gx 59 = mo1 → Ax 25 (n).toNat = w1 → Gx 60 = lv → ((-2147483648 : Int) ≤ free ∧ free ≤ 2147483647) → ((-2147483648 : Int) ≤ deep ∧ deep ≤ 2147483647) → ((-2147483648 : Int) ≤ c ∧ c ≤ 2147483647) → (free = fr + 2 * gb) → (w1 = fr) → (mo ≤ mo1) → (mo1 ≤ 1000000) → (free ≤ mo1) → (0 ≤ deep) → (deep ≤ 1000000) → (n + 1 ≤ gm) → (gm ≤ hi) → (s0 ≤ gt) → (gt ≤ s1) → (LG A Ax sb pb k (Vs) (n) (c) (n + 1) (hi) (s0) (s1) (free) (lv) (mo1) (deep) (gm) (gt)) → wj X d jm321 (34, L, [], rV c0 c1 Gx Ax T) (fun o V_q => ∃ (G_q : Nat → Int) (A_q : Nat → Nat → Int) (r : Int) (mo2 : Int) (lv2 : Int), V_q = rV c0 c1 G_q A_q T ∧ o = .inl (some (.int (i32 r))) ∧ Wk G_q A_q ∧ Fr [59, 60] [9, 10, 25, 26, 27] G A G_q A_q ∧ Fo [25, 26, 27] (n) (hi) A A_q ∧ Fo [9, 10] (s0) (s1) A A_q ∧ ((-2147483648 : Int) ≤ r ∧ r ≤ 2147483647) ∧ G_q 59 = mo2 ∧ G_q 60 = lv2 ∧ (mo ≤ mo2) ∧ (mo2 ≤ 1000000) ∧ (lv2 = lv) ∧ (0 ≤ r) ∧ (r ≤ 1000000) ∧ (lG2 A_q (lP A_q k) (n) (fr) (lv) (mo2) (r)) ∧ True) := by
  have hF0 : Fr [59, 60] [9, 10, 25, 26, 27] G A G A := Fr_rf
  have hO0 : Fo [25, 26, 27] (n) (hi) A A := Fo_rf
  have hN0 : Fo [9, 10] (s0) (s1) A A := Fo_rf
  have b_mo : (-2147483648 : Int) ≤ mo ∧ mo ≤ 2147483647 := e_mo ▸ hW.1 59
  have b_lv : (-2147483648 : Int) ≤ lv ∧ lv ≤ 2147483647 := e_lv ▸ hW.1 60
  have b_gb : (-2147483648 : Int) ≤ gb ∧ gb ≤ 2147483647 := e_gb ▸ hW.2 18 _
  intro m
  induction m using Nat.strongRecOn with
  | ind m ih34 =>
    intro L Gx Ax free deep c mo1 w1 gm gt hm gL_0 gL_1 gL_2 gL_3 gL_4 gL_5 hWx hFx hOx hNx ex_mo1 ex_w1 fx_60 rx_free rx_deep rx_c iv_0 iv_1 iv_2 iv_3 iv_4 iv_5 iv_6 iv_7 iv_8 iv_9 iv_10 iv_11
    have b_mo1 : (-2147483648 : Int) ≤ mo1 ∧ mo1 ≤ 2147483647 := ex_mo1 ▸ hWx.1 59
    refine jx_ld (pc_q := 36) (l_q := L) (st_q := [.int (i32 (c))]) rfl (jl_iload gL_5) ?_
    refine jx_if_le (pc_q := 39) (tg := 116) rfl rfl rfl (Int.le_trans (by decide : (-2147483648 : Int) ≤ -2147483648) rx_c.1) (Int.le_trans rx_c.2 (by decide : (2147483647 : Int) ≤ 2147483647)) (fun h1 => ?_) (fun h1 => ?_)
    · have _q := h1
      refine jx_ld (pc_q := 118) (l_q := L) (st_q := [.int (i32 (deep))]) rfl (jl_iload gL_4) ?_
      refine jx_rt (v := some (.int (i32 (deep)))) rfl rfl rfl rfl rfl rfl ?_
      exact ⟨_, _, _, mo1, lv, rfl, rfl, hWx, hFx, hOx, hNx, by omega, (ex_mo1), (fx_60), by omega, by omega, by omega, by omega, by omega, (lG2_mk ((show Ax 25 (n).toNat = w1 from (ex_w1)).trans (by omega)) (show Ax 18 (n).toNat = gb from (congrFun (hFx.2 18 rfl) _).trans (e_gb)) (by omega) (by omega) (LG_end hFx (by decide) iv_11 (by omega))), trivial⟩
    · have _q := h1
      obtain ⟨l1, m1, t1, x, hm1, hm2, ht1, ht2, ht3, hcm, hx1, hx2, hwP, hgA, hN1, hwC, hnx⟩ := LG_hd iv_11 (by omega); have sgF0 : Fr [59, 60] [9, 10, 25, 26, 27] Gx Ax Gx Ax := Fr_rf; have sgO0 : Fo [25, 26, 27] (c) (m1) Ax Ax := Fo_rf; have sgN0 : Fo [9, 10] (gt) (t1) Ax Ax := Fo_rf
      rcases hgA with ⟨k1, a, k2, k3, k4, k5⟩ | ⟨k1, k2⟩ | ⟨a, b, k1, k2, k3, k4, k5, k6⟩
      · have _q : True := trivial
        refine jx_ld (pc_q := 40) (l_q := L) (st_q := [.ref 66]) rfl (jl_aloadn gL_0) ?_
        refine jr_get (pc_q := 43) (i := 34) (v := .ref 84) rfl rfl (by decide) rfl rfl ?_
        refine jx_ld (pc_q := 45) (l_q := L) (st_q := [.int (i32 (c)), .ref 84]) rfl (jl_iload gL_5) ?_
        have b2 : (-2147483648 : Int) ≤ A 17 (c).toNat ∧ A 17 (c).toNat ≤ 2147483647 := hW.2 17 _
        refine jr_ldv (pc_q := 46) (i := 17) (m := 7000) (z := c) (y := A 17 (c).toNat) rfl (by decide) rfl (by decide) (by omega) (by omega) rfl (show Ax 17 (c).toNat = A 17 (c).toNat from (congrFun (hFx.2 17 rfl) _)) ?_
        refine jx_if_le (pc_q := 49) (tg := 61) rfl rfl rfl (Int.le_trans (by decide : (-2147483648 : Int) ≤ -2147483648) b2.1) (Int.le_trans b2.2 (by decide : (2147483647 : Int) ≤ 2147483647)) (fun h3 => ?_) (fun h3 => ?_)
        · have _q := h3
          refine jx_ld (pc_q := 62) (l_q := L) (st_q := [.ref 66]) rfl (jl_aloadn gL_0) ?_
          refine jx_ld (pc_q := 63) (l_q := L) (st_q := [.ref 66, .ref 66]) rfl (jl_aloadn gL_0) ?_
          refine jr_get (pc_q := 66) (i := 35) (v := .ref 85) rfl rfl (by decide) rfl rfl ?_
          refine jx_ld (pc_q := 68) (l_q := L) (st_q := [.int (i32 (c)), .ref 85, .ref 66]) rfl (jl_iload gL_5) ?_
          have b4 : (-2147483648 : Int) ≤ A 18 (c).toNat ∧ A 18 (c).toNat ≤ 2147483647 := hW.2 18 _
          refine jr_ldv (pc_q := 69) (i := 18) (m := 7000) (z := c) (y := A 18 (c).toNat) rfl (by decide) rfl (by decide) (by omega) (by omega) rfl (show Ax 18 (c).toNat = A 18 (c).toNat from (congrFun (hFx.2 18 rfl) _)) ?_
          refine jx_ld (pc_q := 70) (l_q := L) (st_q := [.int (i32 (free)), .int (i32 (A 18 (c).toNat)), .ref 66]) rfl (jl_iloadn gL_3) ?_
          refine jx_vr (pc_q := 73) (as := [.int (i32 (A 18 (c).toNat)), .int (i32 (free))]) (st := []) rfl rfl rfl rfl ⟨rfl, rfl, Nat.le_of_ble_eq_true rfl⟩ rfl rfl (c_measureReference (dd := d) (hd := by omega) (hW := hWx) (x := A 18 (c).toNat) (free := free) (lo := c + 1) (hi := a) (mo := mo1) (e_mo := show Gx 59 = mo1 from (ex_mo1))  (h_x := ⟨(Int.le_trans (by decide : (-2147483648 : Int) ≤ -2147483648) b4.1), (Int.le_trans b4.2 (by decide : (2147483647 : Int) ≤ 2147483647))⟩) (h_free := ⟨(Int.le_trans (by decide : (-2147483648 : Int) ≤ -2147483648) rx_free.1), (Int.le_trans rx_free.2 (by decide : (2147483647 : Int) ≤ 2147483647))⟩)  (p_0 := by omega) (p_1 := by omega) (p_2 := by omega) (p_3 := by omega) (p_4 := by omega) (p_5 := (wR_mono (by omega) (by omega) (by omega) (wR_fr hFx (by decide) (by decide) (by omega) k4)))) (fun o V_q hq => ?_)
          obtain ⟨G5, A6, mo2_7, rfl, rfl, hW8, hF9, hQ10, e11, p12, p13, p14, -⟩ := hq
          have hF16 := Fr_tr hFx hF9 (Fr_sub (by decide)) (Fr_sub (by decide))
          have hO17 := Fo_tr hOx hQ10 (by omega) (by omega)
          have hN18 := Fo_f hNx hF9 (by decide)
          have sgO19 := Fo_tr sgO0 hQ10 (by omega) (by omega)
          have sgN20 := Fo_f sgN0 hF9 (by decide)
          have sgF21 := Fr_tr sgF0 hF9 (Fr_sub (by decide)) (Fr_sub (by decide))
          have k22 : A6 25 (n).toNat = w1 := (hQ10 25 _ rfl (by omega)).trans (show Ax 25 (n).toNat = w1 from (ex_w1))
          have bmo2_7 : (-2147483648 : Int) ≤ mo2_7 ∧ mo2_7 ≤ 2147483647 := e11 ▸ hW8.1 59
          refine .inl ⟨rfl, ?_⟩
          refine jx_ld (pc_q := 74) (l_q := L) (st_q := [.ref 66]) rfl (jl_aloadn gL_0) ?_
          refine jx_ld (pc_q := 75) (l_q := L) (st_q := [.ref 66, .ref 66]) rfl (jl_aloadn gL_0) ?_
          refine jr_get (pc_q := 78) (i := 36) (v := .ref 86) rfl rfl (by decide) rfl rfl ?_
          refine jx_ld (pc_q := 80) (l_q := L) (st_q := [.int (i32 (c)), .ref 86, .ref 66]) rfl (jl_iload gL_5) ?_
          have b23 : (-2147483648 : Int) ≤ A 19 (c).toNat ∧ A 19 (c).toNat ≤ 2147483647 := hW.2 19 _
          refine jr_ldv (pc_q := 81) (i := 19) (m := 7000) (z := c) (y := A 19 (c).toNat) rfl (by decide) rfl (by decide) (by omega) (by omega) rfl (show A6 19 (c).toNat = A 19 (c).toNat from (congrFun ((hF9.2 19 rfl).trans (hFx.2 19 rfl)) _)) ?_
          refine jx_ld (pc_q := 82) (l_q := L) (st_q := [.int (i32 (free)), .int (i32 (A 19 (c).toNat)), .ref 66]) rfl (jl_iloadn gL_3) ?_
          refine jx_vr (pc_q := 85) (as := [.int (i32 (A 19 (c).toNat)), .int (i32 (free))]) (st := []) rfl rfl rfl rfl ⟨rfl, rfl, Nat.le_of_ble_eq_true rfl⟩ rfl rfl (c_measureReference (dd := d) (hd := by omega) (hW := hW8) (x := A 19 (c).toNat) (free := free) (lo := a) (hi := x) (mo := mo2_7) (e_mo := show G5 59 = mo2_7 from (e11))  (h_x := ⟨(Int.le_trans (by decide : (-2147483648 : Int) ≤ -2147483648) b23.1), (Int.le_trans b23.2 (by decide : (2147483647 : Int) ≤ 2147483647))⟩) (h_free := ⟨(Int.le_trans (by decide : (-2147483648 : Int) ≤ -2147483648) rx_free.1), (Int.le_trans rx_free.2 (by decide : (2147483647 : Int) ≤ 2147483647))⟩)  (p_0 := by omega) (p_1 := by omega) (p_2 := by omega) (p_3 := by omega) (p_4 := by omega) (p_5 := (wR_mono (by omega) (by omega) (by omega) (wR_fr hF16 (by decide) (by decide) (by omega) k5)))) (fun o V_q hq => ?_)
          obtain ⟨G24, A25, mo2_26, rfl, rfl, hW27, hF28, hQ29, e30, p31, p32, p33, -⟩ := hq
          have hF35 := Fr_tr hF16 hF28 (Fr_sub (by decide)) (Fr_sub (by decide))
          have hO36 := Fo_tr hO17 hQ29 (by omega) (by omega)
          have hN37 := Fo_f hN18 hF28 (by decide)
          have sgO38 := Fo_tr sgO19 hQ29 (by omega) (by omega)
          have sgN39 := Fo_f sgN20 hF28 (by decide)
          have sgF40 := Fr_tr sgF21 hF28 (Fr_sub (by decide)) (Fr_sub (by decide))
          have k41 : A25 25 (n).toNat = w1 := (hQ29 25 _ rfl (by omega)).trans (show A6 25 (n).toNat = w1 from (k22))
          have sf42 : lR A25 (A 18 (c).toNat) (free) (mo2_7) := lR_mv (by omega) (Ag_fr hF28 (by decide)) (fun j h1 h2 => hQ29 25 j rfl (by omega)) (wR_fr hF16 (by decide) (by decide) (by omega) k4) p14
          have bmo2_26 : (-2147483648 : Int) ≤ mo2_26 ∧ mo2_26 ≤ 2147483647 := e30 ▸ hW27.1 59
          refine .inl ⟨rfl, ?_⟩
          refine jx_ld (pc_q := 87) (l_q := L) (st_q := [.int (i32 (deep))]) rfl (jl_iload gL_4) ?_
          refine jx_ld (pc_q := 88) (l_q := L) (st_q := [.ref 66, .int (i32 (deep))]) rfl (jl_aloadn gL_0) ?_
          refine jx_ld (pc_q := 89) (l_q := L) (st_q := [.ref 66, .ref 66, .int (i32 (deep))]) rfl (jl_aloadn gL_0) ?_
          refine jr_get (pc_q := 92) (i := 38) (v := .ref 88) rfl rfl (by decide) rfl rfl ?_
          refine jx_ld (pc_q := 94) (l_q := L) (st_q := [.int (i32 (c)), .ref 88, .ref 66, .int (i32 (deep))]) rfl (jl_iload gL_5) ?_
          have b43 : (-2147483648 : Int) ≤ A 21 (c).toNat ∧ A 21 (c).toNat ≤ 2147483647 := hW.2 21 _
          refine jr_ldv (pc_q := 95) (i := 21) (m := 7000) (z := c) (y := A 21 (c).toNat) rfl (by decide) rfl (by decide) (by omega) (by omega) rfl (show A25 21 (c).toNat = A 21 (c).toNat from (congrFun ((hF28.2 21 rfl).trans ((hF9.2 21 rfl).trans (hFx.2 21 rfl))) _)) ?_
          refine jx_ld (pc_q := 96) (l_q := L) (st_q := [.int (i32 (free)), .int (i32 (A 21 (c).toNat)), .ref 66, .int (i32 (deep))]) rfl (jl_iloadn gL_3) ?_
          refine jx_vr (pc_q := 99) (as := [.int (i32 (A 21 (c).toNat)), .int (i32 (free))]) (st := [.int (i32 (deep))]) rfl rfl rfl rfl ⟨rfl, rfl, Nat.le_of_ble_eq_true rfl⟩ rfl rfl (hM (dd := d) (hd := by omega) (hW := hW27) (n := A 21 (c).toNat) (fr := free) (lo := x) (hi := m1) (s0 := gt) (s1 := t1) (mo := mo2_26) (e_mo := show G24 59 = mo2_26 from (e30)) (lv := lv) (e_lv := show G24 60 = lv from ((hF28.1 60 rfl).trans ((hF9.1 60 rfl).trans (fx_60))))  (h_n := ⟨(Int.le_trans (by decide : (-2147483648 : Int) ≤ -2147483648) b43.1), (Int.le_trans b43.2 (by decide : (2147483647 : Int) ≤ 2147483647))⟩) (h_fr := ⟨(Int.le_trans (by decide : (-2147483648 : Int) ≤ -2147483648) rx_free.1), (Int.le_trans rx_free.2 (by decide : (2147483647 : Int) ≤ 2147483647))⟩)  (p_0 := by omega) (p_1 := by omega) (p_2 := by omega) (p_3 := by omega) (p_4 := by omega) (p_5 := by omega) (p_6 := by omega) (p_7 := by omega) (p_8 := (PS_fr hF35 (by decide) p_10)) (p_9 := by omega) (p_10 := by omega) (p_11 := by omega) (p_12 := (wP_fr hF35 (by decide) (by omega) (by omega) hwP)) (p_13 := by omega)) (fun o V_q hq => ?_)
          obtain ⟨G44, A45, r46, mo2_47, lv2_48, rfl, rfl, hW49, hF50, hQ51, hQ52, b53, e54, e55, p56, p57, p58, p59, p60, p61, -⟩ := hq
          have hF63 := Fr_tr hF35 hF50 (Fr_sub (by decide)) (Fr_sub (by decide))
          have hO64 := Fo_tr hO36 hQ51 (by omega) (by omega)
          have hN65 := Fo_tr hN37 hQ52 (by omega) (by omega)
          have sgO66 := Fo_tr sgO38 hQ51 (by omega) (by omega)
          have sgN67 := Fo_tr sgN39 hQ52 (by omega) (by omega)
          have sgF68 := Fr_tr sgF40 hF50 (Fr_sub (by decide)) (Fr_sub (by decide))
          have k69 : A45 25 (n).toNat = w1 := (hQ51 25 _ rfl (by omega)).trans (show A25 25 (n).toNat = w1 from (k41))
          have sf70 : lR A45 (A 18 (c).toNat) (free) (mo2_7) := lR_mv (by omega) (Ag_fr hF50 (by decide)) (fun j h1 h2 => hQ51 25 j rfl (by omega)) (wR_fr hF35 (by decide) (by decide) (by omega) k4) sf42
          have sf71 : lR A45 (A 19 (c).toNat) (free) (mo2_26) := lR_mv (by omega) (Ag_fr hF50 (by decide)) (fun j h1 h2 => hQ51 25 j rfl (by omega)) (wR_fr hF35 (by decide) (by decide) (by omega) k5) p33
          have bmo2_47 : (-2147483648 : Int) ≤ mo2_47 ∧ mo2_47 ≤ 2147483647 := e54 ▸ hW49.1 59
          have blv2_48 : (-2147483648 : Int) ≤ lv2_48 ∧ lv2_48 ≤ 2147483647 := e55 ▸ hW49.1 60
          refine .inr ⟨_, rfl, ?_⟩
          refine jx_st (pc_q := 102) (as := [.int (i32 (deep)), .int (i32 (r46))]) (st := []) rfl rfl ⟨rfl, Nat.le_of_ble_eq_true rfl⟩ rfl rfl rfl (c_max (dd := d) (hd := by omega) (a := deep) (b := r46)   (h_a := ⟨(Int.le_trans (by decide : (-2147483648 : Int) ≤ -2147483648) rx_deep.1), (Int.le_trans rx_deep.2 (by decide : (2147483647 : Int) ≤ 2147483647))⟩) (h_b := ⟨(Int.le_trans (by decide : (-2147483648 : Int) ≤ -2147483648) b53.1), (Int.le_trans b53.2 (by decide : (2147483647 : Int) ≤ 2147483647))⟩)  ) (fun o V_q hq => ?_)
          obtain ⟨r72, rfl, rfl, b73, q74⟩ := hq
          refine .inr ⟨_, rfl, ?_⟩
          rcases q74 with ⟨a75, a76⟩ | ⟨a77, a78⟩
          · have _q : True := trivial
            refine jx_ld (pc_q := 104) (l_q := jSto1 L 4 (.int (i32 (r72)))) (st_q := []) rfl rfl ?_
            obtain ⟨L79, eL79⟩ : ∃ q, q = jSto1 L 4 (.int (i32 (r72))) := ⟨_, rfl⟩
            rw [← eL79]
            have gL79_0 : jGet L79 0 = some (.ref 66) := eL79 ▸ jg_ne (by decide) gL_0 rfl
            have gL79_1 : jGet L79 1 = some (.int (i32 (n))) := eL79 ▸ jg_ne (by decide) gL_1 rfl
            have gL79_2 : jGet L79 2 = some (.int (i32 (fr))) := eL79 ▸ jg_ne (by decide) gL_2 rfl
            have gL79_3 : jGet L79 3 = some (.int (i32 (free))) := eL79 ▸ jg_ne (by decide) gL_3 rfl
            have gL79_5 : jGet L79 5 = some (.int (i32 (c))) := eL79 ▸ jg_ne (by decide) gL_5 rfl
            have gL79_4 : jGet L79 4 = some (.int (i32 (r72))) := eL79 ▸ jg_eq
            refine jx_ld (pc_q := 105) (l_q := L79) (st_q := [.ref 66]) rfl (jl_aloadn gL79_0) ?_
            refine jr_get (pc_q := 108) (i := 39) (v := .ref 89) rfl rfl (by decide) rfl rfl ?_
            refine jx_ld (pc_q := 110) (l_q := L79) (st_q := [.int (i32 (c)), .ref 89]) rfl (jl_iload gL79_5) ?_
            have b80 : (-2147483648 : Int) ≤ A 22 (c).toNat ∧ A 22 (c).toNat ≤ 2147483647 := hW.2 22 _
            refine jr_ldv (pc_q := 111) (i := 22) (m := 7000) (z := c) (y := A 22 (c).toNat) rfl (by decide) rfl (by decide) (by omega) (by omega) rfl (show A45 22 (c).toNat = A 22 (c).toNat from (congrFun ((hF50.2 22 rfl).trans ((hF28.2 22 rfl).trans ((hF9.2 22 rfl).trans (hFx.2 22 rfl)))) _)) ?_
            refine jx_ld (pc_q := 113) (l_q := jSto1 L79 5 (.int (i32 (A 22 (c).toNat)))) (st_q := []) rfl rfl ?_
            obtain ⟨L81, eL81⟩ : ∃ q, q = jSto1 L79 5 (.int (i32 (A 22 (c).toNat))) := ⟨_, rfl⟩
            rw [← eL81]
            have gL81_0 : jGet L81 0 = some (.ref 66) := eL81 ▸ jg_ne (by decide) gL79_0 rfl
            have gL81_1 : jGet L81 1 = some (.int (i32 (n))) := eL81 ▸ jg_ne (by decide) gL79_1 rfl
            have gL81_2 : jGet L81 2 = some (.int (i32 (fr))) := eL81 ▸ jg_ne (by decide) gL79_2 rfl
            have gL81_3 : jGet L81 3 = some (.int (i32 (free))) := eL81 ▸ jg_ne (by decide) gL79_3 rfl
            have gL81_4 : jGet L81 4 = some (.int (i32 (r72))) := eL81 ▸ jg_ne (by decide) gL79_4 rfl
            have gL81_5 : jGet L81 5 = some (.int (i32 (A 22 (c).toNat))) := eL81 ▸ jg_eq
            refine jx_go (tg := 34) rfl rfl ?_
            exact ih34 _ (by omega) L81 G44 A45 (free) (r72) (A 22 (c).toNat) (mo2_47) (w1) (m1) (t1) rfl gL81_0 gL81_1 gL81_2 gL81_3 gL81_4 gL81_5 hW49 hF63 hO64 hN65 ((e54)) ((k69)) (Eq.trans (show G44 60 = lv2_48 from (e55)) (by omega)) (by omega) (by omega) (by omega) (by omega) (by omega) (by omega) (by omega) (by omega) (by omega) (by omega) (by omega) (by omega) (by omega) (by omega) ((hnx _ _ _ (LG_nx hFx (by decide) sgF68 (by decide) (hcm ▸ sgO66) sgN67 (by omega) (by omega) hwC hN1 (fun q0 => absurd q0 (by omega)) (lR_sz (by omega) sf70) (lR_sz (by omega) sf71) p61 (by omega) (by omega) (by omega))))
          · have _q : True := trivial
            refine jx_ld (pc_q := 104) (l_q := jSto1 L 4 (.int (i32 (r72)))) (st_q := []) rfl rfl ?_
            obtain ⟨L82, eL82⟩ : ∃ q, q = jSto1 L 4 (.int (i32 (r72))) := ⟨_, rfl⟩
            rw [← eL82]
            have gL82_0 : jGet L82 0 = some (.ref 66) := eL82 ▸ jg_ne (by decide) gL_0 rfl
            have gL82_1 : jGet L82 1 = some (.int (i32 (n))) := eL82 ▸ jg_ne (by decide) gL_1 rfl
            have gL82_2 : jGet L82 2 = some (.int (i32 (fr))) := eL82 ▸ jg_ne (by decide) gL_2 rfl
            have gL82_3 : jGet L82 3 = some (.int (i32 (free))) := eL82 ▸ jg_ne (by decide) gL_3 rfl
            have gL82_5 : jGet L82 5 = some (.int (i32 (c))) := eL82 ▸ jg_ne (by decide) gL_5 rfl
            have gL82_4 : jGet L82 4 = some (.int (i32 (r72))) := eL82 ▸ jg_eq
            refine jx_ld (pc_q := 105) (l_q := L82) (st_q := [.ref 66]) rfl (jl_aloadn gL82_0) ?_
            refine jr_get (pc_q := 108) (i := 39) (v := .ref 89) rfl rfl (by decide) rfl rfl ?_
            refine jx_ld (pc_q := 110) (l_q := L82) (st_q := [.int (i32 (c)), .ref 89]) rfl (jl_iload gL82_5) ?_
            have b83 : (-2147483648 : Int) ≤ A 22 (c).toNat ∧ A 22 (c).toNat ≤ 2147483647 := hW.2 22 _
            refine jr_ldv (pc_q := 111) (i := 22) (m := 7000) (z := c) (y := A 22 (c).toNat) rfl (by decide) rfl (by decide) (by omega) (by omega) rfl (show A45 22 (c).toNat = A 22 (c).toNat from (congrFun ((hF50.2 22 rfl).trans ((hF28.2 22 rfl).trans ((hF9.2 22 rfl).trans (hFx.2 22 rfl)))) _)) ?_
            refine jx_ld (pc_q := 113) (l_q := jSto1 L82 5 (.int (i32 (A 22 (c).toNat)))) (st_q := []) rfl rfl ?_
            obtain ⟨L84, eL84⟩ : ∃ q, q = jSto1 L82 5 (.int (i32 (A 22 (c).toNat))) := ⟨_, rfl⟩
            rw [← eL84]
            have gL84_0 : jGet L84 0 = some (.ref 66) := eL84 ▸ jg_ne (by decide) gL82_0 rfl
            have gL84_1 : jGet L84 1 = some (.int (i32 (n))) := eL84 ▸ jg_ne (by decide) gL82_1 rfl
            have gL84_2 : jGet L84 2 = some (.int (i32 (fr))) := eL84 ▸ jg_ne (by decide) gL82_2 rfl
            have gL84_3 : jGet L84 3 = some (.int (i32 (free))) := eL84 ▸ jg_ne (by decide) gL82_3 rfl
            have gL84_4 : jGet L84 4 = some (.int (i32 (r72))) := eL84 ▸ jg_ne (by decide) gL82_4 rfl
            have gL84_5 : jGet L84 5 = some (.int (i32 (A 22 (c).toNat))) := eL84 ▸ jg_eq
            refine jx_go (tg := 34) rfl rfl ?_
            exact ih34 _ (by omega) L84 G44 A45 (free) (r72) (A 22 (c).toNat) (mo2_47) (w1) (m1) (t1) rfl gL84_0 gL84_1 gL84_2 gL84_3 gL84_4 gL84_5 hW49 hF63 hO64 hN65 ((e54)) ((k69)) (Eq.trans (show G44 60 = lv2_48 from (e55)) (by omega)) (by omega) (by omega) (by omega) (by omega) (by omega) (by omega) (by omega) (by omega) (by omega) (by omega) (by omega) (by omega) (by omega) (by omega) ((hnx _ _ _ (LG_nx hFx (by decide) sgF68 (by decide) (hcm ▸ sgO66) sgN67 (by omega) (by omega) hwC hN1 (fun q0 => absurd q0 (by omega)) (lR_sz (by omega) sf70) (lR_sz (by omega) sf71) p61 (by omega) (by omega) (by omega))))
        · have _q := h3
          exfalso
          omega
      · have _q : True := trivial
        have hk17 := wE_in k2
        refine jx_ld (pc_q := 40) (l_q := L) (st_q := [.ref 66]) rfl (jl_aloadn gL_0) ?_
        refine jr_get (pc_q := 43) (i := 34) (v := .ref 84) rfl rfl (by decide) rfl rfl ?_
        refine jx_ld (pc_q := 45) (l_q := L) (st_q := [.int (i32 (c)), .ref 84]) rfl (jl_iload gL_5) ?_
        have b85 : (-2147483648 : Int) ≤ A 17 (c).toNat ∧ A 17 (c).toNat ≤ 2147483647 := hW.2 17 _
        refine jr_ldv (pc_q := 46) (i := 17) (m := 7000) (z := c) (y := A 17 (c).toNat) rfl (by decide) rfl (by decide) (by omega) (by omega) rfl (show Ax 17 (c).toNat = A 17 (c).toNat from (congrFun (hFx.2 17 rfl) _)) ?_
        refine jx_if_le (pc_q := 49) (tg := 61) rfl rfl rfl (Int.le_trans (by decide : (-2147483648 : Int) ≤ -2147483648) b85.1) (Int.le_trans b85.2 (by decide : (2147483647 : Int) ≤ 2147483647)) (fun h86 => ?_) (fun h86 => ?_)
        · have _q := h86
          exfalso
          omega
        · have _q := h86
          refine jx_ld (pc_q := 50) (l_q := L) (st_q := [.ref 66]) rfl (jl_aloadn gL_0) ?_
          refine jx_ld (pc_q := 51) (l_q := L) (st_q := [.ref 66, .ref 66]) rfl (jl_aloadn gL_0) ?_
          refine jr_get (pc_q := 54) (i := 34) (v := .ref 84) rfl rfl (by decide) rfl rfl ?_
          refine jx_ld (pc_q := 56) (l_q := L) (st_q := [.int (i32 (c)), .ref 84, .ref 66]) rfl (jl_iload gL_5) ?_
          refine jr_ldv (pc_q := 57) (i := 17) (m := 7000) (z := c) (y := A 17 (c).toNat) rfl (by decide) rfl (by decide) (by omega) (by omega) rfl (show Ax 17 (c).toNat = A 17 (c).toNat from (congrFun (hFx.2 17 rfl) _)) ?_
          refine jx_ld (pc_q := 58) (l_q := L) (st_q := [.int (i32 (free)), .int (i32 (A 17 (c).toNat)), .ref 66]) rfl (jl_iloadn gL_3) ?_
          refine jx_vr (pc_q := 61) (as := [.int (i32 (A 17 (c).toNat)), .int (i32 (free))]) (st := []) rfl rfl rfl rfl ⟨rfl, rfl, Nat.le_of_ble_eq_true rfl⟩ rfl rfl (ME_all X 22 (dd := d) (hd := by omega) (hW := hWx) (e := A 17 (c).toNat) (free := free) (lo := c + 1) (hi := x) (mo := mo1) (e_mo := show Gx 59 = mo1 from (ex_mo1))  (h_e := ⟨(Int.le_trans (by decide : (-2147483648 : Int) ≤ -2147483648) b85.1), (Int.le_trans b85.2 (by decide : (2147483647 : Int) ≤ 2147483647))⟩) (h_free := ⟨(Int.le_trans (by decide : (-2147483648 : Int) ≤ -2147483648) rx_free.1), (Int.le_trans rx_free.2 (by decide : (2147483647 : Int) ≤ 2147483647))⟩)  (p_0 := by omega) (p_1 := by omega) (p_2 := by omega) (p_3 := by omega) (p_4 := by omega) (p_5 := (wE_mono (by omega) (by omega) (by omega) (wE_fr hFx (by decide) (by decide) (by omega) k2))) (p_6 := by omega)) (fun o V_q hq => ?_)
          obtain ⟨G87, A88, mo2_89, rfl, rfl, hW90, hF91, hQ92, e93, p94, p95, p96, -⟩ := hq
          have hF98 := Fr_tr hFx hF91 (Fr_sub (by decide)) (Fr_sub (by decide))
          have hO99 := Fo_tr hOx hQ92 (by omega) (by omega)
          have hN100 := Fo_f hNx hF91 (by decide)
          have sgO101 := Fo_tr sgO0 hQ92 (by omega) (by omega)
          have sgN102 := Fo_f sgN0 hF91 (by decide)
          have sgF103 := Fr_tr sgF0 hF91 (Fr_sub (by decide)) (Fr_sub (by decide))
          have k104 : A88 25 (n).toNat = w1 := (hQ92 25 _ rfl (by omega)).trans (show Ax 25 (n).toNat = w1 from (ex_w1))
          have bmo2_89 : (-2147483648 : Int) ≤ mo2_89 ∧ mo2_89 ≤ 2147483647 := e93 ▸ hW90.1 59
          refine .inl ⟨rfl, ?_⟩
          refine jx_ld (pc_q := 62) (l_q := L) (st_q := [.ref 66]) rfl (jl_aloadn gL_0) ?_
          refine jx_ld (pc_q := 63) (l_q := L) (st_q := [.ref 66, .ref 66]) rfl (jl_aloadn gL_0) ?_
          refine jr_get (pc_q := 66) (i := 35) (v := .ref 85) rfl rfl (by decide) rfl rfl ?_
          refine jx_ld (pc_q := 68) (l_q := L) (st_q := [.int (i32 (c)), .ref 85, .ref 66]) rfl (jl_iload gL_5) ?_
          have b105 : (-2147483648 : Int) ≤ A 18 (c).toNat ∧ A 18 (c).toNat ≤ 2147483647 := hW.2 18 _
          refine jr_ldv (pc_q := 69) (i := 18) (m := 7000) (z := c) (y := A 18 (c).toNat) rfl (by decide) rfl (by decide) (by omega) (by omega) rfl (show A88 18 (c).toNat = A 18 (c).toNat from (congrFun ((hF91.2 18 rfl).trans (hFx.2 18 rfl)) _)) ?_
          refine jx_ld (pc_q := 70) (l_q := L) (st_q := [.int (i32 (free)), .int (i32 (A 18 (c).toNat)), .ref 66]) rfl (jl_iloadn gL_3) ?_
          refine jx_vr (pc_q := 73) (as := [.int (i32 (A 18 (c).toNat)), .int (i32 (free))]) (st := []) rfl rfl rfl rfl ⟨rfl, rfl, Nat.le_of_ble_eq_true rfl⟩ rfl rfl (c_measureReference_0 (dd := d) (hd := by omega) (hW := hW90) (x := A 18 (c).toNat) (free := free)   (h_x := ⟨(Int.le_trans (by decide : (-2147483648 : Int) ≤ -2147483648) b105.1), (Int.le_trans b105.2 (by decide : (2147483647 : Int) ≤ 2147483647))⟩) (h_free := ⟨(Int.le_trans (by decide : (-2147483648 : Int) ≤ -2147483648) rx_free.1), (Int.le_trans rx_free.2 (by decide : (2147483647 : Int) ≤ 2147483647))⟩)  (p_0 := by omega)) (fun o V_q hq => ?_)
          obtain ⟨rfl, rfl, -⟩ := hq
          refine .inl ⟨rfl, ?_⟩
          refine jx_ld (pc_q := 74) (l_q := L) (st_q := [.ref 66]) rfl (jl_aloadn gL_0) ?_
          refine jx_ld (pc_q := 75) (l_q := L) (st_q := [.ref 66, .ref 66]) rfl (jl_aloadn gL_0) ?_
          refine jr_get (pc_q := 78) (i := 36) (v := .ref 86) rfl rfl (by decide) rfl rfl ?_
          refine jx_ld (pc_q := 80) (l_q := L) (st_q := [.int (i32 (c)), .ref 86, .ref 66]) rfl (jl_iload gL_5) ?_
          have b107 : (-2147483648 : Int) ≤ A 19 (c).toNat ∧ A 19 (c).toNat ≤ 2147483647 := hW.2 19 _
          refine jr_ldv (pc_q := 81) (i := 19) (m := 7000) (z := c) (y := A 19 (c).toNat) rfl (by decide) rfl (by decide) (by omega) (by omega) rfl (show A88 19 (c).toNat = A 19 (c).toNat from (congrFun ((hF91.2 19 rfl).trans (hFx.2 19 rfl)) _)) ?_
          refine jx_ld (pc_q := 82) (l_q := L) (st_q := [.int (i32 (free)), .int (i32 (A 19 (c).toNat)), .ref 66]) rfl (jl_iloadn gL_3) ?_
          refine jx_vr (pc_q := 85) (as := [.int (i32 (A 19 (c).toNat)), .int (i32 (free))]) (st := []) rfl rfl rfl rfl ⟨rfl, rfl, Nat.le_of_ble_eq_true rfl⟩ rfl rfl (c_measureReference_0 (dd := d) (hd := by omega) (hW := hW90) (x := A 19 (c).toNat) (free := free)   (h_x := ⟨(Int.le_trans (by decide : (-2147483648 : Int) ≤ -2147483648) b107.1), (Int.le_trans b107.2 (by decide : (2147483647 : Int) ≤ 2147483647))⟩) (h_free := ⟨(Int.le_trans (by decide : (-2147483648 : Int) ≤ -2147483648) rx_free.1), (Int.le_trans rx_free.2 (by decide : (2147483647 : Int) ≤ 2147483647))⟩)  (p_0 := by omega)) (fun o V_q hq => ?_)
          obtain ⟨rfl, rfl, -⟩ := hq
          refine .inl ⟨rfl, ?_⟩
          refine jx_ld (pc_q := 87) (l_q := L) (st_q := [.int (i32 (deep))]) rfl (jl_iload gL_4) ?_
          refine jx_ld (pc_q := 88) (l_q := L) (st_q := [.ref 66, .int (i32 (deep))]) rfl (jl_aloadn gL_0) ?_
          refine jx_ld (pc_q := 89) (l_q := L) (st_q := [.ref 66, .ref 66, .int (i32 (deep))]) rfl (jl_aloadn gL_0) ?_
          refine jr_get (pc_q := 92) (i := 38) (v := .ref 88) rfl rfl (by decide) rfl rfl ?_
          refine jx_ld (pc_q := 94) (l_q := L) (st_q := [.int (i32 (c)), .ref 88, .ref 66, .int (i32 (deep))]) rfl (jl_iload gL_5) ?_
          have b109 : (-2147483648 : Int) ≤ A 21 (c).toNat ∧ A 21 (c).toNat ≤ 2147483647 := hW.2 21 _
          refine jr_ldv (pc_q := 95) (i := 21) (m := 7000) (z := c) (y := A 21 (c).toNat) rfl (by decide) rfl (by decide) (by omega) (by omega) rfl (show A88 21 (c).toNat = A 21 (c).toNat from (congrFun ((hF91.2 21 rfl).trans (hFx.2 21 rfl)) _)) ?_
          refine jx_ld (pc_q := 96) (l_q := L) (st_q := [.int (i32 (free)), .int (i32 (A 21 (c).toNat)), .ref 66, .int (i32 (deep))]) rfl (jl_iloadn gL_3) ?_
          refine jx_vr (pc_q := 99) (as := [.int (i32 (A 21 (c).toNat)), .int (i32 (free))]) (st := [.int (i32 (deep))]) rfl rfl rfl rfl ⟨rfl, rfl, Nat.le_of_ble_eq_true rfl⟩ rfl rfl (hM (dd := d) (hd := by omega) (hW := hW90) (n := A 21 (c).toNat) (fr := free) (lo := x) (hi := m1) (s0 := gt) (s1 := t1) (mo := mo2_89) (e_mo := show G87 59 = mo2_89 from (e93)) (lv := lv) (e_lv := show G87 60 = lv from ((hF91.1 60 rfl).trans (fx_60)))  (h_n := ⟨(Int.le_trans (by decide : (-2147483648 : Int) ≤ -2147483648) b109.1), (Int.le_trans b109.2 (by decide : (2147483647 : Int) ≤ 2147483647))⟩) (h_fr := ⟨(Int.le_trans (by decide : (-2147483648 : Int) ≤ -2147483648) rx_free.1), (Int.le_trans rx_free.2 (by decide : (2147483647 : Int) ≤ 2147483647))⟩)  (p_0 := by omega) (p_1 := by omega) (p_2 := by omega) (p_3 := by omega) (p_4 := by omega) (p_5 := by omega) (p_6 := by omega) (p_7 := by omega) (p_8 := (PS_fr hF98 (by decide) p_10)) (p_9 := by omega) (p_10 := by omega) (p_11 := by omega) (p_12 := (wP_fr hF98 (by decide) (by omega) (by omega) hwP)) (p_13 := by omega)) (fun o V_q hq => ?_)
          obtain ⟨G110, A111, r112, mo2_113, lv2_114, rfl, rfl, hW115, hF116, hQ117, hQ118, b119, e120, e121, p122, p123, p124, p125, p126, p127, -⟩ := hq
          have hF129 := Fr_tr hF98 hF116 (Fr_sub (by decide)) (Fr_sub (by decide))
          have hO130 := Fo_tr hO99 hQ117 (by omega) (by omega)
          have hN131 := Fo_tr hN100 hQ118 (by omega) (by omega)
          have sgO132 := Fo_tr sgO101 hQ117 (by omega) (by omega)
          have sgN133 := Fo_tr sgN102 hQ118 (by omega) (by omega)
          have sgF134 := Fr_tr sgF103 hF116 (Fr_sub (by decide)) (Fr_sub (by decide))
          have k135 : A111 25 (n).toNat = w1 := (hQ117 25 _ rfl (by omega)).trans (show A88 25 (n).toNat = w1 from (k104))
          have sf136 : lE A111 (22) (A 17 (c).toNat) (free) (mo2_89) := lE_mv (by omega) (Ag_fr hF116 (by decide)) (fun j h1 h2 => hQ117 25 j rfl (by omega)) (wE_fr hF98 (by decide) (by decide) (by omega) k2) p96
          have bmo2_113 : (-2147483648 : Int) ≤ mo2_113 ∧ mo2_113 ≤ 2147483647 := e120 ▸ hW115.1 59
          have blv2_114 : (-2147483648 : Int) ≤ lv2_114 ∧ lv2_114 ≤ 2147483647 := e121 ▸ hW115.1 60
          refine .inr ⟨_, rfl, ?_⟩
          refine jx_st (pc_q := 102) (as := [.int (i32 (deep)), .int (i32 (r112))]) (st := []) rfl rfl ⟨rfl, Nat.le_of_ble_eq_true rfl⟩ rfl rfl rfl (c_max (dd := d) (hd := by omega) (a := deep) (b := r112)   (h_a := ⟨(Int.le_trans (by decide : (-2147483648 : Int) ≤ -2147483648) rx_deep.1), (Int.le_trans rx_deep.2 (by decide : (2147483647 : Int) ≤ 2147483647))⟩) (h_b := ⟨(Int.le_trans (by decide : (-2147483648 : Int) ≤ -2147483648) b119.1), (Int.le_trans b119.2 (by decide : (2147483647 : Int) ≤ 2147483647))⟩)  ) (fun o V_q hq => ?_)
          obtain ⟨r137, rfl, rfl, b138, q139⟩ := hq
          refine .inr ⟨_, rfl, ?_⟩
          rcases q139 with ⟨a140, a141⟩ | ⟨a142, a143⟩
          · have _q : True := trivial
            refine jx_ld (pc_q := 104) (l_q := jSto1 L 4 (.int (i32 (r137)))) (st_q := []) rfl rfl ?_
            obtain ⟨L144, eL144⟩ : ∃ q, q = jSto1 L 4 (.int (i32 (r137))) := ⟨_, rfl⟩
            rw [← eL144]
            have gL144_0 : jGet L144 0 = some (.ref 66) := eL144 ▸ jg_ne (by decide) gL_0 rfl
            have gL144_1 : jGet L144 1 = some (.int (i32 (n))) := eL144 ▸ jg_ne (by decide) gL_1 rfl
            have gL144_2 : jGet L144 2 = some (.int (i32 (fr))) := eL144 ▸ jg_ne (by decide) gL_2 rfl
            have gL144_3 : jGet L144 3 = some (.int (i32 (free))) := eL144 ▸ jg_ne (by decide) gL_3 rfl
            have gL144_5 : jGet L144 5 = some (.int (i32 (c))) := eL144 ▸ jg_ne (by decide) gL_5 rfl
            have gL144_4 : jGet L144 4 = some (.int (i32 (r137))) := eL144 ▸ jg_eq
            refine jx_ld (pc_q := 105) (l_q := L144) (st_q := [.ref 66]) rfl (jl_aloadn gL144_0) ?_
            refine jr_get (pc_q := 108) (i := 39) (v := .ref 89) rfl rfl (by decide) rfl rfl ?_
            refine jx_ld (pc_q := 110) (l_q := L144) (st_q := [.int (i32 (c)), .ref 89]) rfl (jl_iload gL144_5) ?_
            have b145 : (-2147483648 : Int) ≤ A 22 (c).toNat ∧ A 22 (c).toNat ≤ 2147483647 := hW.2 22 _
            refine jr_ldv (pc_q := 111) (i := 22) (m := 7000) (z := c) (y := A 22 (c).toNat) rfl (by decide) rfl (by decide) (by omega) (by omega) rfl (show A111 22 (c).toNat = A 22 (c).toNat from (congrFun ((hF116.2 22 rfl).trans ((hF91.2 22 rfl).trans (hFx.2 22 rfl))) _)) ?_
            refine jx_ld (pc_q := 113) (l_q := jSto1 L144 5 (.int (i32 (A 22 (c).toNat)))) (st_q := []) rfl rfl ?_
            obtain ⟨L146, eL146⟩ : ∃ q, q = jSto1 L144 5 (.int (i32 (A 22 (c).toNat))) := ⟨_, rfl⟩
            rw [← eL146]
            have gL146_0 : jGet L146 0 = some (.ref 66) := eL146 ▸ jg_ne (by decide) gL144_0 rfl
            have gL146_1 : jGet L146 1 = some (.int (i32 (n))) := eL146 ▸ jg_ne (by decide) gL144_1 rfl
            have gL146_2 : jGet L146 2 = some (.int (i32 (fr))) := eL146 ▸ jg_ne (by decide) gL144_2 rfl
            have gL146_3 : jGet L146 3 = some (.int (i32 (free))) := eL146 ▸ jg_ne (by decide) gL144_3 rfl
            have gL146_4 : jGet L146 4 = some (.int (i32 (r137))) := eL146 ▸ jg_ne (by decide) gL144_4 rfl
            have gL146_5 : jGet L146 5 = some (.int (i32 (A 22 (c).toNat))) := eL146 ▸ jg_eq
            refine jx_go (tg := 34) rfl rfl ?_
            exact ih34 _ (by omega) L146 G110 A111 (free) (r137) (A 22 (c).toNat) (mo2_113) (w1) (m1) (t1) rfl gL146_0 gL146_1 gL146_2 gL146_3 gL146_4 gL146_5 hW115 hF129 hO130 hN131 ((e120)) ((k135)) (Eq.trans (show G110 60 = lv2_114 from (e121)) (by omega)) (by omega) (by omega) (by omega) (by omega) (by omega) (by omega) (by omega) (by omega) (by omega) (by omega) (by omega) (by omega) (by omega) (by omega) ((hnx _ _ _ (LG_nx hFx (by decide) sgF134 (by decide) (hcm ▸ sgO132) sgN133 (by omega) (by omega) hwC hN1 (fun _ => lE_sz (by omega) (by omega) sf136) (lR_0 (by omega)) (lR_0 (by omega)) p127 (by omega) (by omega) (by omega))))
          · have _q : True := trivial
            refine jx_ld (pc_q := 104) (l_q := jSto1 L 4 (.int (i32 (r137)))) (st_q := []) rfl rfl ?_
            obtain ⟨L147, eL147⟩ : ∃ q, q = jSto1 L 4 (.int (i32 (r137))) := ⟨_, rfl⟩
            rw [← eL147]
            have gL147_0 : jGet L147 0 = some (.ref 66) := eL147 ▸ jg_ne (by decide) gL_0 rfl
            have gL147_1 : jGet L147 1 = some (.int (i32 (n))) := eL147 ▸ jg_ne (by decide) gL_1 rfl
            have gL147_2 : jGet L147 2 = some (.int (i32 (fr))) := eL147 ▸ jg_ne (by decide) gL_2 rfl
            have gL147_3 : jGet L147 3 = some (.int (i32 (free))) := eL147 ▸ jg_ne (by decide) gL_3 rfl
            have gL147_5 : jGet L147 5 = some (.int (i32 (c))) := eL147 ▸ jg_ne (by decide) gL_5 rfl
            have gL147_4 : jGet L147 4 = some (.int (i32 (r137))) := eL147 ▸ jg_eq
            refine jx_ld (pc_q := 105) (l_q := L147) (st_q := [.ref 66]) rfl (jl_aloadn gL147_0) ?_
            refine jr_get (pc_q := 108) (i := 39) (v := .ref 89) rfl rfl (by decide) rfl rfl ?_
            refine jx_ld (pc_q := 110) (l_q := L147) (st_q := [.int (i32 (c)), .ref 89]) rfl (jl_iload gL147_5) ?_
            have b148 : (-2147483648 : Int) ≤ A 22 (c).toNat ∧ A 22 (c).toNat ≤ 2147483647 := hW.2 22 _
            refine jr_ldv (pc_q := 111) (i := 22) (m := 7000) (z := c) (y := A 22 (c).toNat) rfl (by decide) rfl (by decide) (by omega) (by omega) rfl (show A111 22 (c).toNat = A 22 (c).toNat from (congrFun ((hF116.2 22 rfl).trans ((hF91.2 22 rfl).trans (hFx.2 22 rfl))) _)) ?_
            refine jx_ld (pc_q := 113) (l_q := jSto1 L147 5 (.int (i32 (A 22 (c).toNat)))) (st_q := []) rfl rfl ?_
            obtain ⟨L149, eL149⟩ : ∃ q, q = jSto1 L147 5 (.int (i32 (A 22 (c).toNat))) := ⟨_, rfl⟩
            rw [← eL149]
            have gL149_0 : jGet L149 0 = some (.ref 66) := eL149 ▸ jg_ne (by decide) gL147_0 rfl
            have gL149_1 : jGet L149 1 = some (.int (i32 (n))) := eL149 ▸ jg_ne (by decide) gL147_1 rfl
            have gL149_2 : jGet L149 2 = some (.int (i32 (fr))) := eL149 ▸ jg_ne (by decide) gL147_2 rfl
            have gL149_3 : jGet L149 3 = some (.int (i32 (free))) := eL149 ▸ jg_ne (by decide) gL147_3 rfl
            have gL149_4 : jGet L149 4 = some (.int (i32 (r137))) := eL149 ▸ jg_ne (by decide) gL147_4 rfl
            have gL149_5 : jGet L149 5 = some (.int (i32 (A 22 (c).toNat))) := eL149 ▸ jg_eq
            refine jx_go (tg := 34) rfl rfl ?_
            exact ih34 _ (by omega) L149 G110 A111 (free) (r137) (A 22 (c).toNat) (mo2_113) (w1) (m1) (t1) rfl gL149_0 gL149_1 gL149_2 gL149_3 gL149_4 gL149_5 hW115 hF129 hO130 hN131 ((e120)) ((k135)) (Eq.trans (show G110 60 = lv2_114 from (e121)) (by omega)) (by omega) (by omega) (by omega) (by omega) (by omega) (by omega) (by omega) (by omega) (by omega) (by omega) (by omega) (by omega) (by omega) (by omega) ((hnx _ _ _ (LG_nx hFx (by decide) sgF134 (by decide) (hcm ▸ sgO132) sgN133 (by omega) (by omega) hwC hN1 (fun _ => lE_sz (by omega) (by omega) sf136) (lR_0 (by omega)) (lR_0 (by omega)) p127 (by omega) (by omega) (by omega))))
      · have _q : True := trivial
        have hk17 := wE_in k4
        refine jx_ld (pc_q := 40) (l_q := L) (st_q := [.ref 66]) rfl (jl_aloadn gL_0) ?_
        refine jr_get (pc_q := 43) (i := 34) (v := .ref 84) rfl rfl (by decide) rfl rfl ?_
        refine jx_ld (pc_q := 45) (l_q := L) (st_q := [.int (i32 (c)), .ref 84]) rfl (jl_iload gL_5) ?_
        have b150 : (-2147483648 : Int) ≤ A 17 (c).toNat ∧ A 17 (c).toNat ≤ 2147483647 := hW.2 17 _
        refine jr_ldv (pc_q := 46) (i := 17) (m := 7000) (z := c) (y := A 17 (c).toNat) rfl (by decide) rfl (by decide) (by omega) (by omega) rfl (show Ax 17 (c).toNat = A 17 (c).toNat from (congrFun (hFx.2 17 rfl) _)) ?_
        refine jx_if_le (pc_q := 49) (tg := 61) rfl rfl rfl (Int.le_trans (by decide : (-2147483648 : Int) ≤ -2147483648) b150.1) (Int.le_trans b150.2 (by decide : (2147483647 : Int) ≤ 2147483647)) (fun h151 => ?_) (fun h151 => ?_)
        · have _q := h151
          exfalso
          omega
        · have _q := h151
          refine jx_ld (pc_q := 50) (l_q := L) (st_q := [.ref 66]) rfl (jl_aloadn gL_0) ?_
          refine jx_ld (pc_q := 51) (l_q := L) (st_q := [.ref 66, .ref 66]) rfl (jl_aloadn gL_0) ?_
          refine jr_get (pc_q := 54) (i := 34) (v := .ref 84) rfl rfl (by decide) rfl rfl ?_
          refine jx_ld (pc_q := 56) (l_q := L) (st_q := [.int (i32 (c)), .ref 84, .ref 66]) rfl (jl_iload gL_5) ?_
          refine jr_ldv (pc_q := 57) (i := 17) (m := 7000) (z := c) (y := A 17 (c).toNat) rfl (by decide) rfl (by decide) (by omega) (by omega) rfl (show Ax 17 (c).toNat = A 17 (c).toNat from (congrFun (hFx.2 17 rfl) _)) ?_
          refine jx_ld (pc_q := 58) (l_q := L) (st_q := [.int (i32 (free)), .int (i32 (A 17 (c).toNat)), .ref 66]) rfl (jl_iloadn gL_3) ?_
          refine jx_vr (pc_q := 61) (as := [.int (i32 (A 17 (c).toNat)), .int (i32 (free))]) (st := []) rfl rfl rfl rfl ⟨rfl, rfl, Nat.le_of_ble_eq_true rfl⟩ rfl rfl (ME_all X 22 (dd := d) (hd := by omega) (hW := hWx) (e := A 17 (c).toNat) (free := free) (lo := c + 1) (hi := a) (mo := mo1) (e_mo := show Gx 59 = mo1 from (ex_mo1))  (h_e := ⟨(Int.le_trans (by decide : (-2147483648 : Int) ≤ -2147483648) b150.1), (Int.le_trans b150.2 (by decide : (2147483647 : Int) ≤ 2147483647))⟩) (h_free := ⟨(Int.le_trans (by decide : (-2147483648 : Int) ≤ -2147483648) rx_free.1), (Int.le_trans rx_free.2 (by decide : (2147483647 : Int) ≤ 2147483647))⟩)  (p_0 := by omega) (p_1 := by omega) (p_2 := by omega) (p_3 := by omega) (p_4 := by omega) (p_5 := (wE_mono (by omega) (by omega) (by omega) (wE_fr hFx (by decide) (by decide) (by omega) k4))) (p_6 := by omega)) (fun o V_q hq => ?_)
          obtain ⟨G152, A153, mo2_154, rfl, rfl, hW155, hF156, hQ157, e158, p159, p160, p161, -⟩ := hq
          have hF163 := Fr_tr hFx hF156 (Fr_sub (by decide)) (Fr_sub (by decide))
          have hO164 := Fo_tr hOx hQ157 (by omega) (by omega)
          have hN165 := Fo_f hNx hF156 (by decide)
          have sgO166 := Fo_tr sgO0 hQ157 (by omega) (by omega)
          have sgN167 := Fo_f sgN0 hF156 (by decide)
          have sgF168 := Fr_tr sgF0 hF156 (Fr_sub (by decide)) (Fr_sub (by decide))
          have k169 : A153 25 (n).toNat = w1 := (hQ157 25 _ rfl (by omega)).trans (show Ax 25 (n).toNat = w1 from (ex_w1))
          have bmo2_154 : (-2147483648 : Int) ≤ mo2_154 ∧ mo2_154 ≤ 2147483647 := e158 ▸ hW155.1 59
          refine .inl ⟨rfl, ?_⟩
          refine jx_ld (pc_q := 62) (l_q := L) (st_q := [.ref 66]) rfl (jl_aloadn gL_0) ?_
          refine jx_ld (pc_q := 63) (l_q := L) (st_q := [.ref 66, .ref 66]) rfl (jl_aloadn gL_0) ?_
          refine jr_get (pc_q := 66) (i := 35) (v := .ref 85) rfl rfl (by decide) rfl rfl ?_
          refine jx_ld (pc_q := 68) (l_q := L) (st_q := [.int (i32 (c)), .ref 85, .ref 66]) rfl (jl_iload gL_5) ?_
          have b170 : (-2147483648 : Int) ≤ A 18 (c).toNat ∧ A 18 (c).toNat ≤ 2147483647 := hW.2 18 _
          refine jr_ldv (pc_q := 69) (i := 18) (m := 7000) (z := c) (y := A 18 (c).toNat) rfl (by decide) rfl (by decide) (by omega) (by omega) rfl (show A153 18 (c).toNat = A 18 (c).toNat from (congrFun ((hF156.2 18 rfl).trans (hFx.2 18 rfl)) _)) ?_
          refine jx_ld (pc_q := 70) (l_q := L) (st_q := [.int (i32 (free)), .int (i32 (A 18 (c).toNat)), .ref 66]) rfl (jl_iloadn gL_3) ?_
          refine jx_vr (pc_q := 73) (as := [.int (i32 (A 18 (c).toNat)), .int (i32 (free))]) (st := []) rfl rfl rfl rfl ⟨rfl, rfl, Nat.le_of_ble_eq_true rfl⟩ rfl rfl (c_measureReference (dd := d) (hd := by omega) (hW := hW155) (x := A 18 (c).toNat) (free := free) (lo := a) (hi := b) (mo := mo2_154) (e_mo := show G152 59 = mo2_154 from (e158))  (h_x := ⟨(Int.le_trans (by decide : (-2147483648 : Int) ≤ -2147483648) b170.1), (Int.le_trans b170.2 (by decide : (2147483647 : Int) ≤ 2147483647))⟩) (h_free := ⟨(Int.le_trans (by decide : (-2147483648 : Int) ≤ -2147483648) rx_free.1), (Int.le_trans rx_free.2 (by decide : (2147483647 : Int) ≤ 2147483647))⟩)  (p_0 := by omega) (p_1 := by omega) (p_2 := by omega) (p_3 := by omega) (p_4 := by omega) (p_5 := (wR_mono (by omega) (by omega) (by omega) (wR_fr hF163 (by decide) (by decide) (by omega) k5)))) (fun o V_q hq => ?_)
          obtain ⟨G171, A172, mo2_173, rfl, rfl, hW174, hF175, hQ176, e177, p178, p179, p180, -⟩ := hq
          have hF182 := Fr_tr hF163 hF175 (Fr_sub (by decide)) (Fr_sub (by decide))
          have hO183 := Fo_tr hO164 hQ176 (by omega) (by omega)
          have hN184 := Fo_f hN165 hF175 (by decide)
          have sgO185 := Fo_tr sgO166 hQ176 (by omega) (by omega)
          have sgN186 := Fo_f sgN167 hF175 (by decide)
          have sgF187 := Fr_tr sgF168 hF175 (Fr_sub (by decide)) (Fr_sub (by decide))
          have k188 : A172 25 (n).toNat = w1 := (hQ176 25 _ rfl (by omega)).trans (show A153 25 (n).toNat = w1 from (k169))
          have sf189 : lE A172 (22) (A 17 (c).toNat) (free) (mo2_154) := lE_mv (by omega) (Ag_fr hF175 (by decide)) (fun j h1 h2 => hQ176 25 j rfl (by omega)) (wE_fr hF163 (by decide) (by decide) (by omega) k4) p161
          have bmo2_173 : (-2147483648 : Int) ≤ mo2_173 ∧ mo2_173 ≤ 2147483647 := e177 ▸ hW174.1 59
          refine .inl ⟨rfl, ?_⟩
          refine jx_ld (pc_q := 74) (l_q := L) (st_q := [.ref 66]) rfl (jl_aloadn gL_0) ?_
          refine jx_ld (pc_q := 75) (l_q := L) (st_q := [.ref 66, .ref 66]) rfl (jl_aloadn gL_0) ?_
          refine jr_get (pc_q := 78) (i := 36) (v := .ref 86) rfl rfl (by decide) rfl rfl ?_
          refine jx_ld (pc_q := 80) (l_q := L) (st_q := [.int (i32 (c)), .ref 86, .ref 66]) rfl (jl_iload gL_5) ?_
          have b190 : (-2147483648 : Int) ≤ A 19 (c).toNat ∧ A 19 (c).toNat ≤ 2147483647 := hW.2 19 _
          refine jr_ldv (pc_q := 81) (i := 19) (m := 7000) (z := c) (y := A 19 (c).toNat) rfl (by decide) rfl (by decide) (by omega) (by omega) rfl (show A172 19 (c).toNat = A 19 (c).toNat from (congrFun ((hF175.2 19 rfl).trans ((hF156.2 19 rfl).trans (hFx.2 19 rfl))) _)) ?_
          refine jx_ld (pc_q := 82) (l_q := L) (st_q := [.int (i32 (free)), .int (i32 (A 19 (c).toNat)), .ref 66]) rfl (jl_iloadn gL_3) ?_
          refine jx_vr (pc_q := 85) (as := [.int (i32 (A 19 (c).toNat)), .int (i32 (free))]) (st := []) rfl rfl rfl rfl ⟨rfl, rfl, Nat.le_of_ble_eq_true rfl⟩ rfl rfl (c_measureReference (dd := d) (hd := by omega) (hW := hW174) (x := A 19 (c).toNat) (free := free) (lo := b) (hi := x) (mo := mo2_173) (e_mo := show G171 59 = mo2_173 from (e177))  (h_x := ⟨(Int.le_trans (by decide : (-2147483648 : Int) ≤ -2147483648) b190.1), (Int.le_trans b190.2 (by decide : (2147483647 : Int) ≤ 2147483647))⟩) (h_free := ⟨(Int.le_trans (by decide : (-2147483648 : Int) ≤ -2147483648) rx_free.1), (Int.le_trans rx_free.2 (by decide : (2147483647 : Int) ≤ 2147483647))⟩)  (p_0 := by omega) (p_1 := by omega) (p_2 := by omega) (p_3 := by omega) (p_4 := by omega) (p_5 := (wR_mono (by omega) (by omega) (by omega) (wR_fr hF182 (by decide) (by decide) (by omega) k6)))) (fun o V_q hq => ?_)
          obtain ⟨G191, A192, mo2_193, rfl, rfl, hW194, hF195, hQ196, e197, p198, p199, p200, -⟩ := hq
          have hF202 := Fr_tr hF182 hF195 (Fr_sub (by decide)) (Fr_sub (by decide))
          have hO203 := Fo_tr hO183 hQ196 (by omega) (by omega)
          have hN204 := Fo_f hN184 hF195 (by decide)
          have sgO205 := Fo_tr sgO185 hQ196 (by omega) (by omega)
          have sgN206 := Fo_f sgN186 hF195 (by decide)
          have sgF207 := Fr_tr sgF187 hF195 (Fr_sub (by decide)) (Fr_sub (by decide))
          have k208 : A192 25 (n).toNat = w1 := (hQ196 25 _ rfl (by omega)).trans (show A172 25 (n).toNat = w1 from (k188))
          have sf209 : lE A192 (22) (A 17 (c).toNat) (free) (mo2_154) := lE_mv (by omega) (Ag_fr hF195 (by decide)) (fun j h1 h2 => hQ196 25 j rfl (by omega)) (wE_fr hF182 (by decide) (by decide) (by omega) k4) sf189
          have sf210 : lR A192 (A 18 (c).toNat) (free) (mo2_173) := lR_mv (by omega) (Ag_fr hF195 (by decide)) (fun j h1 h2 => hQ196 25 j rfl (by omega)) (wR_fr hF182 (by decide) (by decide) (by omega) k5) p180
          have bmo2_193 : (-2147483648 : Int) ≤ mo2_193 ∧ mo2_193 ≤ 2147483647 := e197 ▸ hW194.1 59
          refine .inl ⟨rfl, ?_⟩
          refine jx_ld (pc_q := 87) (l_q := L) (st_q := [.int (i32 (deep))]) rfl (jl_iload gL_4) ?_
          refine jx_ld (pc_q := 88) (l_q := L) (st_q := [.ref 66, .int (i32 (deep))]) rfl (jl_aloadn gL_0) ?_
          refine jx_ld (pc_q := 89) (l_q := L) (st_q := [.ref 66, .ref 66, .int (i32 (deep))]) rfl (jl_aloadn gL_0) ?_
          refine jr_get (pc_q := 92) (i := 38) (v := .ref 88) rfl rfl (by decide) rfl rfl ?_
          refine jx_ld (pc_q := 94) (l_q := L) (st_q := [.int (i32 (c)), .ref 88, .ref 66, .int (i32 (deep))]) rfl (jl_iload gL_5) ?_
          have b211 : (-2147483648 : Int) ≤ A 21 (c).toNat ∧ A 21 (c).toNat ≤ 2147483647 := hW.2 21 _
          refine jr_ldv (pc_q := 95) (i := 21) (m := 7000) (z := c) (y := A 21 (c).toNat) rfl (by decide) rfl (by decide) (by omega) (by omega) rfl (show A192 21 (c).toNat = A 21 (c).toNat from (congrFun ((hF195.2 21 rfl).trans ((hF175.2 21 rfl).trans ((hF156.2 21 rfl).trans (hFx.2 21 rfl)))) _)) ?_
          refine jx_ld (pc_q := 96) (l_q := L) (st_q := [.int (i32 (free)), .int (i32 (A 21 (c).toNat)), .ref 66, .int (i32 (deep))]) rfl (jl_iloadn gL_3) ?_
          refine jx_vr (pc_q := 99) (as := [.int (i32 (A 21 (c).toNat)), .int (i32 (free))]) (st := [.int (i32 (deep))]) rfl rfl rfl rfl ⟨rfl, rfl, Nat.le_of_ble_eq_true rfl⟩ rfl rfl (hM (dd := d) (hd := by omega) (hW := hW194) (n := A 21 (c).toNat) (fr := free) (lo := x) (hi := m1) (s0 := gt) (s1 := t1) (mo := mo2_193) (e_mo := show G191 59 = mo2_193 from (e197)) (lv := lv) (e_lv := show G191 60 = lv from ((hF195.1 60 rfl).trans ((hF175.1 60 rfl).trans ((hF156.1 60 rfl).trans (fx_60)))))  (h_n := ⟨(Int.le_trans (by decide : (-2147483648 : Int) ≤ -2147483648) b211.1), (Int.le_trans b211.2 (by decide : (2147483647 : Int) ≤ 2147483647))⟩) (h_fr := ⟨(Int.le_trans (by decide : (-2147483648 : Int) ≤ -2147483648) rx_free.1), (Int.le_trans rx_free.2 (by decide : (2147483647 : Int) ≤ 2147483647))⟩)  (p_0 := by omega) (p_1 := by omega) (p_2 := by omega) (p_3 := by omega) (p_4 := by omega) (p_5 := by omega) (p_6 := by omega) (p_7 := by omega) (p_8 := (PS_fr hF202 (by decide) p_10)) (p_9 := by omega) (p_10 := by omega) (p_11 := by omega) (p_12 := (wP_fr hF202 (by decide) (by omega) (by omega) hwP)) (p_13 := by omega)) (fun o V_q hq => ?_)
          obtain ⟨G212, A213, r214, mo2_215, lv2_216, rfl, rfl, hW217, hF218, hQ219, hQ220, b221, e222, e223, p224, p225, p226, p227, p228, p229, -⟩ := hq
          have hF231 := Fr_tr hF202 hF218 (Fr_sub (by decide)) (Fr_sub (by decide))
          have hO232 := Fo_tr hO203 hQ219 (by omega) (by omega)
          have hN233 := Fo_tr hN204 hQ220 (by omega) (by omega)
          have sgO234 := Fo_tr sgO205 hQ219 (by omega) (by omega)
          have sgN235 := Fo_tr sgN206 hQ220 (by omega) (by omega)
          have sgF236 := Fr_tr sgF207 hF218 (Fr_sub (by decide)) (Fr_sub (by decide))
          have k237 : A213 25 (n).toNat = w1 := (hQ219 25 _ rfl (by omega)).trans (show A192 25 (n).toNat = w1 from (k208))
          have sf238 : lE A213 (22) (A 17 (c).toNat) (free) (mo2_154) := lE_mv (by omega) (Ag_fr hF218 (by decide)) (fun j h1 h2 => hQ219 25 j rfl (by omega)) (wE_fr hF202 (by decide) (by decide) (by omega) k4) sf209
          have sf239 : lR A213 (A 18 (c).toNat) (free) (mo2_173) := lR_mv (by omega) (Ag_fr hF218 (by decide)) (fun j h1 h2 => hQ219 25 j rfl (by omega)) (wR_fr hF202 (by decide) (by decide) (by omega) k5) sf210
          have sf240 : lR A213 (A 19 (c).toNat) (free) (mo2_193) := lR_mv (by omega) (Ag_fr hF218 (by decide)) (fun j h1 h2 => hQ219 25 j rfl (by omega)) (wR_fr hF202 (by decide) (by decide) (by omega) k6) p200
          have bmo2_215 : (-2147483648 : Int) ≤ mo2_215 ∧ mo2_215 ≤ 2147483647 := e222 ▸ hW217.1 59
          have blv2_216 : (-2147483648 : Int) ≤ lv2_216 ∧ lv2_216 ≤ 2147483647 := e223 ▸ hW217.1 60
          refine .inr ⟨_, rfl, ?_⟩
          refine jx_st (pc_q := 102) (as := [.int (i32 (deep)), .int (i32 (r214))]) (st := []) rfl rfl ⟨rfl, Nat.le_of_ble_eq_true rfl⟩ rfl rfl rfl (c_max (dd := d) (hd := by omega) (a := deep) (b := r214)   (h_a := ⟨(Int.le_trans (by decide : (-2147483648 : Int) ≤ -2147483648) rx_deep.1), (Int.le_trans rx_deep.2 (by decide : (2147483647 : Int) ≤ 2147483647))⟩) (h_b := ⟨(Int.le_trans (by decide : (-2147483648 : Int) ≤ -2147483648) b221.1), (Int.le_trans b221.2 (by decide : (2147483647 : Int) ≤ 2147483647))⟩)  ) (fun o V_q hq => ?_)
          obtain ⟨r241, rfl, rfl, b242, q243⟩ := hq
          refine .inr ⟨_, rfl, ?_⟩
          rcases q243 with ⟨a244, a245⟩ | ⟨a246, a247⟩
          · have _q : True := trivial
            refine jx_ld (pc_q := 104) (l_q := jSto1 L 4 (.int (i32 (r241)))) (st_q := []) rfl rfl ?_
            obtain ⟨L248, eL248⟩ : ∃ q, q = jSto1 L 4 (.int (i32 (r241))) := ⟨_, rfl⟩
            rw [← eL248]
            have gL248_0 : jGet L248 0 = some (.ref 66) := eL248 ▸ jg_ne (by decide) gL_0 rfl
            have gL248_1 : jGet L248 1 = some (.int (i32 (n))) := eL248 ▸ jg_ne (by decide) gL_1 rfl
            have gL248_2 : jGet L248 2 = some (.int (i32 (fr))) := eL248 ▸ jg_ne (by decide) gL_2 rfl
            have gL248_3 : jGet L248 3 = some (.int (i32 (free))) := eL248 ▸ jg_ne (by decide) gL_3 rfl
            have gL248_5 : jGet L248 5 = some (.int (i32 (c))) := eL248 ▸ jg_ne (by decide) gL_5 rfl
            have gL248_4 : jGet L248 4 = some (.int (i32 (r241))) := eL248 ▸ jg_eq
            refine jx_ld (pc_q := 105) (l_q := L248) (st_q := [.ref 66]) rfl (jl_aloadn gL248_0) ?_
            refine jr_get (pc_q := 108) (i := 39) (v := .ref 89) rfl rfl (by decide) rfl rfl ?_
            refine jx_ld (pc_q := 110) (l_q := L248) (st_q := [.int (i32 (c)), .ref 89]) rfl (jl_iload gL248_5) ?_
            have b249 : (-2147483648 : Int) ≤ A 22 (c).toNat ∧ A 22 (c).toNat ≤ 2147483647 := hW.2 22 _
            refine jr_ldv (pc_q := 111) (i := 22) (m := 7000) (z := c) (y := A 22 (c).toNat) rfl (by decide) rfl (by decide) (by omega) (by omega) rfl (show A213 22 (c).toNat = A 22 (c).toNat from (congrFun ((hF218.2 22 rfl).trans ((hF195.2 22 rfl).trans ((hF175.2 22 rfl).trans ((hF156.2 22 rfl).trans (hFx.2 22 rfl))))) _)) ?_
            refine jx_ld (pc_q := 113) (l_q := jSto1 L248 5 (.int (i32 (A 22 (c).toNat)))) (st_q := []) rfl rfl ?_
            obtain ⟨L250, eL250⟩ : ∃ q, q = jSto1 L248 5 (.int (i32 (A 22 (c).toNat))) := ⟨_, rfl⟩
            rw [← eL250]
            have gL250_0 : jGet L250 0 = some (.ref 66) := eL250 ▸ jg_ne (by decide) gL248_0 rfl
            have gL250_1 : jGet L250 1 = some (.int (i32 (n))) := eL250 ▸ jg_ne (by decide) gL248_1 rfl
            have gL250_2 : jGet L250 2 = some (.int (i32 (fr))) := eL250 ▸ jg_ne (by decide) gL248_2 rfl
            have gL250_3 : jGet L250 3 = some (.int (i32 (free))) := eL250 ▸ jg_ne (by decide) gL248_3 rfl
            have gL250_4 : jGet L250 4 = some (.int (i32 (r241))) := eL250 ▸ jg_ne (by decide) gL248_4 rfl
            have gL250_5 : jGet L250 5 = some (.int (i32 (A 22 (c).toNat))) := eL250 ▸ jg_eq
            refine jx_go (tg := 34) rfl rfl ?_
            exact ih34 _ (by omega) L250 G212 A213 (free) (r241) (A 22 (c).toNat) (mo2_215) (w1) (m1) (t1) rfl gL250_0 gL250_1 gL250_2 gL250_3 gL250_4 gL250_5 hW217 hF231 hO232 hN233 ((e222)) ((k237)) (Eq.trans (show G212 60 = lv2_216 from (e223)) (by omega)) (by omega) (by omega) (by omega) (by omega) (by omega) (by omega) (by omega) (by omega) (by omega) (by omega) (by omega) (by omega) (by omega) (by omega) ((hnx _ _ _ (LG_nx hFx (by decide) sgF236 (by decide) (hcm ▸ sgO234) sgN235 (by omega) (by omega) hwC hN1 (fun _ => lE_sz (by omega) (by omega) sf238) (lR_sz (by omega) sf239) (lR_sz (by omega) sf240) p229 (by omega) (by omega) (by omega))))
          · have _q : True := trivial
            refine jx_ld (pc_q := 104) (l_q := jSto1 L 4 (.int (i32 (r241)))) (st_q := []) rfl rfl ?_
            obtain ⟨L251, eL251⟩ : ∃ q, q = jSto1 L 4 (.int (i32 (r241))) := ⟨_, rfl⟩
            rw [← eL251]
            have gL251_0 : jGet L251 0 = some (.ref 66) := eL251 ▸ jg_ne (by decide) gL_0 rfl
            have gL251_1 : jGet L251 1 = some (.int (i32 (n))) := eL251 ▸ jg_ne (by decide) gL_1 rfl
            have gL251_2 : jGet L251 2 = some (.int (i32 (fr))) := eL251 ▸ jg_ne (by decide) gL_2 rfl
            have gL251_3 : jGet L251 3 = some (.int (i32 (free))) := eL251 ▸ jg_ne (by decide) gL_3 rfl
            have gL251_5 : jGet L251 5 = some (.int (i32 (c))) := eL251 ▸ jg_ne (by decide) gL_5 rfl
            have gL251_4 : jGet L251 4 = some (.int (i32 (r241))) := eL251 ▸ jg_eq
            refine jx_ld (pc_q := 105) (l_q := L251) (st_q := [.ref 66]) rfl (jl_aloadn gL251_0) ?_
            refine jr_get (pc_q := 108) (i := 39) (v := .ref 89) rfl rfl (by decide) rfl rfl ?_
            refine jx_ld (pc_q := 110) (l_q := L251) (st_q := [.int (i32 (c)), .ref 89]) rfl (jl_iload gL251_5) ?_
            have b252 : (-2147483648 : Int) ≤ A 22 (c).toNat ∧ A 22 (c).toNat ≤ 2147483647 := hW.2 22 _
            refine jr_ldv (pc_q := 111) (i := 22) (m := 7000) (z := c) (y := A 22 (c).toNat) rfl (by decide) rfl (by decide) (by omega) (by omega) rfl (show A213 22 (c).toNat = A 22 (c).toNat from (congrFun ((hF218.2 22 rfl).trans ((hF195.2 22 rfl).trans ((hF175.2 22 rfl).trans ((hF156.2 22 rfl).trans (hFx.2 22 rfl))))) _)) ?_
            refine jx_ld (pc_q := 113) (l_q := jSto1 L251 5 (.int (i32 (A 22 (c).toNat)))) (st_q := []) rfl rfl ?_
            obtain ⟨L253, eL253⟩ : ∃ q, q = jSto1 L251 5 (.int (i32 (A 22 (c).toNat))) := ⟨_, rfl⟩
            rw [← eL253]
            have gL253_0 : jGet L253 0 = some (.ref 66) := eL253 ▸ jg_ne (by decide) gL251_0 rfl
            have gL253_1 : jGet L253 1 = some (.int (i32 (n))) := eL253 ▸ jg_ne (by decide) gL251_1 rfl
            have gL253_2 : jGet L253 2 = some (.int (i32 (fr))) := eL253 ▸ jg_ne (by decide) gL251_2 rfl
            have gL253_3 : jGet L253 3 = some (.int (i32 (free))) := eL253 ▸ jg_ne (by decide) gL251_3 rfl
            have gL253_4 : jGet L253 4 = some (.int (i32 (r241))) := eL253 ▸ jg_ne (by decide) gL251_4 rfl
            have gL253_5 : jGet L253 5 = some (.int (i32 (A 22 (c).toNat))) := eL253 ▸ jg_eq
            refine jx_go (tg := 34) rfl rfl ?_
            exact ih34 _ (by omega) L253 G212 A213 (free) (r241) (A 22 (c).toNat) (mo2_215) (w1) (m1) (t1) rfl gL253_0 gL253_1 gL253_2 gL253_3 gL253_4 gL253_5 hW217 hF231 hO232 hN233 ((e222)) ((k237)) (Eq.trans (show G212 60 = lv2_216 from (e223)) (by omega)) (by omega) (by omega) (by omega) (by omega) (by omega) (by omega) (by omega) (by omega) (by omega) (by omega) (by omega) (by omega) (by omega) (by omega) ((hnx _ _ _ (LG_nx hFx (by decide) sgF236 (by decide) (hcm ▸ sgO234) sgN235 (by omega) (by omega) hwC hN1 (fun _ => lE_sz (by omega) (by omega) sf238) (lR_sz (by omega) sf239) (lR_sz (by omega) sf240) p229 (by omega) (by omega) (by omega))))
set_option maxRecDepth 20000 in
set_option maxHeartbeats 4000000 in
theorem c_measureAlt {X : jX} {k : Nat} (hM : MM X k) {dd : Nat} {Vs : Nat → Prop} {sb pb : Int} {c0 c1 : jC} {G : Nat → Int} {A : Nat → Nat → Int} {T : jH} {n fr : Int} {hi s0 s1 : Int} {mo lv gb : Int} (hd : 2 * k + 31 ≤ dd) (hW : Wk G A) (e_mo : G 59 = mo) (e_lv : G 60 = lv) (e_gb : A 18 (n).toNat = gb) (h_n : (-2147483648 : Int) ≤ n ∧ n ≤ 2147483647) (h_fr : (-2147483648 : Int) ≤ fr ∧ fr ≤ 2147483647) (p_0 : 0 ≤ n) (p_1 : n < hi) (p_2 : hi ≤ 6999) (p_3 : 0 ≤ s0) (p_4 : s0 ≤ s1) (p_5 : s1 ≤ sb) (p_6 : sb ≤ 202) (p_7 : 0 ≤ lv) (p_8 : lv + (k : Int) ≤ 60) (p_9 : mo ≤ 1000000) (p_10 : PS A (pb)) (p_11 : 1 ≤ fr) (p_12 : fr ≤ 70 + 64 * s0 + 20 * n) (p_13 : fr ≤ mo) (p_14 : 1 ≤ gb) (p_15 : gb ≤ 8) (p_16 : (∃ l, CH A (A 21 (n).toNat) l ∧ wCs (wG A Vs sb (wP A sb pb k Vs)) l (n + 1) (hi) (s0) (s1))) (p_17 : pb ≤ 24) : wk X dd 321 [.ref 66, .int (i32 n), .int (i32 fr)] (rV c0 c1 G A T) (fun o V_q => ∃ (G_q : Nat → Int) (A_q : Nat → Nat → Int) (r : Int) (mo2 : Int) (lv2 : Int), V_q = rV c0 c1 G_q A_q T ∧ o = .inl (some (.int (i32 r))) ∧ Wk G_q A_q ∧ Fr [59, 60] [9, 10, 25, 26, 27] G A G_q A_q ∧ Fo [25, 26, 27] (n) (hi) A A_q ∧ Fo [9, 10] (s0) (s1) A A_q ∧ ((-2147483648 : Int) ≤ r ∧ r ≤ 2147483647) ∧ G_q 59 = mo2 ∧ G_q 60 = lv2 ∧ (mo ≤ mo2) ∧ (mo2 ≤ 1000000) ∧ (lv2 = lv) ∧ (0 ≤ r) ∧ (r ≤ 1000000) ∧ (lG2 A_q (lP A_q k) (n) (fr) (lv) (mo2) (r)) ∧ True) := by
  obtain ⟨d, rfl⟩ : ∃ d, dd = d + 1 := ⟨dd - 1, by omega⟩
  refine wk_of (e := jm321) rfl (Nat.le_of_ble_eq_true rfl) ?_
  show wj X d jm321 (0, [(0, .ref 66), (1, .int (i32 (n))), (2, .int (i32 (fr)))], [], rV c0 c1 G A T) _
  have hF0 : Fr [59, 60] [9, 10, 25, 26, 27] G A G A := Fr_rf
  have hO0 : Fo [25, 26, 27] (n) (hi) A A := Fo_rf
  have hN0 : Fo [9, 10] (s0) (s1) A A := Fo_rf
  have b_mo : (-2147483648 : Int) ≤ mo ∧ mo ≤ 2147483647 := e_mo ▸ hW.1 59
  have b_lv : (-2147483648 : Int) ≤ lv ∧ lv ≤ 2147483647 := e_lv ▸ hW.1 60
  have b_gb : (-2147483648 : Int) ≤ gb ∧ gb ≤ 2147483647 := e_gb ▸ hW.2 18 _
  refine jx_ld (pc_q := 1) (l_q := [(0, .ref 66), (1, .int (i32 (n))), (2, .int (i32 (fr)))]) (st_q := [.ref 66]) rfl (jl_aloadn rfl) ?_
  refine jr_get (pc_q := 4) (i := 42) (v := .ref 92) rfl rfl (by decide) rfl rfl ?_
  refine jx_ld (pc_q := 5) (l_q := [(0, .ref 66), (1, .int (i32 (n))), (2, .int (i32 (fr)))]) (st_q := [.int (i32 (n)), .ref 92]) rfl (jl_iloadn rfl) ?_
  refine jx_ld (pc_q := 6) (l_q := [(0, .ref 66), (1, .int (i32 (n))), (2, .int (i32 (fr)))]) (st_q := [.int (i32 (fr)), .int (i32 (n)), .ref 92]) rfl (jl_iloadn rfl) ?_
  refine jr_st (pc_q := 7) (i := 25) (m := 7000) (z := n) (y := fr) rfl (by decide) rfl (by decide) (by omega) (by omega) rfl ?_
  have hW255 : Wk G (uA A 25 (n).toNat (fr)) := Wk_a hW (show (-2147483648 : Int) ≤ fr by omega) (show fr ≤ (2147483647 : Int) by omega)
  have hF256 := Fr_a (z := fr) (k := 25) (n := (n).toNat) hF0 (by decide)
  obtain ⟨A254, eA254⟩ : ∃ q, q = uA A 25 (n).toNat (fr) := ⟨_, rfl⟩
  rw [← eA254]
  rw [← eA254] at hW255 hF256
  have q257 : A254 25 (n).toNat = fr := by rw [eA254]; exact uA_eq
  have hO258 : Fo [25, 26, 27] (n) (hi) A A254 := eA254 ▸ Fo_a hO0 (z := n) (by omega) (by omega) (by omega)
  have hN259 : Fo [9, 10] (s0) (s1) A A254 := eA254 ▸ Fo_n hN0 rfl
  refine jx_ld (pc_q := 8) (l_q := [(0, .ref 66), (1, .int (i32 (n))), (2, .int (i32 (fr)))]) (st_q := [.int (i32 (fr))]) rfl (jl_iloadn rfl) ?_
  refine jx_ar (pc_q := 9) (st_q := [.int (i32 (2)), .int (i32 (fr))]) rfl rfl rfl rfl ?_
  refine jx_ld (pc_q := 10) (l_q := [(0, .ref 66), (1, .int (i32 (n))), (2, .int (i32 (fr)))]) (st_q := [.ref 66, .int (i32 (2)), .int (i32 (fr))]) rfl (jl_aloadn rfl) ?_
  refine jr_get (pc_q := 13) (i := 35) (v := .ref 85) rfl rfl (by decide) rfl rfl ?_
  refine jx_ld (pc_q := 14) (l_q := [(0, .ref 66), (1, .int (i32 (n))), (2, .int (i32 (fr)))]) (st_q := [.int (i32 (n)), .ref 85, .int (i32 (2)), .int (i32 (fr))]) rfl (jl_iloadn rfl) ?_
  refine jr_ldv (pc_q := 15) (i := 18) (m := 7000) (z := n) (y := gb) rfl (by decide) rfl (by decide) (by omega) (by omega) rfl (show A254 18 (n).toNat = gb from (congrFun ((congrFun eA254 18).trans (uA_ne (by decide))) _).trans (e_gb)) ?_
  refine jx_mul (pc_q := 16) rfl rfl ?_
  refine jx_add (pc_q := 17) rfl rfl ?_
  refine jx_ld (pc_q := 18) (l_q := jSto1 [(0, .ref 66), (1, .int (i32 (n))), (2, .int (i32 (fr)))] 3 (.int (i32 ((fr + (2 * gb)))))) (st_q := []) rfl rfl ?_
  obtain ⟨L260, eL260⟩ : ∃ q, q = jSto1 [(0, .ref 66), (1, .int (i32 (n))), (2, .int (i32 (fr)))] 3 (.int (i32 ((fr + (2 * gb))))) := ⟨_, rfl⟩
  rw [← eL260]
  have gL260_0 : jGet L260 0 = some (.ref 66) := eL260 ▸ jg_ne (by decide) (rfl : jGet [(0, .ref 66), (1, .int (i32 (n))), (2, .int (i32 (fr)))] 0 = some (.ref 66)) rfl
  have gL260_1 : jGet L260 1 = some (.int (i32 (n))) := eL260 ▸ jg_ne (by decide) (rfl : jGet [(0, .ref 66), (1, .int (i32 (n))), (2, .int (i32 (fr)))] 1 = some (.int (i32 (n)))) rfl
  have gL260_2 : jGet L260 2 = some (.int (i32 (fr))) := eL260 ▸ jg_ne (by decide) (rfl : jGet [(0, .ref 66), (1, .int (i32 (n))), (2, .int (i32 (fr)))] 2 = some (.int (i32 (fr)))) rfl
  have gL260_3 : jGet L260 3 = some (.int (i32 ((fr + (2 * gb))))) := eL260 ▸ jg_eq
  refine jx_ld (pc_q := 19) (l_q := L260) (st_q := [.ref 66]) rfl (jl_aloadn gL260_0) ?_
  refine jx_ld (pc_q := 20) (l_q := L260) (st_q := [.int (i32 ((fr + (2 * gb)))), .ref 66]) rfl (jl_iloadn gL260_3) ?_
  refine jx_vr (pc_q := 23) (as := [.int (i32 ((fr + (2 * gb))))]) (st := []) rfl rfl rfl rfl ⟨rfl, rfl, Nat.le_of_ble_eq_true rfl⟩ rfl rfl (c_reach (dd := d) (hd := by omega) (hW := hW255) (free := (fr + (2 * gb))) (mo := mo) (e_mo := show G 59 = mo from (e_mo))  (h_free := ⟨(by omega), (by omega)⟩)  (p_0 := by omega) (p_1 := by omega)) (fun o V_q hq => ?_)
  obtain ⟨G261, A262, mo2_263, rfl, rfl, hW264, hF265, e266, p267, p268, p269, -⟩ := hq
  have hF271 := Fr_tr hF256 hF265 (Fr_sub (by decide)) (Fr_sub (by decide))
  have hO272 := Fo_f hO258 hF265 (by decide)
  have hN273 := Fo_f hN259 hF265 (by decide)
  have bmo2_263 : (-2147483648 : Int) ≤ mo2_263 ∧ mo2_263 ≤ 2147483647 := e266 ▸ hW264.1 59
  refine .inl ⟨rfl, ?_⟩
  refine jx_ar (pc_q := 24) (st_q := [.int (i32 (0))]) rfl rfl rfl rfl ?_
  refine jx_ld (pc_q := 26) (l_q := jSto1 L260 4 (.int (i32 (0)))) (st_q := []) rfl rfl ?_
  obtain ⟨L274, eL274⟩ : ∃ q, q = jSto1 L260 4 (.int (i32 (0))) := ⟨_, rfl⟩
  rw [← eL274]
  have gL274_0 : jGet L274 0 = some (.ref 66) := eL274 ▸ jg_ne (by decide) gL260_0 rfl
  have gL274_1 : jGet L274 1 = some (.int (i32 (n))) := eL274 ▸ jg_ne (by decide) gL260_1 rfl
  have gL274_2 : jGet L274 2 = some (.int (i32 (fr))) := eL274 ▸ jg_ne (by decide) gL260_2 rfl
  have gL274_3 : jGet L274 3 = some (.int (i32 ((fr + (2 * gb))))) := eL274 ▸ jg_ne (by decide) gL260_3 rfl
  have gL274_4 : jGet L274 4 = some (.int (i32 (0))) := eL274 ▸ jg_eq
  have _q : True := trivial
  refine jx_ld (pc_q := 27) (l_q := L274) (st_q := [.ref 66]) rfl (jl_aloadn gL274_0) ?_
  refine jr_get (pc_q := 30) (i := 38) (v := .ref 88) rfl rfl (by decide) rfl rfl ?_
  refine jx_ld (pc_q := 31) (l_q := L274) (st_q := [.int (i32 (n)), .ref 88]) rfl (jl_iloadn gL274_1) ?_
  have b275 : (-2147483648 : Int) ≤ A 21 (n).toNat ∧ A 21 (n).toNat ≤ 2147483647 := hW.2 21 _
  refine jr_ldv (pc_q := 32) (i := 21) (m := 7000) (z := n) (y := A 21 (n).toNat) rfl (by decide) rfl (by decide) (by omega) (by omega) rfl (show A262 21 (n).toNat = A 21 (n).toNat from (congrFun ((hF265.2 21 rfl).trans ((congrFun eA254 21).trans (uA_ne (by decide)))) _)) ?_
  refine jx_ld (pc_q := 34) (l_q := jSto1 L274 5 (.int (i32 (A 21 (n).toNat)))) (st_q := []) rfl rfl ?_
  obtain ⟨L276, eL276⟩ : ∃ q, q = jSto1 L274 5 (.int (i32 (A 21 (n).toNat))) := ⟨_, rfl⟩
  rw [← eL276]
  have gL276_0 : jGet L276 0 = some (.ref 66) := eL276 ▸ jg_ne (by decide) gL274_0 rfl
  have gL276_1 : jGet L276 1 = some (.int (i32 (n))) := eL276 ▸ jg_ne (by decide) gL274_1 rfl
  have gL276_2 : jGet L276 2 = some (.int (i32 (fr))) := eL276 ▸ jg_ne (by decide) gL274_2 rfl
  have gL276_3 : jGet L276 3 = some (.int (i32 ((fr + (2 * gb))))) := eL276 ▸ jg_ne (by decide) gL274_3 rfl
  have gL276_4 : jGet L276 4 = some (.int (i32 (0))) := eL276 ▸ jg_ne (by decide) gL274_4 rfl
  have gL276_5 : jGet L276 5 = some (.int (i32 (A 21 (n).toNat))) := eL276 ▸ jg_eq
  exact c_measureAlt_at_34 (X := X) (k := k) (hM := hM) (d := d) (Vs := Vs) (sb := sb) (pb := pb) (c0 := c0) (c1 := c1) (G := G) (A := A) (T := T) (n := n) (fr := fr) (hi := hi) (s0 := s0) (s1 := s1) (mo := mo) (lv := lv) (gb := gb) (hd := hd) (hW := hW) (e_mo := e_mo) (e_lv := e_lv) (e_gb := e_gb) (h_n := h_n) (h_fr := h_fr) (p_0 := p_0) (p_1 := p_1) (p_2 := p_2) (p_3 := p_3) (p_4 := p_4) (p_5 := p_5) (p_6 := p_6) (p_7 := p_7) (p_8 := p_8) (p_9 := p_9) (p_10 := p_10) (p_11 := p_11) (p_12 := p_12) (p_13 := p_13) (p_14 := p_14) (p_15 := p_15) (p_16 := p_16) (p_17 := p_17) _ L276 G261 A262 ((fr + (2 * gb))) (0) (A 21 (n).toNat) (mo2_263) (fr) (n + 1) (s0) rfl gL276_0 gL276_1 gL276_2 gL276_3 gL276_4 gL276_5 hW264 hF271 hO272 hN273 ((e266)) ((congrFun (hF265.2 25 rfl) _).trans (q257)) (((hF265.1 60 rfl).trans (e_lv))) (by omega) (by omega) (by omega) (by omega) (by omega) (by omega) (by omega) (by omega) (by omega) (by omega) (by omega) (by omega) (by omega) (by omega) ((LG_0 p_16 (by omega)))
