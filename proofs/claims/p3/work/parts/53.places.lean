/-- the places of the steps before k -/
def AT (A : Nat → Nat → Int) (k : Int) : Prop := A 49 0 = 0 ∧ ∀ j : Nat, (j : Int) < k → A 49 (j + 1) = A 49 j + A 48 j
/-- lengths -/
def LN (A : Nat → Nat → Int) (k : Int) : Prop := ∀ j : Nat, (j : Int) < k → 1 ≤ A 48 j ∧ A 48 j ≤ 8
theorem AT_0 {A A_q : Nat → Nat → Int} {z : Int} (e : A_q = uA A 49 z.toNat 0) (hz : z = 0) : AT A_q 0 := by
  subst e hz
  exact ⟨uA_eq, fun j hj => by omega⟩
theorem AT_k {A : Nat → Nat → Int} {k k_q : Int} (e : k = k_q) (h : AT A k) : AT A k_q := e ▸ h
theorem AT_nx {A A_q : Nat → Nat → Int} {k k_q z v x y : Int} (h : AT A k) (e : A_q = uA A 49 z.toNat v) (h0 : 0 ≤ k) (hz : z = k + 1) (hk : k_q = k + 1) (q49 : A 49 k.toNat = x) (q48 : A 48 k.toNat = y) (hv : v = x + y) : AT A_q k_q := by
  subst hz
  have e48 : A_q 48 = A 48 := by
    rw [e]
    exact uA_ne (by decide)
  have q : ∀ j : Nat, (j : Int) ≤ k → A_q 49 j = A 49 j := fun j hj => by
    rw [e]
    exact uA_ni (by omega)
  refine ⟨?_, fun j hj => ?_⟩
  · have := q 0 (by omega)
    rw [this]
    exact h.1
  · by_cases hc : (j : Int) = k
    · have ej : j = k.toNat := by omega
      subst ej
      rw [show k.toNat + 1 = (k + 1).toNat by omega, q k.toNat (by omega), e48, q48, q49, e, uA_eq, hv]
    · rw [q (j + 1) (by omega), q j (by omega), e48]
      exact h.2 j (by omega)
theorem AT_b {A A1 : Nat → Nat → Int} {n : Int} (e : A1 48 = A 48) (hl : LN A n) : ∀ {m : Nat}, AT A1 (m : Int) → (m : Int) ≤ n → 0 ≤ A1 49 m ∧ A1 49 m ≤ 8 * (m : Int)
  | 0, h, _ => by
    rw [h.1]
    omega
  | m + 1, h, hm => by
    have g := AT_b (m := m) e hl ⟨h.1, fun j hj => h.2 j (by omega)⟩ (by omega)
    have k := h.2 m (by omega)
    have l := hl m (by omega)
    rw [e] at k
    omega

set_option maxRecDepth 20000 in
set_option maxHeartbeats 4000000 in
theorem c_findPlaces_at_9 {X : jX} {d : Nat} {c0 c1 : jC} {G : Nat → Int} {A : Nat → Nat → Int} {T : jH} {st : Int} (hd : 1 ≤ d + 1) (hW : Wk G A) (e_st : G 70 = st) (p_0 : 0 ≤ st) (p_1 : st ≤ 7000) (p_2 : LN A (st)) : ∀ (m : Nat) (L : jL) (Gx : Nat → Int) (Ax : Nat → Nat → Int) (kk : Int), (st - kk).toNat = m → jGet L 0 = some (.ref 66) → jGet L 1 = some (.int (i32 kk)) → Wk Gx Ax → Fr [] [49] G A Gx Ax → Gx 70 = st → ((-2147483648 : Int) ≤ kk ∧ kk ≤ 2147483647) → (0 ≤ kk) → (kk ≤ st) → (AT Ax (kk)) → wj X d jm361 (9, L, [], rV c0 c1 Gx Ax T) (fun o V_q => ∃ (G_q : Nat → Int) (A_q : Nat → Nat → Int) (st2 : Int), V_q = rV c0 c1 G_q A_q T ∧ o = .inl none ∧ Wk G_q A_q ∧ Fr [] [49] G A G_q A_q ∧ G_q 70 = st2 ∧ (st2 = st) ∧ (AT A_q (st)) ∧ True) := by
  have hF0 : Fr [] [49] G A G A := Fr_rf
  have b_st : (-2147483648 : Int) ≤ st ∧ st ≤ 2147483647 := e_st ▸ hW.1 70
  intro m
  induction m using Nat.strongRecOn with
  | ind m ih9 =>
    intro L Gx Ax kk hm gL_0 gL_1 hWx hFx fx_70 rx_kk iv_0 iv_1 iv_2
    refine jx_ld (pc_q := 10) (l_q := L) (st_q := [.int (i32 (kk))]) rfl (jl_iloadn gL_1) ?_
    refine jx_ld (pc_q := 11) (l_q := L) (st_q := [.ref 66, .int (i32 (kk))]) rfl (jl_aloadn gL_0) ?_
    refine jr_get (pc_q := 14) (i := 70) (v := .int (i32 (st))) rfl rfl (by decide) (rFv_eq (by decide) (show Gx 70 = st from (fx_70))) rfl ?_
    refine jx_icmp_ge (pc_q := 17) (tg := 44) rfl rfl rfl (Int.le_trans (by decide : (-2147483648 : Int) ≤ -2147483648) rx_kk.1) (Int.le_trans rx_kk.2 (by decide : (2147483647 : Int) ≤ 2147483647)) (Int.le_trans (by decide : (-2147483648 : Int) ≤ -2147483648) b_st.1) (Int.le_trans b_st.2 (by decide : (2147483647 : Int) ≤ 2147483647)) (fun h1 => ?_) (fun h1 => ?_)
    · have _q := h1
      refine jx_rt (v := none) rfl rfl rfl rfl rfl rfl ?_
      exact ⟨_, _, st, rfl, rfl, hWx, hFx, (fx_70), by omega, (AT_k (by omega) iv_2), trivial⟩
    · have _q := h1
      refine jx_ld (pc_q := 18) (l_q := L) (st_q := [.ref 66]) rfl (jl_aloadn gL_0) ?_
      have hln := p_2 (kk).toNat (by omega); have hab := AT_b (m := (kk).toNat) (hFx.2 48 rfl) p_2 (by rw [show (((kk).toNat : Nat) : Int) = kk by omega]; exact iv_2) (by omega)
      refine jr_get (pc_q := 21) (i := 76) (v := .ref 116) rfl rfl (by decide) rfl rfl ?_
      refine jx_ld (pc_q := 22) (l_q := L) (st_q := [.int (i32 (kk)), .ref 116]) rfl (jl_iloadn gL_1) ?_
      refine jx_ar (pc_q := 23) (st_q := [.int (i32 (1)), .int (i32 (kk)), .ref 116]) rfl rfl rfl rfl ?_
      refine jx_add (pc_q := 24) rfl rfl ?_
      refine jx_ld (pc_q := 25) (l_q := L) (st_q := [.ref 66, .int (i32 ((kk + 1))), .ref 116]) rfl (jl_aloadn gL_0) ?_
      refine jr_get (pc_q := 28) (i := 76) (v := .ref 116) rfl rfl (by decide) rfl rfl ?_
      refine jx_ld (pc_q := 29) (l_q := L) (st_q := [.int (i32 (kk)), .ref 116, .int (i32 ((kk + 1))), .ref 116]) rfl (jl_iloadn gL_1) ?_
      have b2 : (-2147483648 : Int) ≤ Ax 49 (kk).toNat ∧ Ax 49 (kk).toNat ≤ 2147483647 := hWx.2 49 _
      refine jr_ldv (pc_q := 30) (i := 49) (m := 7001) (z := kk) (y := Ax 49 (kk).toNat) rfl (by decide) rfl (by decide) (by omega) (by omega) rfl (show Ax 49 (kk).toNat = Ax 49 (kk).toNat from rfl) ?_
      refine jx_ld (pc_q := 31) (l_q := L) (st_q := [.ref 66, .int (i32 (Ax 49 (kk).toNat)), .int (i32 ((kk + 1))), .ref 116]) rfl (jl_aloadn gL_0) ?_
      refine jr_get (pc_q := 34) (i := 75) (v := .ref 115) rfl rfl (by decide) rfl rfl ?_
      refine jx_ld (pc_q := 35) (l_q := L) (st_q := [.int (i32 (kk)), .ref 115, .int (i32 (Ax 49 (kk).toNat)), .int (i32 ((kk + 1))), .ref 116]) rfl (jl_iloadn gL_1) ?_
      have b3 : (-2147483648 : Int) ≤ A 48 (kk).toNat ∧ A 48 (kk).toNat ≤ 2147483647 := hW.2 48 _
      refine jr_ldv (pc_q := 36) (i := 48) (m := 7000) (z := kk) (y := A 48 (kk).toNat) rfl (by decide) rfl (by decide) (by omega) (by omega) rfl (show Ax 48 (kk).toNat = A 48 (kk).toNat from (congrFun (hFx.2 48 rfl) _)) ?_
      refine jx_add (pc_q := 37) rfl rfl ?_
      refine jr_st (pc_q := 38) (i := 49) (m := 7001) (z := (kk + 1)) (y := (Ax 49 (kk).toNat + A 48 (kk).toNat)) rfl (by decide) rfl (by decide) (by omega) (by omega) rfl ?_
      have hW5 : Wk Gx (uA Ax 49 ((kk + 1)).toNat ((Ax 49 (kk).toNat + A 48 (kk).toNat))) := Wk_a hWx (show (-2147483648 : Int) ≤ (Ax 49 (kk).toNat + A 48 (kk).toNat) by omega) (show (Ax 49 (kk).toNat + A 48 (kk).toNat) ≤ (2147483647 : Int) by omega)
      have hF6 := Fr_a (z := (Ax 49 (kk).toNat + A 48 (kk).toNat)) (k := 49) (n := ((kk + 1)).toNat) hFx (by decide)
      obtain ⟨A4, eA4⟩ : ∃ q, q = uA Ax 49 ((kk + 1)).toNat ((Ax 49 (kk).toNat + A 48 (kk).toNat)) := ⟨_, rfl⟩
      rw [← eA4]
      rw [← eA4] at hW5 hF6
      have q7 : A4 49 ((kk + 1)).toNat = (Ax 49 (kk).toNat + A 48 (kk).toNat) := by rw [eA4]; exact uA_eq
      refine jx_inc (pc_q := 41) (l_q := jSto1 L 1 (.int (i32 ((kk + (1)))))) (x := kk) rfl gL_1 (by decide) rfl rfl ?_
      obtain ⟨L8, eL8⟩ : ∃ q, q = jSto1 L 1 (.int (i32 ((kk + (1))))) := ⟨_, rfl⟩
      rw [← eL8]
      have gL8_0 : jGet L8 0 = some (.ref 66) := eL8 ▸ jg_ne (by decide) gL_0 rfl
      have gL8_1 : jGet L8 1 = some (.int (i32 ((kk + (1))))) := eL8 ▸ jg_eq
      refine jx_go (tg := 9) rfl rfl ?_
      exact ih9 _ (by omega) L8 Gx A4 ((kk + (1))) rfl gL8_0 gL8_1 hW5 hF6 ((fx_70)) (by omega) (by omega) (by omega) ((AT_nx iv_2 eA4 (by omega) (by omega) (by omega) (show Ax 49 (kk).toNat = Ax 49 (kk).toNat from rfl) (show Ax 48 (kk).toNat = A 48 (kk).toNat from (congrFun (hFx.2 48 rfl) _)) (by omega)))
set_option maxRecDepth 20000 in
set_option maxHeartbeats 4000000 in
theorem c_findPlaces {X : jX} {dd : Nat} {c0 c1 : jC} {G : Nat → Int} {A : Nat → Nat → Int} {T : jH} {st : Int} (hd : 1 ≤ dd) (hW : Wk G A) (e_st : G 70 = st) (p_0 : 0 ≤ st) (p_1 : st ≤ 7000) (p_2 : LN A (st)) : wk X dd 361 [.ref 66] (rV c0 c1 G A T) (fun o V_q => ∃ (G_q : Nat → Int) (A_q : Nat → Nat → Int) (st2 : Int), V_q = rV c0 c1 G_q A_q T ∧ o = .inl none ∧ Wk G_q A_q ∧ Fr [] [49] G A G_q A_q ∧ G_q 70 = st2 ∧ (st2 = st) ∧ (AT A_q (st)) ∧ True) := by
  obtain ⟨d, rfl⟩ : ∃ d, dd = d + 1 := ⟨dd - 1, by omega⟩
  refine wk_of (e := jm361) rfl (Nat.le_of_ble_eq_true rfl) ?_
  show wj X d jm361 (0, [(0, .ref 66)], [], rV c0 c1 G A T) _
  have hF0 : Fr [] [49] G A G A := Fr_rf
  have b_st : (-2147483648 : Int) ≤ st ∧ st ≤ 2147483647 := e_st ▸ hW.1 70
  refine jx_ld (pc_q := 1) (l_q := [(0, .ref 66)]) (st_q := [.ref 66]) rfl (jl_aloadn rfl) ?_
  refine jr_get (pc_q := 4) (i := 76) (v := .ref 116) rfl rfl (by decide) rfl rfl ?_
  refine jx_ar (pc_q := 5) (st_q := [.int (i32 (0)), .ref 116]) rfl rfl rfl rfl ?_
  refine jx_ar (pc_q := 6) (st_q := [.int (i32 (0)), .int (i32 (0)), .ref 116]) rfl rfl rfl rfl ?_
  refine jr_st (pc_q := 7) (i := 49) (m := 7001) (z := (0 : Int)) (y := 0) rfl (by decide) rfl (by decide) (by omega) (by omega) rfl ?_
  have hW10 : Wk G (uA A 49 ((0 : Int)).toNat (0)) := Wk_a hW (show (-2147483648 : Int) ≤ 0 by omega) (show 0 ≤ (2147483647 : Int) by omega)
  have hF11 := Fr_a (z := 0) (k := 49) (n := ((0 : Int)).toNat) hF0 (by decide)
  obtain ⟨A9, eA9⟩ : ∃ q, q = uA A 49 ((0 : Int)).toNat (0) := ⟨_, rfl⟩
  rw [← eA9]
  rw [← eA9] at hW10 hF11
  have q12 : A9 49 ((0 : Int)).toNat = 0 := by rw [eA9]; exact uA_eq
  refine jx_ar (pc_q := 8) (st_q := [.int (i32 (0))]) rfl rfl rfl rfl ?_
  refine jx_ld (pc_q := 9) (l_q := jSto1 [(0, .ref 66)] 1 (.int (i32 (0)))) (st_q := []) rfl rfl ?_
  obtain ⟨L13, eL13⟩ : ∃ q, q = jSto1 [(0, .ref 66)] 1 (.int (i32 (0))) := ⟨_, rfl⟩
  rw [← eL13]
  have gL13_0 : jGet L13 0 = some (.ref 66) := eL13 ▸ jg_ne (by decide) (rfl : jGet [(0, .ref 66)] 0 = some (.ref 66)) rfl
  have gL13_1 : jGet L13 1 = some (.int (i32 (0))) := eL13 ▸ jg_eq
  exact c_findPlaces_at_9 (X := X) (d := d) (c0 := c0) (c1 := c1) (G := G) (A := A) (T := T) (st := st) (hd := hd) (hW := hW) (e_st := e_st) (p_0 := p_0) (p_1 := p_1) (p_2 := p_2) _ L13 G A9 (0) rfl gL13_0 gL13_1 hW10 hF11 ((e_st)) (by omega) (by omega) (by omega) ((AT_0 eA9 rfl))
