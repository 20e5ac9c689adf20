theorem AT_c {A : Nat → Nat → Int} {n z : Int} (h : AT A n) (hl : LN A n) (h0 : 0 ≤ z) (hz : z ≤ n) : 0 ≤ A 49 z.toNat ∧ A 49 z.toNat ≤ 8 * z := by
  have := AT_b (A := A) (A1 := A) (m := z.toNat) rfl hl ⟨h.1, fun j hj => h.2 j (by omega)⟩ (by omega)
  omega
/-- the labels of the steps before n lead to steps -/
def LBs (A : Nat → Nat → Int) (n : Int) : Prop := ∀ j : Nat, (j : Int) < n → 0 ≤ A 46 j ∧ A 46 j ≤ 19999 ∧ 0 ≤ A 47 j ∧ A 47 j ≤ 19999 ∧ 0 ≤ A 50 (A 46 j).toNat ∧ A 50 (A 46 j).toNat ≤ n ∧ 0 ≤ A 50 (A 47 j).toNat ∧ A 50 (A 47 j).toNat ≤ n
/-- the way of step k -/
def wy (A : Nat → Nat → Int) (k : Int) : Int := A 49 (A 50 (A 46 k.toNat).toNat).toNat - (if A 47 k.toNat = 0 then A 49 (k + 1).toNat else A 49 (A 50 (A 47 k.toNat).toNat).toNat)
theorem wy_0 {A : Nat → Nat → Int} {k : Int} (h : A 47 k.toNat = 0) : wy A k = A 49 (A 50 (A 46 k.toNat).toNat).toNat - A 49 (k + 1).toNat := by
  unfold wy
  rw [if_pos h]
theorem wy_1 {A : Nat → Nat → Int} {k : Int} (h : A 47 k.toNat ≠ 0) : wy A k = A 49 (A 50 (A 46 k.toNat).toNat).toNat - A 49 (A 50 (A 47 k.toNat).toNat).toNat := by
  unfold wy
  rw [if_neg h]

set_option maxRecDepth 20000 in
set_option maxHeartbeats 4000000 in
theorem c_wayOf {X : jX} {dd : Nat} {c0 c1 : jC} {G : Nat → Int} {A : Nat → Nat → Int} {T : jH} {k : Int} {st : Int} (hd : 1 ≤ dd) (hW : Wk G A) (e_st : G 70 = st) (h_k : (-2147483648 : Int) ≤ k ∧ k ≤ 2147483647) (p_0 : 0 ≤ st) (p_1 : st ≤ 7000) (p_2 : LN A (st)) (p_3 : AT A (st)) (p_4 : LBs A (st)) (p_5 : 0 ≤ k) (p_6 : k < st) : wk X dd 362 [.ref 66, .int (i32 k)] (rV c0 c1 G A T) (fun o V' => ∃ (r : Int), V' = rV c0 c1 G A T ∧ o = .inl (some (.int (i32 r))) ∧ ((-2147483648 : Int) ≤ r ∧ r ≤ 2147483647) ∧ (r = wy A k) ∧ (-56000 ≤ r) ∧ (r ≤ 56000) ∧ True) := by
  obtain ⟨d, rfl⟩ : ∃ d, dd = d + 1 := ⟨dd - 1, by omega⟩
  refine wk_of (e := jm362) rfl (Nat.le_of_ble_eq_true rfl) ?_
  show wj X d jm362 (0, [(0, .ref 66), (1, .int (i32 (k)))], [], rV c0 c1 G A T) _
  have b_st : (-2147483648 : Int) ≤ st ∧ st ≤ 2147483647 := e_st ▸ hW.1 70
  have hlb := p_4 (k).toNat (by omega)
  have hb1 := AT_c p_3 p_2 (z := A 50 (A 46 (k).toNat).toNat) (by omega) (by omega)
  have hb2 := AT_c p_3 p_2 (z := A 50 (A 47 (k).toNat).toNat) (by omega) (by omega)
  have hb3 := AT_c p_3 p_2 (z := (k + 1)) (by omega) (by omega)
  refine jx_ld (pc' := 1) (l' := [(0, .ref 66), (1, .int (i32 (k)))]) (st' := [.ref 66]) rfl (jl_aloadn rfl) ?_
  refine jr_get (pc' := 4) (i := 74) (v := .ref 114) rfl rfl (by decide) rfl rfl ?_
  refine jx_ld (pc' := 5) (l' := [(0, .ref 66), (1, .int (i32 (k)))]) (st' := [.int (i32 (k)), .ref 114]) rfl (jl_iloadn rfl) ?_
  have b1 : (-2147483648 : Int) ≤ A 47 (k).toNat ∧ A 47 (k).toNat ≤ 2147483647 := hW.2 47 _
  refine jr_ldv (pc' := 6) (i := 47) (m := 7000) (z := k) (y := A 47 (k).toNat) rfl (by decide) rfl (by decide) (by omega) (by omega) rfl (show A 47 (k).toNat = A 47 (k).toNat from rfl) ?_
  refine jx_if_ne (pc' := 9) (tg := 20) rfl rfl rfl (Int.le_trans (by decide : (-2147483648 : Int) ≤ -2147483648) b1.1) (Int.le_trans b1.2 (by decide : (2147483647 : Int) ≤ 2147483647)) (fun h2 => ?_) (fun h2 => ?_)
  · have _q := h2
    have hwy := wy_1 (A := A) (k := k) (by omega)
    refine jx_ld (pc' := 21) (l' := [(0, .ref 66), (1, .int (i32 (k)))]) (st' := [.ref 66]) rfl (jl_aloadn rfl) ?_
    refine jr_get (pc' := 24) (i := 76) (v := .ref 116) rfl rfl (by decide) rfl rfl ?_
    refine jx_ld (pc' := 25) (l' := [(0, .ref 66), (1, .int (i32 (k)))]) (st' := [.ref 66, .ref 116]) rfl (jl_aloadn rfl) ?_
    refine jr_get (pc' := 28) (i := 78) (v := .ref 117) rfl rfl (by decide) rfl rfl ?_
    refine jx_ld (pc' := 29) (l' := [(0, .ref 66), (1, .int (i32 (k)))]) (st' := [.ref 66, .ref 117, .ref 116]) rfl (jl_aloadn rfl) ?_
    refine jr_get (pc' := 32) (i := 74) (v := .ref 114) rfl rfl (by decide) rfl rfl ?_
    refine jx_ld (pc' := 33) (l' := [(0, .ref 66), (1, .int (i32 (k)))]) (st' := [.int (i32 (k)), .ref 114, .ref 117, .ref 116]) rfl (jl_iloadn rfl) ?_
    refine jr_ldv (pc' := 34) (i := 47) (m := 7000) (z := k) (y := A 47 (k).toNat) rfl (by decide) rfl (by decide) (by omega) (by omega) rfl (show A 47 (k).toNat = A 47 (k).toNat from rfl) ?_
    have b3 : (-2147483648 : Int) ≤ A 50 (A 47 (k).toNat).toNat ∧ A 50 (A 47 (k).toNat).toNat ≤ 2147483647 := hW.2 50 _
    refine jr_ldv (pc' := 35) (i := 50) (m := 20000) (z := A 47 (k).toNat) (y := A 50 (A 47 (k).toNat).toNat) rfl (by decide) rfl (by decide) (by omega) (by omega) rfl (show A 50 (A 47 (k).toNat).toNat = A 50 (A 47 (k).toNat).toNat from rfl) ?_
    have b4 : (-2147483648 : Int) ≤ A 49 (A 50 (A 47 (k).toNat).toNat).toNat ∧ A 49 (A 50 (A 47 (k).toNat).toNat).toNat ≤ 2147483647 := hW.2 49 _
    refine jr_ldv (pc' := 36) (i := 49) (m := 7001) (z := A 50 (A 47 (k).toNat).toNat) (y := A 49 (A 50 (A 47 (k).toNat).toNat).toNat) rfl (by decide) rfl (by decide) (by omega) (by omega) rfl (show A 49 (A 50 (A 47 (k).toNat).toNat).toNat = A 49 (A 50 (A 47 (k).toNat).toNat).toNat from rfl) ?_
    refine jx_ld (pc' := 37) (l' := jSto1 [(0, .ref 66), (1, .int (i32 (k)))] 2 (.int (i32 (A 49 (A 50 (A 47 (k).toNat).toNat).toNat)))) (st' := []) rfl rfl ?_
    obtain ⟨L5, eL5⟩ : ∃ q, q = jSto1 [(0, .ref 66), (1, .int (i32 (k)))] 2 (.int (i32 (A 49 (A 50 (A 47 (k).toNat).toNat).toNat))) := ⟨_, rfl⟩
    rw [← eL5]
    have gL5_0 : jGet L5 0 = some (.ref 66) := eL5 ▸ jg_ne (by decide) (rfl : jGet [(0, .ref 66), (1, .int (i32 (k)))] 0 = some (.ref 66)) rfl
    have gL5_1 : jGet L5 1 = some (.int (i32 (k))) := eL5 ▸ jg_ne (by decide) (rfl : jGet [(0, .ref 66), (1, .int (i32 (k)))] 1 = some (.int (i32 (k)))) rfl
    have gL5_2 : jGet L5 2 = some (.int (i32 (A 49 (A 50 (A 47 (k).toNat).toNat).toNat))) := eL5 ▸ jg_eq
    refine jx_ld (pc' := 38) (l' := L5) (st' := [.ref 66]) rfl (jl_aloadn gL5_0) ?_
    refine jr_get (pc' := 41) (i := 76) (v := .ref 116) rfl rfl (by decide) rfl rfl ?_
    refine jx_ld (pc' := 42) (l' := L5) (st' := [.ref 66, .ref 116]) rfl (jl_aloadn gL5_0) ?_
    refine jr_get (pc' := 45) (i := 78) (v := .ref 117) rfl rfl (by decide) rfl rfl ?_
    refine jx_ld (pc' := 46) (l' := L5) (st' := [.ref 66, .ref 117, .ref 116]) rfl (jl_aloadn gL5_0) ?_
    refine jr_get (pc' := 49) (i := 73) (v := .ref 113) rfl rfl (by decide) rfl rfl ?_
    refine jx_ld (pc' := 50) (l' := L5) (st' := [.int (i32 (k)), .ref 113, .ref 117, .ref 116]) rfl (jl_iloadn gL5_1) ?_
    have b6 : (-2147483648 : Int) ≤ A 46 (k).toNat ∧ A 46 (k).toNat ≤ 2147483647 := hW.2 46 _
    refine jr_ldv (pc' := 51) (i := 46) (m := 7000) (z := k) (y := A 46 (k).toNat) rfl (by decide) rfl (by decide) (by omega) (by omega) rfl (show A 46 (k).toNat = A 46 (k).toNat from rfl) ?_
    have b7 : (-2147483648 : Int) ≤ A 50 (A 46 (k).toNat).toNat ∧ A 50 (A 46 (k).toNat).toNat ≤ 2147483647 := hW.2 50 _
    refine jr_ldv (pc' := 52) (i := 50) (m := 20000) (z := A 46 (k).toNat) (y := A 50 (A 46 (k).toNat).toNat) rfl (by decide) rfl (by decide) (by omega) (by omega) rfl (show A 50 (A 46 (k).toNat).toNat = A 50 (A 46 (k).toNat).toNat from rfl) ?_
    have b8 : (-2147483648 : Int) ≤ A 49 (A 50 (A 46 (k).toNat).toNat).toNat ∧ A 49 (A 50 (A 46 (k).toNat).toNat).toNat ≤ 2147483647 := hW.2 49 _
    refine jr_ldv (pc' := 53) (i := 49) (m := 7001) (z := A 50 (A 46 (k).toNat).toNat) (y := A 49 (A 50 (A 46 (k).toNat).toNat).toNat) rfl (by decide) rfl (by decide) (by omega) (by omega) rfl (show A 49 (A 50 (A 46 (k).toNat).toNat).toNat = A 49 (A 50 (A 46 (k).toNat).toNat).toNat from rfl) ?_
    refine jx_ld (pc' := 54) (l' := L5) (st' := [.int (i32 (A 49 (A 50 (A 47 (k).toNat).toNat).toNat)), .int (i32 (A 49 (A 50 (A 46 (k).toNat).toNat).toNat))]) rfl (jl_iloadn gL5_2) ?_
    refine jx_sub (pc' := 55) rfl rfl ?_
    refine jx_rt (v := some (.int (i32 ((A 49 (A 50 (A 46 (k).toNat).toNat).toNat - A 49 (A 50 (A 47 (k).toNat).toNat).toNat))))) rfl rfl rfl rfl rfl rfl ?_
    exact ⟨_, rfl, rfl, by omega, by omega, by omega, by omega, trivial⟩
  · have _q := h2
    have hwy := wy_0 (A := A) (k := k) (by omega)
    refine jx_ld (pc' := 10) (l' := [(0, .ref 66), (1, .int (i32 (k)))]) (st' := [.ref 66]) rfl (jl_aloadn rfl) ?_
    refine jr_get (pc' := 13) (i := 76) (v := .ref 116) rfl rfl (by decide) rfl rfl ?_
    refine jx_ld (pc' := 14) (l' := [(0, .ref 66), (1, .int (i32 (k)))]) (st' := [.int (i32 (k)), .ref 116]) rfl (jl_iloadn rfl) ?_
    refine jx_ar (pc' := 15) (st' := [.int (i32 (1)), .int (i32 (k)), .ref 116]) rfl rfl rfl rfl ?_
    refine jx_add (pc' := 16) rfl rfl ?_
    have b9 : (-2147483648 : Int) ≤ A 49 ((k + 1)).toNat ∧ A 49 ((k + 1)).toNat ≤ 2147483647 := hW.2 49 _
    refine jr_ldv (pc' := 17) (i := 49) (m := 7001) (z := (k + 1)) (y := A 49 ((k + 1)).toNat) rfl (by decide) rfl (by decide) (by omega) (by omega) rfl (show A 49 ((k + 1)).toNat = A 49 ((k + 1)).toNat from rfl) ?_
    refine jx_go (tg := 36) rfl rfl ?_
    refine jx_ld (pc' := 37) (l' := jSto1 [(0, .ref 66), (1, .int (i32 (k)))] 2 (.int (i32 (A 49 ((k + 1)).toNat)))) (st' := []) rfl rfl ?_
    obtain ⟨L10, eL10⟩ : ∃ q, q = jSto1 [(0, .ref 66), (1, .int (i32 (k)))] 2 (.int (i32 (A 49 ((k + 1)).toNat))) := ⟨_, rfl⟩
    rw [← eL10]
    have gL10_0 : jGet L10 0 = some (.ref 66) := eL10 ▸ jg_ne (by decide) (rfl : jGet [(0, .ref 66), (1, .int (i32 (k)))] 0 = some (.ref 66)) rfl
    have gL10_1 : jGet L10 1 = some (.int (i32 (k))) := eL10 ▸ jg_ne (by decide) (rfl : jGet [(0, .ref 66), (1, .int (i32 (k)))] 1 = some (.int (i32 (k)))) rfl
    have gL10_2 : jGet L10 2 = some (.int (i32 (A 49 ((k + 1)).toNat))) := eL10 ▸ jg_eq
    refine jx_ld (pc' := 38) (l' := L10) (st' := [.ref 66]) rfl (jl_aloadn gL10_0) ?_
    refine jr_get (pc' := 41) (i := 76) (v := .ref 116) rfl rfl (by decide) rfl rfl ?_
    refine jx_ld (pc' := 42) (l' := L10) (st' := [.ref 66, .ref 116]) rfl (jl_aloadn gL10_0) ?_
    refine jr_get (pc' := 45) (i := 78) (v := .ref 117) rfl rfl (by decide) rfl rfl ?_
    refine jx_ld (pc' := 46) (l' := L10) (st' := [.ref 66, .ref 117, .ref 116]) rfl (jl_aloadn gL10_0) ?_
    refine jr_get (pc' := 49) (i := 73) (v := .ref 113) rfl rfl (by decide) rfl rfl ?_
    refine jx_ld (pc' := 50) (l' := L10) (st' := [.int (i32 (k)), .ref 113, .ref 117, .ref 116]) rfl (jl_iloadn gL10_1) ?_
    have b11 : (-2147483648 : Int) ≤ A 46 (k).toNat ∧ A 46 (k).toNat ≤ 2147483647 := hW.2 46 _
    refine jr_ldv (pc' := 51) (i := 46) (m := 7000) (z := k) (y := A 46 (k).toNat) rfl (by decide) rfl (by decide) (by omega) (by omega) rfl (show A 46 (k).toNat = A 46 (k).toNat from rfl) ?_
    have b12 : (-2147483648 : Int) ≤ A 50 (A 46 (k).toNat).toNat ∧ A 50 (A 46 (k).toNat).toNat ≤ 2147483647 := hW.2 50 _
    refine jr_ldv (pc' := 52) (i := 50) (m := 20000) (z := A 46 (k).toNat) (y := A 50 (A 46 (k).toNat).toNat) rfl (by decide) rfl (by decide) (by omega) (by omega) rfl (show A 50 (A 46 (k).toNat).toNat = A 50 (A 46 (k).toNat).toNat from rfl) ?_
    have b13 : (-2147483648 : Int) ≤ A 49 (A 50 (A 46 (k).toNat).toNat).toNat ∧ A 49 (A 50 (A 46 (k).toNat).toNat).toNat ≤ 2147483647 := hW.2 49 _
    refine jr_ldv (pc' := 53) (i := 49) (m := 7001) (z := A 50 (A 46 (k).toNat).toNat) (y := A 49 (A 50 (A 46 (k).toNat).toNat).toNat) rfl (by decide) rfl (by decide) (by omega) (by omega) rfl (show A 49 (A 50 (A 46 (k).toNat).toNat).toNat = A 49 (A 50 (A 46 (k).toNat).toNat).toNat from rfl) ?_
    refine jx_ld (pc' := 54) (l' := L10) (st' := [.int (i32 (A 49 ((k + 1)).toNat)), .int (i32 (A 49 (A 50 (A 46 (k).toNat).toNat).toNat))]) rfl (jl_iloadn gL10_2) ?_
    refine jx_sub (pc' := 55) rfl rfl ?_
    refine jx_rt (v := some (.int (i32 ((A 49 (A 50 (A 46 (k).toNat).toNat).toNat - A 49 ((k + 1)).toNat))))) rfl rfl rfl rfl rfl rfl ?_
    exact ⟨_, rfl, rfl, by omega, by omega, by omega, by omega, trivial⟩
