theorem LR_fr {C C_q : Nat → Nat → Int} {N k k_q : Int} (e44 : C_q 44 = C 44) (e46 : C_q 46 = C 46) (e47 : C_q 47 = C 47) (e50 : C_q 50 = C 50) (h : LR C N k k_q) : LR C_q N k k_q := fun j h1 h2 => by
  unfold LJ
  rw [e44, e46, e47, e50]
  exact h j h1 h2
/-- places lie in the code -/
def AB (A : Nat → Nat → Int) (n : Int) : Prop := ∀ j : Nat, (j : Int) ≤ n → 0 ≤ A 49 j ∧ A 49 j ≤ 56000
theorem AB_of {A : Nat → Nat → Int} {n : Int} (h : AT A n) (hl : LN A n) (hn : n ≤ 7000) : AB A n := fun j hj => by
  have := AT_c h hl (z := (j : Int)) (by omega) hj
  rw [show ((j : Int)).toNat = j by omega] at this
  omega
theorem AB_fr {A A_q : Nat → Nat → Int} {n : Int} (e : A_q 49 = A 49) (h : AB A n) : AB A_q n := fun j hj => by
  rw [e]
  exact h j hj
theorem LN_fr {A A_q : Nat → Nat → Int} {n : Int} (e : A_q 48 = A 48) (h : LN A n) : LN A_q n := fun j hj => by
  rw [e]
  exact h j hj
theorem LN_nx {A A_q : Nat → Nat → Int} {k k_q z v : Int} (h : LN A k) (e : A_q = uA A 48 z.toNat v) (h0 : 0 ≤ k) (hz : z = k) (hk : k_q = k + 1) (h1 : 1 ≤ v) (h2 : v ≤ 8) : LN A_q k_q := fun j hj => by
  subst e hz
  by_cases q : j = z.toNat
  · subst q
    rw [uA_eq]
    exact ⟨h1, h2⟩
  · rw [uA_ni q]
    exact h j (by omega)
theorem LN_st {A A_q : Nat → Nat → Int} {k z v : Int} (h : LN A k) (e : A_q = uA A 48 z.toNat v) (h1 : 1 ≤ v) (h2 : v ≤ 8) : LN A_q k := fun j hj => by
  subst e
  by_cases q : j = z.toNat
  · subst q
    rw [uA_eq]
    exact ⟨h1, h2⟩
  · rw [uA_ni q]
    exact h j hj
/-- a step's value goes into its length -/
def FI (A : Nat → Nat → Int) (n : Int) : Prop := ∀ j : Nat, (j : Int) < n → A 46 j ≤ 0 → NB (A 45 j) (A 48 j)
theorem FI_fr {A A_q : Nat → Nat → Int} {n : Int} (e45 : A_q 45 = A 45) (e46 : A_q 46 = A 46) (e : A_q 48 = A 48) (h : FI A n) : FI A_q n := fun j hj q => by
  rw [e46] at q
  rw [e45, e]
  exact h j hj q
theorem FI_nx {A A_q : Nat → Nat → Int} {k k_q z v : Int} (h : FI A k) (e : A_q = uA A 48 z.toNat v) (h0 : 0 ≤ k) (hz : z = k) (hk : k_q = k + 1) (hv : A 46 z.toNat ≤ 0 → NB (A 45 z.toNat) v) : FI A_q k_q := fun j hj q => by
  subst e hz
  rw [uA_ne (by decide)] at q
  rw [uA_ne (by decide)]
  by_cases w : j = z.toNat
  · subst w
    rw [uA_eq]
    exact hv q
  · rw [uA_ni w]
    exact h j (by omega) q
theorem FI_st {A A_q : Nat → Nat → Int} {k z v : Int} (h : FI A k) (e : A_q = uA A 48 z.toNat v) (hv : 0 < A 46 z.toNat) : FI A_q k := fun j hj q => by
  subst e
  rw [uA_ne (by decide)] at q
  rw [uA_ne (by decide)]
  by_cases w : j = z.toNat
  · subst w
    omega
  · rw [uA_ni w]
    exact h j hj q
/-- the lengths together -/
def sL (A : Nat → Nat → Int) : Nat → Int
  | 0 => 0
  | j + 1 => sL A j + A 48 j
theorem sL_fr {A A_q : Nat → Nat → Int} (e : A_q 48 = A 48) : ∀ {n : Nat}, sL A_q n = sL A n
  | 0 => rfl
  | n + 1 => by
    show sL A_q n + A_q 48 n = sL A n + A 48 n
    rw [sL_fr e, e]
theorem sL_b {A : Nat → Nat → Int} : ∀ {n : Nat}, LN A (n : Int) → 0 ≤ sL A n ∧ sL A n ≤ 8 * (n : Int)
  | 0, _ => ⟨Int.le_refl _, Int.le_refl _⟩
  | n + 1, h => by
    have := sL_b (A := A) (n := n) (fun j hj => h j (by omega))
    have := h n (by omega)
    show 0 ≤ sL A n + A 48 n ∧ sL A n + A 48 n ≤ _
    omega
theorem sL_st {A A_q : Nat → Nat → Int} {z : Nat} {v : Int} (e : A_q = uA A 48 z v) : ∀ {n : Nat}, sL A_q n = if z < n then sL A n - A 48 z + v else sL A n
  | 0 => by
    rw [if_neg (by omega)]
    rfl
  | n + 1 => by
    show sL A_q n + A_q 48 n = if z < n + 1 then sL A n + A 48 n - A 48 z + v else sL A n + A 48 n
    rw [sL_st e]
    by_cases q : z = n
    · subst q
      rw [if_neg (by omega), if_pos (by omega), e, uA_eq]
      omega
    · have : A_q 48 n = A 48 n := by
        rw [e]
        exact uA_ni (fun w => q w.symm)
      rw [this]
      by_cases w : z < n
      · rw [if_pos w, if_pos (by omega)]
        omega
      · rw [if_neg w, if_neg (by omega)]
def SE (A : Nat → Nat → Int) (n s : Int) : Prop := sL A n.toNat = s
theorem SE_b {A : Nat → Nat → Int} {n s : Int} (h : SE A n s) (hl : LN A n) (h0 : 0 ≤ n) : 0 ≤ s ∧ s ≤ 8 * n := by
  have := sL_b (A := A) (n := n.toNat) (fun j hj => hl j (by omega))
  unfold SE at h
  omega
theorem SE_fr {A A_q : Nat → Nat → Int} {n s : Int} (e : A_q 48 = A 48) (h : SE A n s) : SE A_q n s := (sL_fr e).trans h
theorem SE_st {A A_q : Nat → Nat → Int} {n s s_q z v x : Int} (e : A_q = uA A 48 z.toNat v) (h0 : 0 ≤ z) (hz : z < n) (hx : A 48 z.toNat = x) (h : SE A n s) (hs : s_q = s - x + v) : SE A_q n s_q := by
  unfold SE at h ⊢
  rw [sL_st e, if_pos (by omega), h, hx]
  exact hs.symm
theorem SE_ex {A : Nat → Nat → Int} {n : Int} : ∃ s, SE A n s := ⟨_, rfl⟩
/-- all is long enough: the first k steps; all -/
def FK (A : Nat → Nat → Int) (k n : Int) : Prop := AT A n ∧ ∀ j : Nat, (j : Int) < k → 0 < A 46 j → NB (wy A (j : Int)) (A 48 j)
theorem NB_mo {v r r' : Int} (h : NB v r) (h1 : r ≤ r') (h0 : 0 ≤ r) : NB v r' := by
  have m : ∀ a b : Nat, a ≤ b → 1 ≤ p16 a ∧ p16 a ≤ p16 b := fun a b hab => by
    induction b with
    | zero =>
      have : a = 0 := by omega
      subst this
      exact ⟨Int.le_refl _, Int.le_refl _⟩
    | succ b ih =>
      by_cases q : a = b + 1
      · subst q
        refine ⟨?_, Int.le_refl _⟩
        have : ∀ n, 1 ≤ p16 n := fun n => by
          induction n with
          | zero => exact Int.le_refl _
          | succ n ih => show 1 ≤ 16 * p16 n; omega
        exact this _
      · have := ih (by omega)
        refine ⟨this.1, ?_⟩
        show p16 a ≤ 16 * p16 b
        omega
  have := m r.toNat r'.toNat (by omega)
  obtain ⟨g1, g2, g3⟩ := h
  exact ⟨fun q => by have := g1 q; omega, by omega, by omega⟩
theorem FK_0 {A : Nat → Nat → Int} {k n : Int} (h : AT A n) (hk : k ≤ 0) : FK A k n := ⟨h, fun j hj => by omega⟩
theorem FK_n {A : Nat → Nat → Int} {k k_q n : Int} (h : FK A k n) (h0 : 0 ≤ k) (hk : k_q = k + 1) (q : A 46 k.toNat ≤ 0) : FK A k_q n := ⟨h.1, fun j hj w => by
  by_cases e : j = k.toNat
  · subst e
    omega
  · exact h.2 j (by omega) w⟩
theorem FK_w {A : Nat → Nat → Int} {k k_q n r x : Int} (h : FK A k n) (h0 : 0 ≤ k) (hk : k_q = k + 1) (hr : NB r x) (hw : r = wy A k) (hx : 0 ≤ x) (q48 : x ≤ A 48 k.toNat) : FK A k_q n := ⟨h.1, fun j hj w => by
  by_cases e : j = k.toNat
  · subst e
    rw [show ((k.toNat : Nat) : Int) = k by omega, ← hw]
    exact NB_mo hr q48 hx
  · exact h.2 j (by omega) w⟩
theorem LN_k {A : Nat → Nat → Int} {k k_q : Int} (e : k = k_q) (h : LN A k) : LN A k_q := e ▸ h
theorem FI_k {A : Nat → Nat → Int} {k k_q : Int} (e : k = k_q) (h : FI A k) : FI A k_q := e ▸ h
theorem FK_e {A : Nat → Nat → Int} {k k_q n : Int} (e : k = k_q) (h : FK A k n) : FK A k_q n := e ▸ h

set_option maxRecDepth 20000 in
set_option maxHeartbeats 4000000 in
theorem c_wayOf2 {X : jX} {dd : Nat} {c0 c1 : jC} {G : Nat → Int} {A : Nat → Nat → Int} {T : jH} {k : Int} {st : Int} (hd : 1 ≤ dd) (hW : Wk G A) (e_st : G 70 = st) (h_k : (-2147483648 : Int) ≤ k ∧ k ≤ 2147483647) (p_0 : 0 ≤ st) (p_1 : st ≤ 7000) (p_2 : AB A (st)) (p_3 : LR A (st) 0 (st)) (p_4 : 0 ≤ k) (p_5 : k < st) (p_6 : 0 < A 46 (k).toNat) : wk X dd 362 [.ref 66, .int (i32 k)] (rV c0 c1 G A T) (fun o V_q => ∃ (r : Int), V_q = rV c0 c1 G A T ∧ o = .inl (some (.int (i32 r))) ∧ ((-2147483648 : Int) ≤ r ∧ r ≤ 2147483647) ∧ (r = wy A k) ∧ (-56000 ≤ r) ∧ (r ≤ 56000) ∧ True) := by
  obtain ⟨d, rfl⟩ : ∃ d, dd = d + 1 := ⟨dd - 1, by omega⟩
  refine wk_of (e := jm362) rfl (Nat.le_of_ble_eq_true rfl) ?_
  show wj X d jm362 (0, [(0, .ref 66), (1, .int (i32 (k)))], [], rV c0 c1 G A T) _
  have b_st : (-2147483648 : Int) ≤ st ∧ st ≤ 2147483647 := e_st ▸ hW.1 70
  have hlb := (p_3 (k).toNat (by omega) (by omega)).2 p_6
  have hb1 := p_2 (A 50 (A 46 (k).toNat).toNat).toNat (by omega)
  have hb3 := p_2 (k + 1).toNat (by omega)
  refine jx_ld (pc_q := 1) (l_q := [(0, .ref 66), (1, .int (i32 (k)))]) (st_q := [.ref 66]) rfl (jl_aloadn rfl) ?_
  refine jr_get (pc_q := 4) (i := 74) (v := .ref 114) rfl rfl (by decide) rfl rfl ?_
  refine jx_ld (pc_q := 5) (l_q := [(0, .ref 66), (1, .int (i32 (k)))]) (st_q := [.int (i32 (k)), .ref 114]) rfl (jl_iloadn rfl) ?_
  have b1 : (-2147483648 : Int) ≤ A 47 (k).toNat ∧ A 47 (k).toNat ≤ 2147483647 := hW.2 47 _
  refine jr_ldv (pc_q := 6) (i := 47) (m := 7000) (z := k) (y := A 47 (k).toNat) rfl (by decide) rfl (by decide) (by omega) (by omega) rfl (show A 47 (k).toNat = A 47 (k).toNat from rfl) ?_
  refine jx_if_ne (pc_q := 9) (tg := 20) rfl rfl rfl (Int.le_trans (by decide : (-2147483648 : Int) ≤ -2147483648) b1.1) (Int.le_trans b1.2 (by decide : (2147483647 : Int) ≤ 2147483647)) (fun h2 => ?_) (fun h2 => ?_)
  · have _q := h2
    have hwy := wy_1 (A := A) (k := k) (by omega); have hl2 := hlb.2.2.2 (by omega); have hb2 := p_2 (A 50 (A 47 (k).toNat).toNat).toNat (by omega)
    refine jx_ld (pc_q := 21) (l_q := [(0, .ref 66), (1, .int (i32 (k)))]) (st_q := [.ref 66]) rfl (jl_aloadn rfl) ?_
    refine jr_get (pc_q := 24) (i := 76) (v := .ref 116) rfl rfl (by decide) rfl rfl ?_
    refine jx_ld (pc_q := 25) (l_q := [(0, .ref 66), (1, .int (i32 (k)))]) (st_q := [.ref 66, .ref 116]) rfl (jl_aloadn rfl) ?_
    refine jr_get (pc_q := 28) (i := 78) (v := .ref 117) rfl rfl (by decide) rfl rfl ?_
    refine jx_ld (pc_q := 29) (l_q := [(0, .ref 66), (1, .int (i32 (k)))]) (st_q := [.ref 66, .ref 117, .ref 116]) rfl (jl_aloadn rfl) ?_
    refine jr_get (pc_q := 32) (i := 74) (v := .ref 114) rfl rfl (by decide) rfl rfl ?_
    refine jx_ld (pc_q := 33) (l_q := [(0, .ref 66), (1, .int (i32 (k)))]) (st_q := [.int (i32 (k)), .ref 114, .ref 117, .ref 116]) rfl (jl_iloadn rfl) ?_
    refine jr_ldv (pc_q := 34) (i := 47) (m := 7000) (z := k) (y := A 47 (k).toNat) rfl (by decide) rfl (by decide) (by omega) (by omega) rfl (show A 47 (k).toNat = A 47 (k).toNat from rfl) ?_
    have b3 : (-2147483648 : Int) ≤ A 50 (A 47 (k).toNat).toNat ∧ A 50 (A 47 (k).toNat).toNat ≤ 2147483647 := hW.2 50 _
    refine jr_ldv (pc_q := 35) (i := 50) (m := 20000) (z := A 47 (k).toNat) (y := A 50 (A 47 (k).toNat).toNat) rfl (by decide) rfl (by decide) (by omega) (by omega) rfl (show A 50 (A 47 (k).toNat).toNat = A 50 (A 47 (k).toNat).toNat from rfl) ?_
    have b4 : (-2147483648 : Int) ≤ A 49 (A 50 (A 47 (k).toNat).toNat).toNat ∧ A 49 (A 50 (A 47 (k).toNat).toNat).toNat ≤ 2147483647 := hW.2 49 _
    refine jr_ldv (pc_q := 36) (i := 49) (m := 7001) (z := A 50 (A 47 (k).toNat).toNat) (y := A 49 (A 50 (A 47 (k).toNat).toNat).toNat) rfl (by decide) rfl (by decide) (by omega) (by omega) rfl (show A 49 (A 50 (A 47 (k).toNat).toNat).toNat = A 49 (A 50 (A 47 (k).toNat).toNat).toNat from rfl) ?_
    refine jx_ld (pc_q := 37) (l_q := jSto1 [(0, .ref 66), (1, .int (i32 (k)))] 2 (.int (i32 (A 49 (A 50 (A 47 (k).toNat).toNat).toNat)))) (st_q := []) rfl rfl ?_
    obtain ⟨L5, eL5⟩ : ∃ q, q = jSto1 [(0, .ref 66), (1, .int (i32 (k)))] 2 (.int (i32 (A 49 (A 50 (A 47 (k).toNat).toNat).toNat))) := ⟨_, rfl⟩
    rw [← eL5]
    have gL5_0 : jGet L5 0 = some (.ref 66) := eL5 ▸ jg_ne (by decide) (rfl : jGet [(0, .ref 66), (1, .int (i32 (k)))] 0 = some (.ref 66)) rfl
    have gL5_1 : jGet L5 1 = some (.int (i32 (k))) := eL5 ▸ jg_ne (by decide) (rfl : jGet [(0, .ref 66), (1, .int (i32 (k)))] 1 = some (.int (i32 (k)))) rfl
    have gL5_2 : jGet L5 2 = some (.int (i32 (A 49 (A 50 (A 47 (k).toNat).toNat).toNat))) := eL5 ▸ jg_eq
    refine jx_ld (pc_q := 38) (l_q := L5) (st_q := [.ref 66]) rfl (jl_aloadn gL5_0) ?_
    refine jr_get (pc_q := 41) (i := 76) (v := .ref 116) rfl rfl (by decide) rfl rfl ?_
    refine jx_ld (pc_q := 42) (l_q := L5) (st_q := [.ref 66, .ref 116]) rfl (jl_aloadn gL5_0) ?_
    refine jr_get (pc_q := 45) (i := 78) (v := .ref 117) rfl rfl (by decide) rfl rfl ?_
    refine jx_ld (pc_q := 46) (l_q := L5) (st_q := [.ref 66, .ref 117, .ref 116]) rfl (jl_aloadn gL5_0) ?_
    refine jr_get (pc_q := 49) (i := 73) (v := .ref 113) rfl rfl (by decide) rfl rfl ?_
    refine jx_ld (pc_q := 50) (l_q := L5) (st_q := [.int (i32 (k)), .ref 113, .ref 117, .ref 116]) rfl (jl_iloadn gL5_1) ?_
    have b6 : (-2147483648 : Int) ≤ A 46 (k).toNat ∧ A 46 (k).toNat ≤ 2147483647 := hW.2 46 _
    refine jr_ldv (pc_q := 51) (i := 46) (m := 7000) (z := k) (y := A 46 (k).toNat) rfl (by decide) rfl (by decide) (by omega) (by omega) rfl (show A 46 (k).toNat = A 46 (k).toNat from rfl) ?_
    have b7 : (-2147483648 : Int) ≤ A 50 (A 46 (k).toNat).toNat ∧ A 50 (A 46 (k).toNat).toNat ≤ 2147483647 := hW.2 50 _
    refine jr_ldv (pc_q := 52) (i := 50) (m := 20000) (z := A 46 (k).toNat) (y := A 50 (A 46 (k).toNat).toNat) rfl (by decide) rfl (by decide) (by omega) (by omega) rfl (show A 50 (A 46 (k).toNat).toNat = A 50 (A 46 (k).toNat).toNat from rfl) ?_
    have b8 : (-2147483648 : Int) ≤ A 49 (A 50 (A 46 (k).toNat).toNat).toNat ∧ A 49 (A 50 (A 46 (k).toNat).toNat).toNat ≤ 2147483647 := hW.2 49 _
    refine jr_ldv (pc_q := 53) (i := 49) (m := 7001) (z := A 50 (A 46 (k).toNat).toNat) (y := A 49 (A 50 (A 46 (k).toNat).toNat).toNat) rfl (by decide) rfl (by decide) (by omega) (by omega) rfl (show A 49 (A 50 (A 46 (k).toNat).toNat).toNat = A 49 (A 50 (A 46 (k).toNat).toNat).toNat from rfl) ?_
    refine jx_ld (pc_q := 54) (l_q := L5) (st_q := [.int (i32 (A 49 (A 50 (A 47 (k).toNat).toNat).toNat)), .int (i32 (A 49 (A 50 (A 46 (k).toNat).toNat).toNat))]) rfl (jl_iloadn gL5_2) ?_
    refine jx_sub (pc_q := 55) rfl rfl ?_
    refine jx_rt (v := some (.int (i32 ((A 49 (A 50 (A 46 (k).toNat).toNat).toNat - A 49 (A 50 (A 47 (k).toNat).toNat).toNat))))) rfl rfl rfl rfl rfl rfl ?_
    exact ⟨_, rfl, rfl, by omega, by omega, by omega, by omega, trivial⟩
  · have _q := h2
    have hwy := wy_0 (A := A) (k := k) (by omega)
    refine jx_ld (pc_q := 10) (l_q := [(0, .ref 66), (1, .int (i32 (k)))]) (st_q := [.ref 66]) rfl (jl_aloadn rfl) ?_
    refine jr_get (pc_q := 13) (i := 76) (v := .ref 116) rfl rfl (by decide) rfl rfl ?_
    refine jx_ld (pc_q := 14) (l_q := [(0, .ref 66), (1, .int (i32 (k)))]) (st_q := [.int (i32 (k)), .ref 116]) rfl (jl_iloadn rfl) ?_
    refine jx_ar (pc_q := 15) (st_q := [.int (i32 (1)), .int (i32 (k)), .ref 116]) rfl rfl rfl rfl ?_
    refine jx_add (pc_q := 16) rfl rfl ?_
    have b9 : (-2147483648 : Int) ≤ A 49 ((k + 1)).toNat ∧ A 49 ((k + 1)).toNat ≤ 2147483647 := hW.2 49 _
    refine jr_ldv (pc_q := 17) (i := 49) (m := 7001) (z := (k + 1)) (y := A 49 ((k + 1)).toNat) rfl (by decide) rfl (by decide) (by omega) (by omega) rfl (show A 49 ((k + 1)).toNat = A 49 ((k + 1)).toNat from rfl) ?_
    refine jx_go (tg := 36) rfl rfl ?_
    refine jx_ld (pc_q := 37) (l_q := jSto1 [(0, .ref 66), (1, .int (i32 (k)))] 2 (.int (i32 (A 49 ((k + 1)).toNat)))) (st_q := []) rfl rfl ?_
    obtain ⟨L10, eL10⟩ : ∃ q, q = jSto1 [(0, .ref 66), (1, .int (i32 (k)))] 2 (.int (i32 (A 49 ((k + 1)).toNat))) := ⟨_, rfl⟩
    rw [← eL10]
    have gL10_0 : jGet L10 0 = some (.ref 66) := eL10 ▸ jg_ne (by decide) (rfl : jGet [(0, .ref 66), (1, .int (i32 (k)))] 0 = some (.ref 66)) rfl
    have gL10_1 : jGet L10 1 = some (.int (i32 (k))) := eL10 ▸ jg_ne (by decide) (rfl : jGet [(0, .ref 66), (1, .int (i32 (k)))] 1 = some (.int (i32 (k)))) rfl
    have gL10_2 : jGet L10 2 = some (.int (i32 (A 49 ((k + 1)).toNat))) := eL10 ▸ jg_eq
    refine jx_ld (pc_q := 38) (l_q := L10) (st_q := [.ref 66]) rfl (jl_aloadn gL10_0) ?_
    refine jr_get (pc_q := 41) (i := 76) (v := .ref 116) rfl rfl (by decide) rfl rfl ?_
    refine jx_ld (pc_q := 42) (l_q := L10) (st_q := [.ref 66, .ref 116]) rfl (jl_aloadn gL10_0) ?_
    refine jr_get (pc_q := 45) (i := 78) (v := .ref 117) rfl rfl (by decide) rfl rfl ?_
    refine jx_ld (pc_q := 46) (l_q := L10) (st_q := [.ref 66, .ref 117, .ref 116]) rfl (jl_aloadn gL10_0) ?_
    refine jr_get (pc_q := 49) (i := 73) (v := .ref 113) rfl rfl (by decide) rfl rfl ?_
    refine jx_ld (pc_q := 50) (l_q := L10) (st_q := [.int (i32 (k)), .ref 113, .ref 117, .ref 116]) rfl (jl_iloadn gL10_1) ?_
    have b11 : (-2147483648 : Int) ≤ A 46 (k).toNat ∧ A 46 (k).toNat ≤ 2147483647 := hW.2 46 _
    refine jr_ldv (pc_q := 51) (i := 46) (m := 7000) (z := k) (y := A 46 (k).toNat) rfl (by decide) rfl (by decide) (by omega) (by omega) rfl (show A 46 (k).toNat = A 46 (k).toNat from rfl) ?_
    have b12 : (-2147483648 : Int) ≤ A 50 (A 46 (k).toNat).toNat ∧ A 50 (A 46 (k).toNat).toNat ≤ 2147483647 := hW.2 50 _
    refine jr_ldv (pc_q := 52) (i := 50) (m := 20000) (z := A 46 (k).toNat) (y := A 50 (A 46 (k).toNat).toNat) rfl (by decide) rfl (by decide) (by omega) (by omega) rfl (show A 50 (A 46 (k).toNat).toNat = A 50 (A 46 (k).toNat).toNat from rfl) ?_
    have b13 : (-2147483648 : Int) ≤ A 49 (A 50 (A 46 (k).toNat).toNat).toNat ∧ A 49 (A 50 (A 46 (k).toNat).toNat).toNat ≤ 2147483647 := hW.2 49 _
    refine jr_ldv (pc_q := 53) (i := 49) (m := 7001) (z := A 50 (A 46 (k).toNat).toNat) (y := A 49 (A 50 (A 46 (k).toNat).toNat).toNat) rfl (by decide) rfl (by decide) (by omega) (by omega) rfl (show A 49 (A 50 (A 46 (k).toNat).toNat).toNat = A 49 (A 50 (A 46 (k).toNat).toNat).toNat from rfl) ?_
    refine jx_ld (pc_q := 54) (l_q := L10) (st_q := [.int (i32 (A 49 ((k + 1)).toNat)), .int (i32 (A 49 (A 50 (A 46 (k).toNat).toNat).toNat))]) rfl (jl_iloadn gL10_2) ?_
    refine jx_sub (pc_q := 55) rfl rfl ?_
    refine jx_rt (v := some (.int (i32 ((A 49 (A 50 (A 46 (k).toNat).toNat).toNat - A 49 ((k + 1)).toNat))))) rfl rfl rfl rfl rfl rfl ?_
    exact ⟨_, rfl, rfl, by omega, by omega, by omega, by omega, trivial⟩
set_option maxRecDepth 20000 in
set_option maxHeartbeats 4000000 in
theorem c_findLengths_at_46 {X : jX} {d : Nat} {c0 c1 : jC} {G : Nat → Int} {A : Nat → Nat → Int} {T : jH} {st : Int} (hd : 3 ≤ d + 1) (hW : Wk G A) (e_st : G 70 = st) (p_0 : 0 ≤ st) (p_1 : st ≤ 7000) (p_2 : LR A (st) 0 (st)) : ∀ (m : Nat) (L : jL) (Gx : Nat → Int) (Ax : Nat → Nat → Int) (ch sl : Int), (8 * st - sl + ch).toNat = m → jGet L 0 = some (.ref 66) → jGet L 1 = some (.int (i32 ch)) → Wk Gx Ax → Fr [] [48, 49] G A Gx Ax → Gx 70 = st → ((-2147483648 : Int) ≤ ch ∧ ch ≤ 2147483647) → (0 ≤ ch) → (ch ≤ 1) → (LN Ax (st)) → (FI Ax (st)) → (SE Ax (st) (sl)) → (Cd (ch = 0) (FK Ax (st) (st))) → wj X d jm363 (46, L, [], rV c0 c1 Gx Ax T) (fun o V_q => ∃ (G_q : Nat → Int) (A_q : Nat → Nat → Int) (st2 : Int), V_q = rV c0 c1 G_q A_q T ∧ o = .inl none ∧ Wk G_q A_q ∧ Fr [] [48, 49] G A G_q A_q ∧ G_q 70 = st2 ∧ (st2 = st) ∧ (LN A_q (st)) ∧ (FI A_q (st)) ∧ (FK A_q (st) (st)) ∧ True) := by
  have hF0 : Fr [] [48, 49] G A G A := Fr_rf
  have b_st : (-2147483648 : Int) ≤ st ∧ st ≤ 2147483647 := e_st ▸ hW.1 70
  have _q : True := trivial
  intro m
  induction m using Nat.strongRecOn with
  | ind m ih46 =>
    intro L Gx Ax ch sl hm gL_0 gL_1 hWx hFx fx_70 rx_ch iv_0 iv_1 iv_2 iv_3 iv_4 iv_5
    have hse := SE_b iv_4 iv_2 (by omega)
    have at_58 : ∀ (m : Nat) (L : jL) (Gx : Nat → Int) (Ax : Nat → Nat → Int) (cx kk s1 : Int), (st - kk).toNat = m → jGet L 0 = some (.ref 66) → jGet L 1 = some (.int (i32 cx)) → jGet L 2 = some (.int (i32 kk)) → Wk Gx Ax → Fr [] [48, 49] G A Gx Ax → Gx 70 = st → ((-2147483648 : Int) ≤ cx ∧ cx ≤ 2147483647) → ((-2147483648 : Int) ≤ kk ∧ kk ≤ 2147483647) → (0 ≤ cx) → (cx ≤ 1) → (1 ≤ ch) → (0 ≤ kk) → (kk ≤ st) → (sl + cx ≤ s1) → (LN Ax (st)) → (FI Ax (st)) → (SE Ax (st) (s1)) → (AB Ax (st)) → (Cd (cx = 0) (FK Ax (kk) (st))) → wj X d jm363 (58, L, [], rV c0 c1 Gx Ax T) (fun o V_q => ∃ (G_q : Nat → Int) (A_q : Nat → Nat → Int) (st2 : Int), V_q = rV c0 c1 G_q A_q T ∧ o = .inl none ∧ Wk G_q A_q ∧ Fr [] [48, 49] G A G_q A_q ∧ G_q 70 = st2 ∧ (st2 = st) ∧ (LN A_q (st)) ∧ (FI A_q (st)) ∧ (FK A_q (st) (st)) ∧ True) := by
      intro m
      induction m using Nat.strongRecOn with
      | ind m ih58 =>
        intro L Gx Ax cx kk s1 hm gL_0 gL_1 gL_2 hWx hFx fx_70 rx_cx rx_kk iv_0 iv_1 iv_2 iv_3 iv_4 iv_5 iv_6 iv_7 iv_8 iv_9 iv_10
        have hse := SE_b iv_8 iv_6 (by omega)
        refine jx_ld (pc_q := 59) (l_q := L) (st_q := [.int (i32 (kk))]) rfl (jl_iloadn gL_2) ?_
        refine jx_ld (pc_q := 60) (l_q := L) (st_q := [.ref 66, .int (i32 (kk))]) rfl (jl_aloadn gL_0) ?_
        refine jr_get (pc_q := 63) (i := 70) (v := .int (i32 (st))) rfl rfl (by decide) (rFv_eq (by decide) (show Gx 70 = st from (fx_70))) rfl ?_
        refine jx_icmp_ge (pc_q := 66) (tg := 113) rfl rfl rfl (Int.le_trans (by decide : (-2147483648 : Int) ≤ -2147483648) rx_kk.1) (Int.le_trans rx_kk.2 (by decide : (2147483647 : Int) ≤ 2147483647)) (Int.le_trans (by decide : (-2147483648 : Int) ≤ -2147483648) b_st.1) (Int.le_trans b_st.2 (by decide : (2147483647 : Int) ≤ 2147483647)) (fun h1 => ?_) (fun h1 => ?_)
        · have _q := h1
          have _q : True := trivial
          refine jx_go (tg := 46) rfl rfl ?_
          exact ih46 _ (by omega) L Gx Ax (cx) (s1) rfl gL_0 gL_1 hWx hFx ((fx_70)) (by omega) (by omega) (by omega) (iv_6) (iv_7) (iv_8) ((Cd_mk (fun hC => (FK_e (by omega) (Cd_ap iv_10 (by omega))))))
        · have _q := h1
          have h46 : Ax 46 (kk).toNat = A 46 (kk).toNat := (congrFun (hFx.2 46 rfl) _); have h48 : Ax 48 (kk).toNat = Ax 48 (kk).toNat := rfl; have hl8 := iv_6 (kk).toNat (by omega)
          refine jx_ld (pc_q := 67) (l_q := L) (st_q := [.ref 66]) rfl (jl_aloadn gL_0) ?_
          refine jr_get (pc_q := 70) (i := 73) (v := .ref 113) rfl rfl (by decide) rfl rfl ?_
          refine jx_ld (pc_q := 71) (l_q := L) (st_q := [.int (i32 (kk)), .ref 113]) rfl (jl_iloadn gL_2) ?_
          have b2 : (-2147483648 : Int) ≤ A 46 (kk).toNat ∧ A 46 (kk).toNat ≤ 2147483647 := hW.2 46 _
          refine jr_ldv (pc_q := 72) (i := 46) (m := 7000) (z := kk) (y := A 46 (kk).toNat) rfl (by decide) rfl (by decide) (by omega) (by omega) rfl (show Ax 46 (kk).toNat = A 46 (kk).toNat from (congrFun (hFx.2 46 rfl) _)) ?_
          refine jx_if_le (pc_q := 75) (tg := 86) rfl rfl rfl (Int.le_trans (by decide : (-2147483648 : Int) ≤ -2147483648) b2.1) (Int.le_trans b2.2 (by decide : (2147483647 : Int) ≤ 2147483647)) (fun h3 => ?_) (fun h3 => ?_)
          · have _q := h3
            have _q : True := trivial
            refine jx_ar (pc_q := 87) (st_q := [.int (i32 (0))]) rfl rfl rfl rfl ?_
            refine jx_ld (pc_q := 88) (l_q := jSto1 L 3 (.int (i32 (0)))) (st_q := []) rfl rfl ?_
            obtain ⟨L4, eL4⟩ : ∃ q, q = jSto1 L 3 (.int (i32 (0))) := ⟨_, rfl⟩
            rw [← eL4]
            have gL4_0 : jGet L4 0 = some (.ref 66) := eL4 ▸ jg_ne (by decide) gL_0 rfl
            have gL4_1 : jGet L4 1 = some (.int (i32 (cx))) := eL4 ▸ jg_ne (by decide) gL_1 rfl
            have gL4_2 : jGet L4 2 = some (.int (i32 (kk))) := eL4 ▸ jg_ne (by decide) gL_2 rfl
            have gL4_3 : jGet L4 3 = some (.int (i32 (0))) := eL4 ▸ jg_eq
            refine jx_ld (pc_q := 89) (l_q := L4) (st_q := [.int (i32 (0))]) rfl (jl_iloadn gL4_3) ?_
            refine jx_ld (pc_q := 90) (l_q := L4) (st_q := [.ref 66, .int (i32 (0))]) rfl (jl_aloadn gL4_0) ?_
            refine jr_get (pc_q := 93) (i := 75) (v := .ref 115) rfl rfl (by decide) rfl rfl ?_
            refine jx_ld (pc_q := 94) (l_q := L4) (st_q := [.int (i32 (kk)), .ref 115, .int (i32 (0))]) rfl (jl_iloadn gL4_2) ?_
            have b5 : (-2147483648 : Int) ≤ Ax 48 (kk).toNat ∧ Ax 48 (kk).toNat ≤ 2147483647 := hWx.2 48 _
            refine jr_ldv (pc_q := 95) (i := 48) (m := 7000) (z := kk) (y := Ax 48 (kk).toNat) rfl (by decide) rfl (by decide) (by omega) (by omega) rfl (show Ax 48 (kk).toNat = Ax 48 (kk).toNat from rfl) ?_
            refine jx_icmp_le (pc_q := 98) (tg := 107) rfl rfl rfl (by decide) (by decide) (Int.le_trans (by decide : (-2147483648 : Int) ≤ -2147483648) b5.1) (Int.le_trans b5.2 (by decide : (2147483647 : Int) ≤ 2147483647)) (fun h6 => ?_) (fun h6 => ?_)
            · have _q := h6
              refine jx_inc (pc_q := 110) (l_q := jSto1 L4 2 (.int (i32 ((kk + (1)))))) (x := kk) rfl gL4_2 (by decide) rfl rfl ?_
              obtain ⟨L7, eL7⟩ : ∃ q, q = jSto1 L4 2 (.int (i32 ((kk + (1))))) := ⟨_, rfl⟩
              rw [← eL7]
              have gL7_0 : jGet L7 0 = some (.ref 66) := eL7 ▸ jg_ne (by decide) gL4_0 rfl
              have gL7_1 : jGet L7 1 = some (.int (i32 (cx))) := eL7 ▸ jg_ne (by decide) gL4_1 rfl
              have gL7_3 : jGet L7 3 = some (.int (i32 (0))) := eL7 ▸ jg_ne (by decide) gL4_3 rfl
              have gL7_2 : jGet L7 2 = some (.int (i32 ((kk + (1))))) := eL7 ▸ jg_eq
              refine jx_go (tg := 58) rfl rfl ?_
              exact ih58 _ (by omega) L7 Gx Ax (cx) ((kk + (1))) (s1) rfl gL7_0 gL7_1 gL7_2 hWx hFx ((fx_70)) (by omega) (by omega) (by omega) (by omega) (by omega) (by omega) (by omega) (by omega) (iv_6) (iv_7) (iv_8) (iv_9) ((Cd_mk (fun hC => (FK_n (Cd_ap iv_10 (by omega)) (by omega) (by omega) (by omega)))))
            · have _q := h6
              exfalso
              omega
          · have _q := h3
            have hpos : 0 < Ax 46 (kk).toNat := (by omega)
            refine jx_ld (pc_q := 76) (l_q := L) (st_q := [.ref 66]) rfl (jl_aloadn gL_0) ?_
            refine jx_ld (pc_q := 77) (l_q := L) (st_q := [.int (i32 (kk)), .ref 66]) rfl (jl_iloadn gL_2) ?_
            refine jx_vr (pc_q := 80) (as := [.int (i32 (kk))]) (st := []) rfl rfl rfl rfl ⟨rfl, rfl, Nat.le_of_ble_eq_true rfl⟩ rfl rfl (c_wayOf2 (dd := d) (hd := by omega) (hW := hWx) (k := kk) (st := st) (e_st := show Gx 70 = st from (fx_70))  (h_k := ⟨(Int.le_trans (by decide : (-2147483648 : Int) ≤ -2147483648) rx_kk.1), (Int.le_trans rx_kk.2 (by decide : (2147483647 : Int) ≤ 2147483647))⟩)  (p_0 := by omega) (p_1 := by omega) (p_2 := iv_9) (p_3 := (LR_fr (hFx.2 44 rfl) (hFx.2 46 rfl) (hFx.2 47 rfl) (hFx.2 50 rfl) p_2)) (p_4 := by omega) (p_5 := by omega) (p_6 := hpos)) (fun o V_q hq => ?_)
            obtain ⟨r8, rfl, rfl, b9, p10, p11, p12, -⟩ := hq
            refine .inr ⟨_, rfl, ?_⟩
            refine jx_st (pc_q := 83) (as := [.int (i32 (r8))]) (st := []) rfl rfl ⟨rfl, Nat.le_of_ble_eq_true rfl⟩ rfl rfl rfl (c_length (dd := d) (hd := by omega) (v := r8)   (h_v := ⟨(Int.le_trans (by decide : (-2147483648 : Int) ≤ -2147483648) b9.1), (Int.le_trans b9.2 (by decide : (2147483647 : Int) ≤ 2147483647))⟩)  ) (fun o V_q hq => ?_)
            obtain ⟨r14, rfl, rfl, b15, p16, p17, p18, -⟩ := hq
            refine .inr ⟨_, rfl, ?_⟩
            refine jx_go (tg := 87) rfl rfl ?_
            refine jx_ld (pc_q := 88) (l_q := jSto1 L 3 (.int (i32 (r14)))) (st_q := []) rfl rfl ?_
            obtain ⟨L20, eL20⟩ : ∃ q, q = jSto1 L 3 (.int (i32 (r14))) := ⟨_, rfl⟩
            rw [← eL20]
            have gL20_0 : jGet L20 0 = some (.ref 66) := eL20 ▸ jg_ne (by decide) gL_0 rfl
            have gL20_1 : jGet L20 1 = some (.int (i32 (cx))) := eL20 ▸ jg_ne (by decide) gL_1 rfl
            have gL20_2 : jGet L20 2 = some (.int (i32 (kk))) := eL20 ▸ jg_ne (by decide) gL_2 rfl
            have gL20_3 : jGet L20 3 = some (.int (i32 (r14))) := eL20 ▸ jg_eq
            refine jx_ld (pc_q := 89) (l_q := L20) (st_q := [.int (i32 (r14))]) rfl (jl_iloadn gL20_3) ?_
            refine jx_ld (pc_q := 90) (l_q := L20) (st_q := [.ref 66, .int (i32 (r14))]) rfl (jl_aloadn gL20_0) ?_
            refine jr_get (pc_q := 93) (i := 75) (v := .ref 115) rfl rfl (by decide) rfl rfl ?_
            refine jx_ld (pc_q := 94) (l_q := L20) (st_q := [.int (i32 (kk)), .ref 115, .int (i32 (r14))]) rfl (jl_iloadn gL20_2) ?_
            have b21 : (-2147483648 : Int) ≤ Ax 48 (kk).toNat ∧ Ax 48 (kk).toNat ≤ 2147483647 := hWx.2 48 _
            refine jr_ldv (pc_q := 95) (i := 48) (m := 7000) (z := kk) (y := Ax 48 (kk).toNat) rfl (by decide) rfl (by decide) (by omega) (by omega) rfl (show Ax 48 (kk).toNat = Ax 48 (kk).toNat from rfl) ?_
            refine jx_icmp_le (pc_q := 98) (tg := 107) rfl rfl rfl (Int.le_trans (by decide : (-2147483648 : Int) ≤ -2147483648) b15.1) (Int.le_trans b15.2 (by decide : (2147483647 : Int) ≤ 2147483647)) (Int.le_trans (by decide : (-2147483648 : Int) ≤ -2147483648) b21.1) (Int.le_trans b21.2 (by decide : (2147483647 : Int) ≤ 2147483647)) (fun h22 => ?_) (fun h22 => ?_)
            · have _q := h22
              refine jx_inc (pc_q := 110) (l_q := jSto1 L20 2 (.int (i32 ((kk + (1)))))) (x := kk) rfl gL20_2 (by decide) rfl rfl ?_
              obtain ⟨L23, eL23⟩ : ∃ q, q = jSto1 L20 2 (.int (i32 ((kk + (1))))) := ⟨_, rfl⟩
              rw [← eL23]
              have gL23_0 : jGet L23 0 = some (.ref 66) := eL23 ▸ jg_ne (by decide) gL20_0 rfl
              have gL23_1 : jGet L23 1 = some (.int (i32 (cx))) := eL23 ▸ jg_ne (by decide) gL20_1 rfl
              have gL23_3 : jGet L23 3 = some (.int (i32 (r14))) := eL23 ▸ jg_ne (by decide) gL20_3 rfl
              have gL23_2 : jGet L23 2 = some (.int (i32 ((kk + (1))))) := eL23 ▸ jg_eq
              refine jx_go (tg := 58) rfl rfl ?_
              exact ih58 _ (by omega) L23 Gx Ax (cx) ((kk + (1))) (s1) rfl gL23_0 gL23_1 gL23_2 hWx hFx ((fx_70)) (by omega) (by omega) (by omega) (by omega) (by omega) (by omega) (by omega) (by omega) (iv_6) (iv_7) (iv_8) (iv_9) ((Cd_mk (fun hC => (FK_w (Cd_ap iv_10 (by omega)) (by omega) (by omega) p18 p10 (by omega) (by omega)))))
            · have _q := h22
              have _q : True := trivial
              refine jx_ld (pc_q := 99) (l_q := L20) (st_q := [.ref 66]) rfl (jl_aloadn gL20_0) ?_
              refine jr_get (pc_q := 102) (i := 75) (v := .ref 115) rfl rfl (by decide) rfl rfl ?_
              refine jx_ld (pc_q := 103) (l_q := L20) (st_q := [.int (i32 (kk)), .ref 115]) rfl (jl_iloadn gL20_2) ?_
              refine jx_ld (pc_q := 104) (l_q := L20) (st_q := [.int (i32 (r14)), .int (i32 (kk)), .ref 115]) rfl (jl_iloadn gL20_3) ?_
              refine jr_st (pc_q := 105) (i := 48) (m := 7000) (z := kk) (y := r14) rfl (by decide) rfl (by decide) (by omega) (by omega) rfl ?_
              have hW25 : Wk Gx (uA Ax 48 (kk).toNat (r14)) := Wk_a hWx (show (-2147483648 : Int) ≤ r14 by omega) (show r14 ≤ (2147483647 : Int) by omega)
              have hF26 := Fr_a (z := r14) (k := 48) (n := (kk).toNat) hFx (by decide)
              obtain ⟨A24, eA24⟩ : ∃ q, q = uA Ax 48 (kk).toNat (r14) := ⟨_, rfl⟩
              rw [← eA24]
              rw [← eA24] at hW25 hF26
              have q27 : A24 48 (kk).toNat = r14 := by rw [eA24]; exact uA_eq
              have hln4 := LN_st iv_6 eA24 (by omega) (by omega); have hfi4 := FI_st iv_7 eA24 hpos; have hse4 := SE_st (s_q := s1 - Ax 48 (kk).toNat + r14) eA24 (by omega) (by omega) h48 iv_8 rfl; have hab4 := AB_fr ((congrFun eA24 49).trans (uA_ne (by decide))) iv_9
              refine jx_ar (pc_q := 106) (st_q := [.int (i32 (1))]) rfl rfl rfl rfl ?_
              refine jx_ld (pc_q := 107) (l_q := jSto1 L20 1 (.int (i32 (1)))) (st_q := []) rfl rfl ?_
              obtain ⟨L28, eL28⟩ : ∃ q, q = jSto1 L20 1 (.int (i32 (1))) := ⟨_, rfl⟩
              rw [← eL28]
              have gL28_0 : jGet L28 0 = some (.ref 66) := eL28 ▸ jg_ne (by decide) gL20_0 rfl
              have gL28_2 : jGet L28 2 = some (.int (i32 (kk))) := eL28 ▸ jg_ne (by decide) gL20_2 rfl
              have gL28_3 : jGet L28 3 = some (.int (i32 (r14))) := eL28 ▸ jg_ne (by decide) gL20_3 rfl
              have gL28_1 : jGet L28 1 = some (.int (i32 (1))) := eL28 ▸ jg_eq
              refine jx_inc (pc_q := 110) (l_q := jSto1 L28 2 (.int (i32 ((kk + (1)))))) (x := kk) rfl gL28_2 (by decide) rfl rfl ?_
              obtain ⟨L29, eL29⟩ : ∃ q, q = jSto1 L28 2 (.int (i32 ((kk + (1))))) := ⟨_, rfl⟩
              rw [← eL29]
              have gL29_0 : jGet L29 0 = some (.ref 66) := eL29 ▸ jg_ne (by decide) gL28_0 rfl
              have gL29_3 : jGet L29 3 = some (.int (i32 (r14))) := eL29 ▸ jg_ne (by decide) gL28_3 rfl
              have gL29_1 : jGet L29 1 = some (.int (i32 (1))) := eL29 ▸ jg_ne (by decide) gL28_1 rfl
              have gL29_2 : jGet L29 2 = some (.int (i32 ((kk + (1))))) := eL29 ▸ jg_eq
              refine jx_go (tg := 58) rfl rfl ?_
              exact ih58 _ (by omega) L29 Gx A24 (1) ((kk + (1))) ((s1 - Ax 48 (kk).toNat + r14)) rfl gL29_0 gL29_1 gL29_2 hW25 hF26 ((fx_70)) (by omega) (by omega) (by omega) (by omega) (by omega) (by omega) (by omega) (by omega) (hln4) (hfi4) (hse4) (hab4) ((Cd_mk (fun hC => (absurd hC (by omega)))))
    refine jx_ld (pc_q := 47) (l_q := L) (st_q := [.int (i32 (ch))]) rfl (jl_iloadn gL_1) ?_
    refine jx_if_eq (pc_q := 50) (tg := 116) rfl rfl rfl (Int.le_trans (by decide : (-2147483648 : Int) ≤ -2147483648) rx_ch.1) (Int.le_trans rx_ch.2 (by decide : (2147483647 : Int) ≤ 2147483647)) (fun h30 => ?_) (fun h30 => ?_)
    · have _q := h30
      refine jx_rt (v := none) rfl rfl rfl rfl rfl rfl ?_
      exact ⟨_, _, st, rfl, rfl, hWx, hFx, (fx_70), by omega, iv_2, iv_3, (FK_e (by omega) (Cd_ap iv_5 (by omega))), trivial⟩
    · have _q := h30
      refine jx_ar (pc_q := 51) (st_q := [.int (i32 (0))]) rfl rfl rfl rfl ?_
      refine jx_ld (pc_q := 52) (l_q := jSto1 L 1 (.int (i32 (0)))) (st_q := []) rfl rfl ?_
      obtain ⟨L31, eL31⟩ : ∃ q, q = jSto1 L 1 (.int (i32 (0))) := ⟨_, rfl⟩
      rw [← eL31]
      have gL31_0 : jGet L31 0 = some (.ref 66) := eL31 ▸ jg_ne (by decide) gL_0 rfl
      have gL31_1 : jGet L31 1 = some (.int (i32 (0))) := eL31 ▸ jg_eq
      refine jx_ld (pc_q := 53) (l_q := L31) (st_q := [.ref 66]) rfl (jl_aloadn gL31_0) ?_
      refine jx_vr (pc_q := 56) (as := []) (st := []) rfl rfl rfl rfl ⟨rfl, rfl, Nat.le_of_ble_eq_true rfl⟩ rfl rfl (c_findPlaces (dd := d) (hd := by omega) (hW := hWx)  (st := st) (e_st := show Gx 70 = st from (fx_70))    (p_0 := by omega) (p_1 := by omega) (p_2 := iv_2)) (fun o V_q hq => ?_)
      obtain ⟨G32, A33, st2_34, rfl, rfl, hW35, hF36, e37, p38, p39, -⟩ := hq
      have hF41 := Fr_tr hFx hF36 (Fr_sub (by decide)) (Fr_sub (by decide))
      have bst2_34 : (-2147483648 : Int) ≤ st2_34 ∧ st2_34 ≤ 2147483647 := e37 ▸ hW35.1 70
      refine .inl ⟨rfl, ?_⟩
      have hln3 := LN_fr (hF36.2 48 rfl) iv_2; have hfi3 := FI_fr (hF36.2 45 rfl) (hF36.2 46 rfl) (hF36.2 48 rfl) iv_3; have hse3 := SE_fr (hF36.2 48 rfl) iv_4; have hab3 := AB_of p39 hln3 (by omega); have hfk3 : Cd ((0 : Int) = 0) (FK A33 0 st) := Cd_mk (fun _ => FK_0 p39 (by omega))
      refine jx_ar (pc_q := 57) (st_q := [.int (i32 (0))]) rfl rfl rfl rfl ?_
      refine jx_ld (pc_q := 58) (l_q := jSto1 L31 2 (.int (i32 (0)))) (st_q := []) rfl rfl ?_
      obtain ⟨L42, eL42⟩ : ∃ q, q = jSto1 L31 2 (.int (i32 (0))) := ⟨_, rfl⟩
      rw [← eL42]
      have gL42_0 : jGet L42 0 = some (.ref 66) := eL42 ▸ jg_ne (by decide) gL31_0 rfl
      have gL42_1 : jGet L42 1 = some (.int (i32 (0))) := eL42 ▸ jg_ne (by decide) gL31_1 rfl
      have gL42_2 : jGet L42 2 = some (.int (i32 (0))) := eL42 ▸ jg_eq
      exact at_58 _ L42 G32 A33 (0) (0) (sl) rfl gL42_0 gL42_1 gL42_2 hW35 hF41 (Eq.trans (show G32 70 = st2_34 from (e37)) (by omega)) (by omega) (by omega) (by omega) (by omega) (by omega) (by omega) (by omega) (by omega) (hln3) (hfi3) (hse3) (hab3) ((Cd_mk (fun hC => (Cd_ap hfk3 (by omega)))))
set_option maxRecDepth 20000 in
set_option maxHeartbeats 4000000 in
theorem c_findLengths_at_2 {X : jX} {d : Nat} {c0 c1 : jC} {G : Nat → Int} {A : Nat → Nat → Int} {T : jH} {st : Int} (hd : 3 ≤ d + 1) (hW : Wk G A) (e_st : G 70 = st) (p_0 : 0 ≤ st) (p_1 : st ≤ 7000) (p_2 : LR A (st) 0 (st)) : ∀ (m : Nat) (L : jL) (Gx : Nat → Int) (Ax : Nat → Nat → Int) (kk : Int), (st - kk).toNat = m → jGet L 0 = some (.ref 66) → jGet L 1 = some (.int (i32 kk)) → Wk Gx Ax → Fr [] [48, 49] G A Gx Ax → Gx 70 = st → ((-2147483648 : Int) ≤ kk ∧ kk ≤ 2147483647) → (0 ≤ kk) → (kk ≤ st) → (LN Ax (kk)) → (FI Ax (kk)) → wj X d jm363 (2, L, [], rV c0 c1 Gx Ax T) (fun o V_q => ∃ (G_q : Nat → Int) (A_q : Nat → Nat → Int) (st2 : Int), V_q = rV c0 c1 G_q A_q T ∧ o = .inl none ∧ Wk G_q A_q ∧ Fr [] [48, 49] G A G_q A_q ∧ G_q 70 = st2 ∧ (st2 = st) ∧ (LN A_q (st)) ∧ (FI A_q (st)) ∧ (FK A_q (st) (st)) ∧ True) := by
  have hF0 : Fr [] [48, 49] G A G A := Fr_rf
  have b_st : (-2147483648 : Int) ≤ st ∧ st ≤ 2147483647 := e_st ▸ hW.1 70
  have _q : True := trivial
  intro m
  induction m using Nat.strongRecOn with
  | ind m ih2 =>
    intro L Gx Ax kk hm gL_0 gL_1 hWx hFx fx_70 rx_kk iv_0 iv_1 iv_2 iv_3
    have _q : True := trivial
    refine jx_ld (pc_q := 3) (l_q := L) (st_q := [.int (i32 (kk))]) rfl (jl_iloadn gL_1) ?_
    refine jx_ld (pc_q := 4) (l_q := L) (st_q := [.ref 66, .int (i32 (kk))]) rfl (jl_aloadn gL_0) ?_
    refine jr_get (pc_q := 7) (i := 70) (v := .int (i32 (st))) rfl rfl (by decide) (rFv_eq (by decide) (show Gx 70 = st from (fx_70))) rfl ?_
    refine jx_icmp_ge (pc_q := 10) (tg := 44) rfl rfl rfl (Int.le_trans (by decide : (-2147483648 : Int) ≤ -2147483648) rx_kk.1) (Int.le_trans rx_kk.2 (by decide : (2147483647 : Int) ≤ 2147483647)) (Int.le_trans (by decide : (-2147483648 : Int) ≤ -2147483648) b_st.1) (Int.le_trans b_st.2 (by decide : (2147483647 : Int) ≤ 2147483647)) (fun h43 => ?_) (fun h43 => ?_)
    · have _q := h43
      obtain ⟨sl0, hs0⟩ := SE_ex (A := Ax) (n := st); have hse0 := SE_b hs0 (LN_k (by omega) iv_2) (by omega)
      refine jx_ar (pc_q := 45) (st_q := [.int (i32 (1))]) rfl rfl rfl rfl ?_
      refine jx_ld (pc_q := 46) (l_q := jSto1 L 1 (.int (i32 (1)))) (st_q := []) rfl rfl ?_
      obtain ⟨L44, eL44⟩ : ∃ q, q = jSto1 L 1 (.int (i32 (1))) := ⟨_, rfl⟩
      rw [← eL44]
      have gL44_0 : jGet L44 0 = some (.ref 66) := eL44 ▸ jg_ne (by decide) gL_0 rfl
      have gL44_1 : jGet L44 1 = some (.int (i32 (1))) := eL44 ▸ jg_eq
      exact c_findLengths_at_46 (X := X) (d := d) (c0 := c0) (c1 := c1) (G := G) (A := A) (T := T) (st := st) (hd := hd) (hW := hW) (e_st := e_st) (p_0 := p_0) (p_1 := p_1) (p_2 := p_2) _ L44 Gx Ax (1) (sl0) rfl gL44_0 gL44_1 hWx hFx ((fx_70)) (by omega) (by omega) (by omega) ((LN_k (by omega) iv_2)) ((FI_k (by omega) iv_3)) (hs0) ((Cd_mk (fun hC => (absurd hC (by omega)))))
    · have _q := h43
      refine jx_ld (pc_q := 11) (l_q := L) (st_q := [.ref 66]) rfl (jl_aloadn gL_0) ?_
      refine jr_get (pc_q := 14) (i := 75) (v := .ref 115) rfl rfl (by decide) rfl rfl ?_
      refine jx_ld (pc_q := 15) (l_q := L) (st_q := [.int (i32 (kk)), .ref 115]) rfl (jl_iloadn gL_1) ?_
      refine jx_ld (pc_q := 16) (l_q := L) (st_q := [.ref 66, .int (i32 (kk)), .ref 115]) rfl (jl_aloadn gL_0) ?_
      refine jr_get (pc_q := 19) (i := 73) (v := .ref 113) rfl rfl (by decide) rfl rfl ?_
      refine jx_ld (pc_q := 20) (l_q := L) (st_q := [.int (i32 (kk)), .ref 113, .int (i32 (kk)), .ref 115]) rfl (jl_iloadn gL_1) ?_
      have b45 : (-2147483648 : Int) ≤ A 46 (kk).toNat ∧ A 46 (kk).toNat ≤ 2147483647 := hW.2 46 _
      refine jr_ldv (pc_q := 21) (i := 46) (m := 7000) (z := kk) (y := A 46 (kk).toNat) rfl (by decide) rfl (by decide) (by omega) (by omega) rfl (show Ax 46 (kk).toNat = A 46 (kk).toNat from (congrFun (hFx.2 46 rfl) _)) ?_
      refine jx_if_le (pc_q := 24) (tg := 28) rfl rfl rfl (Int.le_trans (by decide : (-2147483648 : Int) ≤ -2147483648) b45.1) (Int.le_trans b45.2 (by decide : (2147483647 : Int) ≤ 2147483647)) (fun h46 => ?_) (fun h46 => ?_)
      · have _q := h46
        refine jx_ld (pc_q := 29) (l_q := L) (st_q := [.ref 66, .int (i32 (kk)), .ref 115]) rfl (jl_aloadn gL_0) ?_
        refine jr_get (pc_q := 32) (i := 72) (v := .ref 112) rfl rfl (by decide) rfl rfl ?_
        refine jx_ld (pc_q := 33) (l_q := L) (st_q := [.int (i32 (kk)), .ref 112, .int (i32 (kk)), .ref 115]) rfl (jl_iloadn gL_1) ?_
        have b47 : (-2147483648 : Int) ≤ A 45 (kk).toNat ∧ A 45 (kk).toNat ≤ 2147483647 := hW.2 45 _
        refine jr_ldv (pc_q := 34) (i := 45) (m := 7000) (z := kk) (y := A 45 (kk).toNat) rfl (by decide) rfl (by decide) (by omega) (by omega) rfl (show Ax 45 (kk).toNat = A 45 (kk).toNat from (congrFun (hFx.2 45 rfl) _)) ?_
        refine jx_st (pc_q := 37) (as := [.int (i32 (A 45 (kk).toNat))]) (st := [.int (i32 (kk)), .ref 115]) rfl rfl ⟨rfl, Nat.le_of_ble_eq_true rfl⟩ rfl rfl rfl (c_length (dd := d) (hd := by omega) (v := A 45 (kk).toNat)   (h_v := ⟨(Int.le_trans (by decide : (-2147483648 : Int) ≤ -2147483648) b47.1), (Int.le_trans b47.2 (by decide : (2147483647 : Int) ≤ 2147483647))⟩)  ) (fun o V_q hq => ?_)
        obtain ⟨r48, rfl, rfl, b49, p50, p51, p52, -⟩ := hq
        refine .inr ⟨_, rfl, ?_⟩
        have hnb : NB (Ax 45 (kk).toNat) (r48) := (by rw [show Ax 45 (kk).toNat = A 45 (kk).toNat from (congrFun (hFx.2 45 rfl) _)]; exact p52); have h46 : Ax 46 (kk).toNat = A 46 (kk).toNat := (congrFun (hFx.2 46 rfl) _)
        refine jr_st (pc_q := 38) (i := 48) (m := 7000) (z := kk) (y := r48) rfl (by decide) rfl (by decide) (by omega) (by omega) rfl ?_
        have hW55 : Wk Gx (uA Ax 48 (kk).toNat (r48)) := Wk_a hWx (show (-2147483648 : Int) ≤ r48 by omega) (show r48 ≤ (2147483647 : Int) by omega)
        have hF56 := Fr_a (z := r48) (k := 48) (n := (kk).toNat) hFx (by decide)
        obtain ⟨A54, eA54⟩ : ∃ q, q = uA Ax 48 (kk).toNat (r48) := ⟨_, rfl⟩
        rw [← eA54]
        rw [← eA54] at hW55 hF56
        have q57 : A54 48 (kk).toNat = r48 := by rw [eA54]; exact uA_eq
        have hln2 := LN_nx (k_q := kk + 1) iv_2 eA54 (by omega) rfl rfl (by omega) (by omega); have hfi2 := FI_nx (k_q := kk + 1) iv_3 eA54 (by omega) rfl rfl (fun _ => hnb)
        refine jx_inc (pc_q := 41) (l_q := jSto1 L 1 (.int (i32 ((kk + (1)))))) (x := kk) rfl gL_1 (by decide) rfl rfl ?_
        obtain ⟨L58, eL58⟩ : ∃ q, q = jSto1 L 1 (.int (i32 ((kk + (1))))) := ⟨_, rfl⟩
        rw [← eL58]
        have gL58_0 : jGet L58 0 = some (.ref 66) := eL58 ▸ jg_ne (by decide) gL_0 rfl
        have gL58_1 : jGet L58 1 = some (.int (i32 ((kk + (1))))) := eL58 ▸ jg_eq
        refine jx_go (tg := 2) rfl rfl ?_
        exact ih2 _ (by omega) L58 Gx A54 ((kk + (1))) rfl gL58_0 gL58_1 hW55 hF56 ((fx_70)) (by omega) (by omega) (by omega) (hln2) (hfi2)
      · have _q := h46
        refine jx_ar (pc_q := 25) (st_q := [.int (i32 (1)), .int (i32 (kk)), .ref 115]) rfl rfl rfl rfl ?_
        refine jx_go (tg := 37) rfl rfl ?_
        have h46 : Ax 46 (kk).toNat = A 46 (kk).toNat := (congrFun (hFx.2 46 rfl) _)
        refine jr_st (pc_q := 38) (i := 48) (m := 7000) (z := kk) (y := 1) rfl (by decide) rfl (by decide) (by omega) (by omega) rfl ?_
        have hW60 : Wk Gx (uA Ax 48 (kk).toNat (1)) := Wk_a hWx (show (-2147483648 : Int) ≤ 1 by omega) (show 1 ≤ (2147483647 : Int) by omega)
        have hF61 := Fr_a (z := 1) (k := 48) (n := (kk).toNat) hFx (by decide)
        obtain ⟨A59, eA59⟩ : ∃ q, q = uA Ax 48 (kk).toNat (1) := ⟨_, rfl⟩
        rw [← eA59]
        rw [← eA59] at hW60 hF61
        have q62 : A59 48 (kk).toNat = 1 := by rw [eA59]; exact uA_eq
        have hln2 := LN_nx (k_q := kk + 1) iv_2 eA59 (by omega) rfl rfl (by omega) (by omega); have hfi2 := FI_nx (k_q := kk + 1) iv_3 eA59 (by omega) rfl rfl (fun q => absurd q (by omega))
        refine jx_inc (pc_q := 41) (l_q := jSto1 L 1 (.int (i32 ((kk + (1)))))) (x := kk) rfl gL_1 (by decide) rfl rfl ?_
        obtain ⟨L63, eL63⟩ : ∃ q, q = jSto1 L 1 (.int (i32 ((kk + (1))))) := ⟨_, rfl⟩
        rw [← eL63]
        have gL63_0 : jGet L63 0 = some (.ref 66) := eL63 ▸ jg_ne (by decide) gL_0 rfl
        have gL63_1 : jGet L63 1 = some (.int (i32 ((kk + (1))))) := eL63 ▸ jg_eq
        refine jx_go (tg := 2) rfl rfl ?_
        exact ih2 _ (by omega) L63 Gx A59 ((kk + (1))) rfl gL63_0 gL63_1 hW60 hF61 ((fx_70)) (by omega) (by omega) (by omega) (hln2) (hfi2)
set_option maxRecDepth 20000 in
set_option maxHeartbeats 4000000 in
theorem c_findLengths {X : jX} {dd : Nat} {c0 c1 : jC} {G : Nat → Int} {A : Nat → Nat → Int} {T : jH} {st : Int} (hd : 3 ≤ dd) (hW : Wk G A) (e_st : G 70 = st) (p_0 : 0 ≤ st) (p_1 : st ≤ 7000) (p_2 : LR A (st) 0 (st)) : wk X dd 363 [.ref 66] (rV c0 c1 G A T) (fun o V_q => ∃ (G_q : Nat → Int) (A_q : Nat → Nat → Int) (st2 : Int), V_q = rV c0 c1 G_q A_q T ∧ o = .inl none ∧ Wk G_q A_q ∧ Fr [] [48, 49] G A G_q A_q ∧ G_q 70 = st2 ∧ (st2 = st) ∧ (LN A_q (st)) ∧ (FI A_q (st)) ∧ (FK A_q (st) (st)) ∧ True) := by
  obtain ⟨d, rfl⟩ : ∃ d, dd = d + 1 := ⟨dd - 1, by omega⟩
  refine wk_of (e := jm363) rfl (Nat.le_of_ble_eq_true rfl) ?_
  show wj X d jm363 (0, [(0, .ref 66)], [], rV c0 c1 G A T) _
  have hF0 : Fr [] [48, 49] G A G A := Fr_rf
  have b_st : (-2147483648 : Int) ≤ st ∧ st ≤ 2147483647 := e_st ▸ hW.1 70
  have _q : True := trivial
  refine jx_ar (pc_q := 1) (st_q := [.int (i32 (0))]) rfl rfl rfl rfl ?_
  refine jx_ld (pc_q := 2) (l_q := jSto1 [(0, .ref 66)] 1 (.int (i32 (0)))) (st_q := []) rfl rfl ?_
  obtain ⟨L64, eL64⟩ : ∃ q, q = jSto1 [(0, .ref 66)] 1 (.int (i32 (0))) := ⟨_, rfl⟩
  rw [← eL64]
  have gL64_0 : jGet L64 0 = some (.ref 66) := eL64 ▸ jg_ne (by decide) (rfl : jGet [(0, .ref 66)] 0 = some (.ref 66)) rfl
  have gL64_1 : jGet L64 1 = some (.int (i32 (0))) := eL64 ▸ jg_eq
  exact c_findLengths_at_2 (X := X) (d := d) (c0 := c0) (c1 := c1) (G := G) (A := A) (T := T) (st := st) (hd := hd) (hW := hW) (e_st := e_st) (p_0 := p_0) (p_1 := p_1) (p_2 := p_2) _ L64 G A (0) rfl gL64_0 gL64_1 hW hF0 ((e_st)) (by omega) (by omega) (by omega) ((fun j hj => by omega)) ((fun j hj _ => by omega))
