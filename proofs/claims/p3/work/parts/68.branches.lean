/-- what the uses of two branches have in common does not clash -/
def PK2 (A : Nat → Nat → Int) (mk i j : Int) : Prop := A 39 i.toNat = A 39 j.toNat → A 39 i.toNat < mk → (A 41 i.toNat = 1 ∨ A 41 j.toNat = 1 ∨ A 40 i.toNat = A 40 j.toNat) → NC (A 42 i.toNat) (A 42 j.toNat)
def NK2 (A : Nat → Nat → Int) (f1 t1 f2 t2 mk : Int) : Prop := ∀ i j : Int, f1 ≤ i → i < t1 → f2 ≤ j → j < t2 → PK2 A mk i j
def NKb (A : Nat → Nat → Int) (i f2 j mk : Int) : Prop := ∀ j_q : Int, f2 ≤ j_q → j_q < j → PK2 A mk i j_q
theorem NK2_0 {A : Nat → Nat → Int} {f1 t1 f2 t2 mk : Int} (h : t1 ≤ f1) : NK2 A f1 t1 f2 t2 mk := fun i j h1 h2 => by omega
theorem NKb_0 {A : Nat → Nat → Int} {i f2 j mk : Int} (h : j ≤ f2) : NKb A i f2 j mk := fun j_q h1 h2 => by omega
theorem NKb_nx {A : Nat → Nat → Int} {i f2 j j1 mk : Int} (h : NKb A i f2 j mk) (hj : j1 = j + 1) (hp : PK2 A mk i j) : NKb A i f2 j1 mk := fun j_q h1 h2 => by
  by_cases e : j_q = j
  · subst e
    exact hp
  · exact h j_q h1 (by omega)
theorem NK2_nx {A : Nat → Nat → Int} {f1 i i1 f2 t2 mk j : Int} (h : NK2 A f1 i f2 t2 mk) (hi : i1 = i + 1) (hb : NKb A i f2 j mk) (hj : t2 ≤ j) : NK2 A f1 i1 f2 t2 mk := fun i_q j_q h1 h2 h3 h4 => by
  by_cases e : i_q = i
  · subst e
    exact hb j_q h3 (by omega)
  · exact h i_q j_q h1 (by omega) h3 h4
theorem NK2_e {A : Nat → Nat → Int} {f1 t1 t1' f2 t2 mk : Int} (h : NK2 A f1 t1 f2 t2 mk) (e : t1' ≤ t1) : NK2 A f1 t1' f2 t2 mk := fun i j h1 h2 h3 h4 => h i j h1 (by omega) h3 h4

set_option maxRecDepth 20000 in
set_option maxHeartbeats 4000000 in
theorem c_branchesClash_at_3 {X : jX} {d : Nat} {c0 c1 : jC} {G : Nat → Int} {A : Nat → Nat → Int} {T : jH} {f1 t1 f2 t2 mk : Int} (hd : 2 ≤ d + 1) (hW : Wk G A) (h_f1 : (-2147483648 : Int) ≤ f1 ∧ f1 ≤ 2147483647) (h_t1 : (-2147483648 : Int) ≤ t1 ∧ t1 ≤ 2147483647) (h_f2 : (-2147483648 : Int) ≤ f2 ∧ f2 ≤ 2147483647) (h_t2 : (-2147483648 : Int) ≤ t2 ∧ t2 ≤ 2147483647) (h_mk : (-2147483648 : Int) ≤ mk ∧ mk ≤ 2147483647) (p_0 : 0 ≤ f1) (p_1 : t1 ≤ 60000) (p_2 : 0 ≤ f2) (p_3 : t2 ≤ 60000) (p_4 : (∀ j : Int, 0 ≤ j → j < t1 → 0 ≤ A 42 (j).toNat ∧ A 42 (j).toNat ≤ 15)) (p_5 : (∀ j : Int, 0 ≤ j → j < t2 → 0 ≤ A 42 (j).toNat ∧ A 42 (j).toNat ≤ 15)) : ∀ (m : Nat) (L : jL) (i : Int), (t1 - i).toNat = m → jGet L 0 = some (.ref 66) → jGet L 1 = some (.int (i32 (f1))) → jGet L 2 = some (.int (i32 (t1))) → jGet L 3 = some (.int (i32 (f2))) → jGet L 4 = some (.int (i32 (t2))) → jGet L 5 = some (.int (i32 (mk))) → jGet L 6 = some (.int (i32 i)) → ((-2147483648 : Int) ≤ i ∧ i ≤ 2147483647) → (f1 ≤ i) → (NK2 A (f1) (i) (f2) (t2) (mk)) → wj X d jm335 (3, L, [], rV c0 c1 G A T) (fun o V_q => ∃ (r : Int), V_q = rV c0 c1 G A T ∧ o = .inl (some (.int (i32 r))) ∧ ((0 : Int) ≤ r ∧ r ≤ 1) ∧ ((r = 1) ∨ (r = 0 ∧ (NK2 A (f1) (t1) (f2) (t2) (mk))))) := by
  intro m
  induction m using Nat.strongRecOn with
  | ind m ih3 =>
    intro L i hm gL_0 gL_1 gL_2 gL_3 gL_4 gL_5 gL_6 rx_i iv_0 iv_1
    have at_12 : ∀ (m : Nat) (L : jL) (ii j : Int), (t2 - j).toNat = m → jGet L 0 = some (.ref 66) → jGet L 1 = some (.int (i32 (f1))) → jGet L 2 = some (.int (i32 (t1))) → jGet L 3 = some (.int (i32 (f2))) → jGet L 4 = some (.int (i32 (t2))) → jGet L 5 = some (.int (i32 (mk))) → jGet L 6 = some (.int (i32 ii)) → jGet L 7 = some (.int (i32 j)) → ((-2147483648 : Int) ≤ ii ∧ ii ≤ 2147483647) → ((-2147483648 : Int) ≤ j ∧ j ≤ 2147483647) → (ii = i) → (f1 ≤ ii) → (ii < t1) → (f2 ≤ j) → (NK2 A (f1) (ii) (f2) (t2) (mk)) → (NKb A (ii) (f2) (j) (mk)) → wj X d jm335 (12, L, [], rV c0 c1 G A T) (fun o V_q => ∃ (r : Int), V_q = rV c0 c1 G A T ∧ o = .inl (some (.int (i32 r))) ∧ ((0 : Int) ≤ r ∧ r ≤ 1) ∧ ((r = 1) ∨ (r = 0 ∧ (NK2 A (f1) (t1) (f2) (t2) (mk))))) := by
      intro m
      induction m using Nat.strongRecOn with
      | ind m ih12 =>
        intro L ii j hm gL_0 gL_1 gL_2 gL_3 gL_4 gL_5 gL_6 gL_7 rx_ii rx_j iv_0 iv_1 iv_2 iv_3 iv_4 iv_5
        have _q : True := trivial
        refine jx_ld (pc_q := 14) (l_q := L) (st_q := [.int (i32 (j))]) rfl (jl_iload gL_7) ?_
        refine jx_ld (pc_q := 16) (l_q := L) (st_q := [.int (i32 (t2)), .int (i32 (j))]) rfl (jl_iload gL_4) ?_
        refine jx_icmp_ge (pc_q := 19) (tg := 125) rfl rfl rfl (Int.le_trans (by decide : (-2147483648 : Int) ≤ -2147483648) rx_j.1) (Int.le_trans rx_j.2 (by decide : (2147483647 : Int) ≤ 2147483647)) (Int.le_trans (by decide : (-2147483648 : Int) ≤ -2147483648) h_t2.1) (Int.le_trans h_t2.2 (by decide : (2147483647 : Int) ≤ 2147483647)) (fun h1 => ?_) (fun h1 => ?_)
        · have _q := h1
          refine jx_inc (pc_q := 128) (l_q := jSto1 L 6 (.int (i32 ((ii + (1)))))) (x := ii) rfl gL_6 (by decide) rfl rfl ?_
          obtain ⟨L2, eL2⟩ : ∃ q, q = jSto1 L 6 (.int (i32 ((ii + (1))))) := ⟨_, rfl⟩
          rw [← eL2]
          have gL2_0 : jGet L2 0 = some (.ref 66) := eL2 ▸ jg_ne (by decide) gL_0 rfl
          have gL2_1 : jGet L2 1 = some (.int (i32 (f1))) := eL2 ▸ jg_ne (by decide) gL_1 rfl
          have gL2_2 : jGet L2 2 = some (.int (i32 (t1))) := eL2 ▸ jg_ne (by decide) gL_2 rfl
          have gL2_3 : jGet L2 3 = some (.int (i32 (f2))) := eL2 ▸ jg_ne (by decide) gL_3 rfl
          have gL2_4 : jGet L2 4 = some (.int (i32 (t2))) := eL2 ▸ jg_ne (by decide) gL_4 rfl
          have gL2_5 : jGet L2 5 = some (.int (i32 (mk))) := eL2 ▸ jg_ne (by decide) gL_5 rfl
          have gL2_7 : jGet L2 7 = some (.int (i32 (j))) := eL2 ▸ jg_ne (by decide) gL_7 rfl
          have gL2_6 : jGet L2 6 = some (.int (i32 ((ii + (1))))) := eL2 ▸ jg_eq
          refine jx_go (tg := 3) rfl rfl ?_
          exact ih3 _ (by omega) L2 ((ii + (1))) rfl gL2_0 gL2_1 gL2_2 gL2_3 gL2_4 gL2_5 gL2_6 (by omega) (by omega) ((NK2_nx iv_4 (by omega) iv_5 (by omega)))
        · have _q := h1
          have hd1 := p_4 ii (by omega) (by omega); have hd2 := p_5 j (by omega) (by omega)
          refine jx_ld (pc_q := 20) (l_q := L) (st_q := [.ref 66]) rfl (jl_aloadn gL_0) ?_
          refine jr_get (pc_q := 23) (i := 63) (v := .ref 106) rfl rfl (by decide) rfl rfl ?_
          refine jx_ld (pc_q := 25) (l_q := L) (st_q := [.int (i32 (ii)), .ref 106]) rfl (jl_iload gL_6) ?_
          have b3 : (-2147483648 : Int) ≤ A 39 (ii).toNat ∧ A 39 (ii).toNat ≤ 2147483647 := hW.2 39 _
          refine jr_ldv (pc_q := 26) (i := 39) (m := 60000) (z := ii) (y := A 39 (ii).toNat) rfl (by decide) rfl (by decide) (by omega) (by omega) rfl (show A 39 (ii).toNat = A 39 (ii).toNat from rfl) ?_
          refine jx_ld (pc_q := 27) (l_q := L) (st_q := [.ref 66, .int (i32 (A 39 (ii).toNat))]) rfl (jl_aloadn gL_0) ?_
          refine jr_get (pc_q := 30) (i := 63) (v := .ref 106) rfl rfl (by decide) rfl rfl ?_
          refine jx_ld (pc_q := 32) (l_q := L) (st_q := [.int (i32 (j)), .ref 106, .int (i32 (A 39 (ii).toNat))]) rfl (jl_iload gL_7) ?_
          have b4 : (-2147483648 : Int) ≤ A 39 (j).toNat ∧ A 39 (j).toNat ≤ 2147483647 := hW.2 39 _
          refine jr_ldv (pc_q := 33) (i := 39) (m := 60000) (z := j) (y := A 39 (j).toNat) rfl (by decide) rfl (by decide) (by omega) (by omega) rfl (show A 39 (j).toNat = A 39 (j).toNat from rfl) ?_
          refine jx_icmp_ne (pc_q := 36) (tg := 89) rfl rfl rfl (Int.le_trans (by decide : (-2147483648 : Int) ≤ -2147483648) b3.1) (Int.le_trans b3.2 (by decide : (2147483647 : Int) ≤ 2147483647)) (Int.le_trans (by decide : (-2147483648 : Int) ≤ -2147483648) b4.1) (Int.le_trans b4.2 (by decide : (2147483647 : Int) ≤ 2147483647)) (fun h5 => ?_) (fun h5 => ?_)
          · have _q := h5
            refine jx_ar (pc_q := 90) (st_q := [.int (i32 (0))]) rfl rfl rfl rfl ?_
            refine jx_ld (pc_q := 92) (l_q := jSto1 L 8 (.int (i32 (0)))) (st_q := []) rfl rfl ?_
            obtain ⟨L6, eL6⟩ : ∃ q, q = jSto1 L 8 (.int (i32 (0))) := ⟨_, rfl⟩
            rw [← eL6]
            have gL6_0 : jGet L6 0 = some (.ref 66) := eL6 ▸ jg_ne (by decide) gL_0 rfl
            have gL6_1 : jGet L6 1 = some (.int (i32 (f1))) := eL6 ▸ jg_ne (by decide) gL_1 rfl
            have gL6_2 : jGet L6 2 = some (.int (i32 (t1))) := eL6 ▸ jg_ne (by decide) gL_2 rfl
            have gL6_3 : jGet L6 3 = some (.int (i32 (f2))) := eL6 ▸ jg_ne (by decide) gL_3 rfl
            have gL6_4 : jGet L6 4 = some (.int (i32 (t2))) := eL6 ▸ jg_ne (by decide) gL_4 rfl
            have gL6_5 : jGet L6 5 = some (.int (i32 (mk))) := eL6 ▸ jg_ne (by decide) gL_5 rfl
            have gL6_6 : jGet L6 6 = some (.int (i32 (ii))) := eL6 ▸ jg_ne (by decide) gL_6 rfl
            have gL6_7 : jGet L6 7 = some (.int (i32 (j))) := eL6 ▸ jg_ne (by decide) gL_7 rfl
            have gL6_8 : jGet L6 8 = some (.int (i32 (0))) := eL6 ▸ jg_eq
            refine jx_ld (pc_q := 94) (l_q := L6) (st_q := [.int (i32 (0))]) rfl (jl_iload gL6_8) ?_
            refine jx_if_eq (pc_q := 97) (tg := 119) rfl rfl rfl (by decide) (by decide) (fun h7 => ?_) (fun h7 => ?_)
            · have _q := h7
              refine jx_inc (pc_q := 122) (l_q := jSto1 L6 7 (.int (i32 ((j + (1)))))) (x := j) rfl gL6_7 (by decide) rfl rfl ?_
              obtain ⟨L8, eL8⟩ : ∃ q, q = jSto1 L6 7 (.int (i32 ((j + (1))))) := ⟨_, rfl⟩
              rw [← eL8]
              have gL8_0 : jGet L8 0 = some (.ref 66) := eL8 ▸ jg_ne (by decide) gL6_0 rfl
              have gL8_1 : jGet L8 1 = some (.int (i32 (f1))) := eL8 ▸ jg_ne (by decide) gL6_1 rfl
              have gL8_2 : jGet L8 2 = some (.int (i32 (t1))) := eL8 ▸ jg_ne (by decide) gL6_2 rfl
              have gL8_3 : jGet L8 3 = some (.int (i32 (f2))) := eL8 ▸ jg_ne (by decide) gL6_3 rfl
              have gL8_4 : jGet L8 4 = some (.int (i32 (t2))) := eL8 ▸ jg_ne (by decide) gL6_4 rfl
              have gL8_5 : jGet L8 5 = some (.int (i32 (mk))) := eL8 ▸ jg_ne (by decide) gL6_5 rfl
              have gL8_6 : jGet L8 6 = some (.int (i32 (ii))) := eL8 ▸ jg_ne (by decide) gL6_6 rfl
              have gL8_8 : jGet L8 8 = some (.int (i32 (0))) := eL8 ▸ jg_ne (by decide) gL6_8 rfl
              have gL8_7 : jGet L8 7 = some (.int (i32 ((j + (1))))) := eL8 ▸ jg_eq
              refine jx_go (tg := 12) rfl rfl ?_
              exact ih12 _ (by omega) L8 (ii) ((j + (1))) rfl gL8_0 gL8_1 gL8_2 gL8_3 gL8_4 gL8_5 gL8_6 gL8_7 (by omega) (by omega) (by omega) (by omega) (by omega) (by omega) (iv_4) ((NKb_nx iv_5 (by omega) (fun h1 h2 h3 => (by exfalso; omega))))
            · have _q := h7
              exact absurd h7 (by omega)
          · have _q := h5
            refine jx_ld (pc_q := 37) (l_q := L) (st_q := [.ref 66]) rfl (jl_aloadn gL_0) ?_
            refine jr_get (pc_q := 40) (i := 63) (v := .ref 106) rfl rfl (by decide) rfl rfl ?_
            refine jx_ld (pc_q := 42) (l_q := L) (st_q := [.int (i32 (ii)), .ref 106]) rfl (jl_iload gL_6) ?_
            refine jr_ldv (pc_q := 43) (i := 39) (m := 60000) (z := ii) (y := A 39 (ii).toNat) rfl (by decide) rfl (by decide) (by omega) (by omega) rfl (show A 39 (ii).toNat = A 39 (ii).toNat from rfl) ?_
            refine jx_ld (pc_q := 45) (l_q := L) (st_q := [.int (i32 (mk)), .int (i32 (A 39 (ii).toNat))]) rfl (jl_iload gL_5) ?_
            refine jx_icmp_ge (pc_q := 48) (tg := 89) rfl rfl rfl (Int.le_trans (by decide : (-2147483648 : Int) ≤ -2147483648) b3.1) (Int.le_trans b3.2 (by decide : (2147483647 : Int) ≤ 2147483647)) (Int.le_trans (by decide : (-2147483648 : Int) ≤ -2147483648) h_mk.1) (Int.le_trans h_mk.2 (by decide : (2147483647 : Int) ≤ 2147483647)) (fun h9 => ?_) (fun h9 => ?_)
            · have _q := h9
              refine jx_ar (pc_q := 90) (st_q := [.int (i32 (0))]) rfl rfl rfl rfl ?_
              refine jx_ld (pc_q := 92) (l_q := jSto1 L 8 (.int (i32 (0)))) (st_q := []) rfl rfl ?_
              obtain ⟨L10, eL10⟩ : ∃ q, q = jSto1 L 8 (.int (i32 (0))) := ⟨_, rfl⟩
              rw [← eL10]
              have gL10_0 : jGet L10 0 = some (.ref 66) := eL10 ▸ jg_ne (by decide) gL_0 rfl
              have gL10_1 : jGet L10 1 = some (.int (i32 (f1))) := eL10 ▸ jg_ne (by decide) gL_1 rfl
              have gL10_2 : jGet L10 2 = some (.int (i32 (t1))) := eL10 ▸ jg_ne (by decide) gL_2 rfl
              have gL10_3 : jGet L10 3 = some (.int (i32 (f2))) := eL10 ▸ jg_ne (by decide) gL_3 rfl
              have gL10_4 : jGet L10 4 = some (.int (i32 (t2))) := eL10 ▸ jg_ne (by decide) gL_4 rfl
              have gL10_5 : jGet L10 5 = some (.int (i32 (mk))) := eL10 ▸ jg_ne (by decide) gL_5 rfl
              have gL10_6 : jGet L10 6 = some (.int (i32 (ii))) := eL10 ▸ jg_ne (by decide) gL_6 rfl
              have gL10_7 : jGet L10 7 = some (.int (i32 (j))) := eL10 ▸ jg_ne (by decide) gL_7 rfl
              have gL10_8 : jGet L10 8 = some (.int (i32 (0))) := eL10 ▸ jg_eq
              refine jx_ld (pc_q := 94) (l_q := L10) (st_q := [.int (i32 (0))]) rfl (jl_iload gL10_8) ?_
              refine jx_if_eq (pc_q := 97) (tg := 119) rfl rfl rfl (by decide) (by decide) (fun h11 => ?_) (fun h11 => ?_)
              · have _q := h11
                refine jx_inc (pc_q := 122) (l_q := jSto1 L10 7 (.int (i32 ((j + (1)))))) (x := j) rfl gL10_7 (by decide) rfl rfl ?_
                obtain ⟨L12, eL12⟩ : ∃ q, q = jSto1 L10 7 (.int (i32 ((j + (1))))) := ⟨_, rfl⟩
                rw [← eL12]
                have gL12_0 : jGet L12 0 = some (.ref 66) := eL12 ▸ jg_ne (by decide) gL10_0 rfl
                have gL12_1 : jGet L12 1 = some (.int (i32 (f1))) := eL12 ▸ jg_ne (by decide) gL10_1 rfl
                have gL12_2 : jGet L12 2 = some (.int (i32 (t1))) := eL12 ▸ jg_ne (by decide) gL10_2 rfl
                have gL12_3 : jGet L12 3 = some (.int (i32 (f2))) := eL12 ▸ jg_ne (by decide) gL10_3 rfl
                have gL12_4 : jGet L12 4 = some (.int (i32 (t2))) := eL12 ▸ jg_ne (by decide) gL10_4 rfl
                have gL12_5 : jGet L12 5 = some (.int (i32 (mk))) := eL12 ▸ jg_ne (by decide) gL10_5 rfl
                have gL12_6 : jGet L12 6 = some (.int (i32 (ii))) := eL12 ▸ jg_ne (by decide) gL10_6 rfl
                have gL12_8 : jGet L12 8 = some (.int (i32 (0))) := eL12 ▸ jg_ne (by decide) gL10_8 rfl
                have gL12_7 : jGet L12 7 = some (.int (i32 ((j + (1))))) := eL12 ▸ jg_eq
                refine jx_go (tg := 12) rfl rfl ?_
                exact ih12 _ (by omega) L12 (ii) ((j + (1))) rfl gL12_0 gL12_1 gL12_2 gL12_3 gL12_4 gL12_5 gL12_6 gL12_7 (by omega) (by omega) (by omega) (by omega) (by omega) (by omega) (iv_4) ((NKb_nx iv_5 (by omega) (fun h1 h2 h3 => (by exfalso; omega))))
              · have _q := h11
                exact absurd h11 (by omega)
            · have _q := h9
              refine jx_ld (pc_q := 49) (l_q := L) (st_q := [.ref 66]) rfl (jl_aloadn gL_0) ?_
              refine jr_get (pc_q := 52) (i := 65) (v := .ref 108) rfl rfl (by decide) rfl rfl ?_
              refine jx_ld (pc_q := 54) (l_q := L) (st_q := [.int (i32 (ii)), .ref 108]) rfl (jl_iload gL_6) ?_
              have b13 : (0 : Int) ≤ A 41 (ii).toNat ∧ A 41 (ii).toNat ≤ 1 := hW.2 41 _
              refine jr_lbv (pc_q := 55) (i := 41) (m := 60000) (z := ii) (y := A 41 (ii).toNat) rfl (by decide) rfl (by decide) (by omega) (by omega) rfl (show A 41 (ii).toNat = A 41 (ii).toNat from rfl) ?_
              refine jx_if_ne (pc_q := 58) (tg := 85) rfl rfl rfl (Int.le_trans (by decide : (-2147483648 : Int) ≤ 0) b13.1) (Int.le_trans b13.2 (by decide : (1 : Int) ≤ 2147483647)) (fun h14 => ?_) (fun h14 => ?_)
              · have _q := h14
                refine jx_ar (pc_q := 86) (st_q := [.int (i32 (1))]) rfl rfl rfl rfl ?_
                refine jx_go (tg := 90) rfl rfl ?_
                refine jx_ld (pc_q := 92) (l_q := jSto1 L 8 (.int (i32 (1)))) (st_q := []) rfl rfl ?_
                obtain ⟨L15, eL15⟩ : ∃ q, q = jSto1 L 8 (.int (i32 (1))) := ⟨_, rfl⟩
                rw [← eL15]
                have gL15_0 : jGet L15 0 = some (.ref 66) := eL15 ▸ jg_ne (by decide) gL_0 rfl
                have gL15_1 : jGet L15 1 = some (.int (i32 (f1))) := eL15 ▸ jg_ne (by decide) gL_1 rfl
                have gL15_2 : jGet L15 2 = some (.int (i32 (t1))) := eL15 ▸ jg_ne (by decide) gL_2 rfl
                have gL15_3 : jGet L15 3 = some (.int (i32 (f2))) := eL15 ▸ jg_ne (by decide) gL_3 rfl
                have gL15_4 : jGet L15 4 = some (.int (i32 (t2))) := eL15 ▸ jg_ne (by decide) gL_4 rfl
                have gL15_5 : jGet L15 5 = some (.int (i32 (mk))) := eL15 ▸ jg_ne (by decide) gL_5 rfl
                have gL15_6 : jGet L15 6 = some (.int (i32 (ii))) := eL15 ▸ jg_ne (by decide) gL_6 rfl
                have gL15_7 : jGet L15 7 = some (.int (i32 (j))) := eL15 ▸ jg_ne (by decide) gL_7 rfl
                have gL15_8 : jGet L15 8 = some (.int (i32 (1))) := eL15 ▸ jg_eq
                refine jx_ld (pc_q := 94) (l_q := L15) (st_q := [.int (i32 (1))]) rfl (jl_iload gL15_8) ?_
                refine jx_if_eq (pc_q := 97) (tg := 119) rfl rfl rfl (by decide) (by decide) (fun h16 => ?_) (fun h16 => ?_)
                · have _q := h16
                  exact absurd h16 (by omega)
                · have _q := h16
                  have _q : True := trivial
                  refine jx_ld (pc_q := 98) (l_q := L15) (st_q := [.ref 66]) rfl (jl_aloadn gL15_0) ?_
                  refine jr_get (pc_q := 101) (i := 66) (v := .ref 109) rfl rfl (by decide) rfl rfl ?_
                  refine jx_ld (pc_q := 103) (l_q := L15) (st_q := [.int (i32 (ii)), .ref 109]) rfl (jl_iload gL15_6) ?_
                  have b17 : (-2147483648 : Int) ≤ A 42 (ii).toNat ∧ A 42 (ii).toNat ≤ 2147483647 := hW.2 42 _
                  refine jr_ldv (pc_q := 104) (i := 42) (m := 60000) (z := ii) (y := A 42 (ii).toNat) rfl (by decide) rfl (by decide) (by omega) (by omega) rfl (show A 42 (ii).toNat = A 42 (ii).toNat from rfl) ?_
                  refine jx_ld (pc_q := 105) (l_q := L15) (st_q := [.ref 66, .int (i32 (A 42 (ii).toNat))]) rfl (jl_aloadn gL15_0) ?_
                  refine jr_get (pc_q := 108) (i := 66) (v := .ref 109) rfl rfl (by decide) rfl rfl ?_
                  refine jx_ld (pc_q := 110) (l_q := L15) (st_q := [.int (i32 (j)), .ref 109, .int (i32 (A 42 (ii).toNat))]) rfl (jl_iload gL15_7) ?_
                  have b18 : (-2147483648 : Int) ≤ A 42 (j).toNat ∧ A 42 (j).toNat ≤ 2147483647 := hW.2 42 _
                  refine jr_ldv (pc_q := 111) (i := 42) (m := 60000) (z := j) (y := A 42 (j).toNat) rfl (by decide) rfl (by decide) (by omega) (by omega) rfl (show A 42 (j).toNat = A 42 (j).toNat from rfl) ?_
                  refine jx_st (pc_q := 114) (as := [.int (i32 (A 42 (ii).toNat)), .int (i32 (A 42 (j).toNat))]) (st := []) rfl rfl ⟨rfl, Nat.le_of_ble_eq_true rfl⟩ rfl rfl rfl (c_clash (dd := d) (hd := by omega) (a := A 42 (ii).toNat) (b := A 42 (j).toNat)   (h_a := ⟨(Int.le_trans (by decide : (-2147483648 : Int) ≤ -2147483648) b17.1), (Int.le_trans b17.2 (by decide : (2147483647 : Int) ≤ 2147483647))⟩) (h_b := ⟨(Int.le_trans (by decide : (-2147483648 : Int) ≤ -2147483648) b18.1), (Int.le_trans b18.2 (by decide : (2147483647 : Int) ≤ 2147483647))⟩)  (p_0 := by omega) (p_1 := by omega) (p_2 := by omega) (p_3 := by omega)) (fun o V_q hq => ?_)
                  obtain ⟨r19, rfl, rfl, b20, q21⟩ := hq
                  refine .inr ⟨_, rfl, ?_⟩
                  rcases q21 with rfl | ⟨rfl, a22⟩
                  · have _q : True := trivial
                    refine jx_if_eq (pc_q := 117) (tg := 119) rfl rfl rfl (by decide) (by decide) (fun h23 => ?_) (fun h23 => ?_)
                    · have _q := h23
                      exact absurd h23 (by omega)
                    · have _q := h23
                      refine jx_ar (pc_q := 118) (st_q := [.int (i32 (1))]) rfl rfl rfl rfl ?_
                      refine jx_rt (v := some (.int (i32 (1)))) rfl rfl rfl rfl rfl (by first | rfl | exact jRet_b (by omega)) ?_
                      exact ⟨_, rfl, rfl, by omega, by first | exact Or.inl (by omega) | exact Or.inr ((⟨by omega, (NK2_e iv_1 (by omega))⟩))⟩
                  · have _q : True := trivial
                    refine jx_if_eq (pc_q := 117) (tg := 119) rfl rfl rfl (by decide) (by decide) (fun h24 => ?_) (fun h24 => ?_)
                    · have _q := h24
                      refine jx_inc (pc_q := 122) (l_q := jSto1 L15 7 (.int (i32 ((j + (1)))))) (x := j) rfl gL15_7 (by decide) rfl rfl ?_
                      obtain ⟨L25, eL25⟩ : ∃ q, q = jSto1 L15 7 (.int (i32 ((j + (1))))) := ⟨_, rfl⟩
                      rw [← eL25]
                      have gL25_0 : jGet L25 0 = some (.ref 66) := eL25 ▸ jg_ne (by decide) gL15_0 rfl
                      have gL25_1 : jGet L25 1 = some (.int (i32 (f1))) := eL25 ▸ jg_ne (by decide) gL15_1 rfl
                      have gL25_2 : jGet L25 2 = some (.int (i32 (t1))) := eL25 ▸ jg_ne (by decide) gL15_2 rfl
                      have gL25_3 : jGet L25 3 = some (.int (i32 (f2))) := eL25 ▸ jg_ne (by decide) gL15_3 rfl
                      have gL25_4 : jGet L25 4 = some (.int (i32 (t2))) := eL25 ▸ jg_ne (by decide) gL15_4 rfl
                      have gL25_5 : jGet L25 5 = some (.int (i32 (mk))) := eL25 ▸ jg_ne (by decide) gL15_5 rfl
                      have gL25_6 : jGet L25 6 = some (.int (i32 (ii))) := eL25 ▸ jg_ne (by decide) gL15_6 rfl
                      have gL25_8 : jGet L25 8 = some (.int (i32 (1))) := eL25 ▸ jg_ne (by decide) gL15_8 rfl
                      have gL25_7 : jGet L25 7 = some (.int (i32 ((j + (1))))) := eL25 ▸ jg_eq
                      refine jx_go (tg := 12) rfl rfl ?_
                      exact ih12 _ (by omega) L25 (ii) ((j + (1))) rfl gL25_0 gL25_1 gL25_2 gL25_3 gL25_4 gL25_5 gL25_6 gL25_7 (by omega) (by omega) (by omega) (by omega) (by omega) (by omega) (iv_4) ((NKb_nx iv_5 (by omega) (fun _ _ _ => a22)))
                    · have _q := h24
                      exact absurd h24 (by omega)
              · have _q := h14
                refine jx_ld (pc_q := 59) (l_q := L) (st_q := [.ref 66]) rfl (jl_aloadn gL_0) ?_
                refine jr_get (pc_q := 62) (i := 65) (v := .ref 108) rfl rfl (by decide) rfl rfl ?_
                refine jx_ld (pc_q := 64) (l_q := L) (st_q := [.int (i32 (j)), .ref 108]) rfl (jl_iload gL_7) ?_
                have b26 : (0 : Int) ≤ A 41 (j).toNat ∧ A 41 (j).toNat ≤ 1 := hW.2 41 _
                refine jr_lbv (pc_q := 65) (i := 41) (m := 60000) (z := j) (y := A 41 (j).toNat) rfl (by decide) rfl (by decide) (by omega) (by omega) rfl (show A 41 (j).toNat = A 41 (j).toNat from rfl) ?_
                refine jx_if_ne (pc_q := 68) (tg := 85) rfl rfl rfl (Int.le_trans (by decide : (-2147483648 : Int) ≤ 0) b26.1) (Int.le_trans b26.2 (by decide : (1 : Int) ≤ 2147483647)) (fun h27 => ?_) (fun h27 => ?_)
                · have _q := h27
                  refine jx_ar (pc_q := 86) (st_q := [.int (i32 (1))]) rfl rfl rfl rfl ?_
                  refine jx_go (tg := 90) rfl rfl ?_
                  refine jx_ld (pc_q := 92) (l_q := jSto1 L 8 (.int (i32 (1)))) (st_q := []) rfl rfl ?_
                  obtain ⟨L28, eL28⟩ : ∃ q, q = jSto1 L 8 (.int (i32 (1))) := ⟨_, rfl⟩
                  rw [← eL28]
                  have gL28_0 : jGet L28 0 = some (.ref 66) := eL28 ▸ jg_ne (by decide) gL_0 rfl
                  have gL28_1 : jGet L28 1 = some (.int (i32 (f1))) := eL28 ▸ jg_ne (by decide) gL_1 rfl
                  have gL28_2 : jGet L28 2 = some (.int (i32 (t1))) := eL28 ▸ jg_ne (by decide) gL_2 rfl
                  have gL28_3 : jGet L28 3 = some (.int (i32 (f2))) := eL28 ▸ jg_ne (by decide) gL_3 rfl
                  have gL28_4 : jGet L28 4 = some (.int (i32 (t2))) := eL28 ▸ jg_ne (by decide) gL_4 rfl
                  have gL28_5 : jGet L28 5 = some (.int (i32 (mk))) := eL28 ▸ jg_ne (by decide) gL_5 rfl
                  have gL28_6 : jGet L28 6 = some (.int (i32 (ii))) := eL28 ▸ jg_ne (by decide) gL_6 rfl
                  have gL28_7 : jGet L28 7 = some (.int (i32 (j))) := eL28 ▸ jg_ne (by decide) gL_7 rfl
                  have gL28_8 : jGet L28 8 = some (.int (i32 (1))) := eL28 ▸ jg_eq
                  refine jx_ld (pc_q := 94) (l_q := L28) (st_q := [.int (i32 (1))]) rfl (jl_iload gL28_8) ?_
                  refine jx_if_eq (pc_q := 97) (tg := 119) rfl rfl rfl (by decide) (by decide) (fun h29 => ?_) (fun h29 => ?_)
                  · have _q := h29
                    exact absurd h29 (by omega)
                  · have _q := h29
                    have _q : True := trivial
                    refine jx_ld (pc_q := 98) (l_q := L28) (st_q := [.ref 66]) rfl (jl_aloadn gL28_0) ?_
                    refine jr_get (pc_q := 101) (i := 66) (v := .ref 109) rfl rfl (by decide) rfl rfl ?_
                    refine jx_ld (pc_q := 103) (l_q := L28) (st_q := [.int (i32 (ii)), .ref 109]) rfl (jl_iload gL28_6) ?_
                    have b30 : (-2147483648 : Int) ≤ A 42 (ii).toNat ∧ A 42 (ii).toNat ≤ 2147483647 := hW.2 42 _
                    refine jr_ldv (pc_q := 104) (i := 42) (m := 60000) (z := ii) (y := A 42 (ii).toNat) rfl (by decide) rfl (by decide) (by omega) (by omega) rfl (show A 42 (ii).toNat = A 42 (ii).toNat from rfl) ?_
                    refine jx_ld (pc_q := 105) (l_q := L28) (st_q := [.ref 66, .int (i32 (A 42 (ii).toNat))]) rfl (jl_aloadn gL28_0) ?_
                    refine jr_get (pc_q := 108) (i := 66) (v := .ref 109) rfl rfl (by decide) rfl rfl ?_
                    refine jx_ld (pc_q := 110) (l_q := L28) (st_q := [.int (i32 (j)), .ref 109, .int (i32 (A 42 (ii).toNat))]) rfl (jl_iload gL28_7) ?_
                    have b31 : (-2147483648 : Int) ≤ A 42 (j).toNat ∧ A 42 (j).toNat ≤ 2147483647 := hW.2 42 _
                    refine jr_ldv (pc_q := 111) (i := 42) (m := 60000) (z := j) (y := A 42 (j).toNat) rfl (by decide) rfl (by decide) (by omega) (by omega) rfl (show A 42 (j).toNat = A 42 (j).toNat from rfl) ?_
                    refine jx_st (pc_q := 114) (as := [.int (i32 (A 42 (ii).toNat)), .int (i32 (A 42 (j).toNat))]) (st := []) rfl rfl ⟨rfl, Nat.le_of_ble_eq_true rfl⟩ rfl rfl rfl (c_clash (dd := d) (hd := by omega) (a := A 42 (ii).toNat) (b := A 42 (j).toNat)   (h_a := ⟨(Int.le_trans (by decide : (-2147483648 : Int) ≤ -2147483648) b30.1), (Int.le_trans b30.2 (by decide : (2147483647 : Int) ≤ 2147483647))⟩) (h_b := ⟨(Int.le_trans (by decide : (-2147483648 : Int) ≤ -2147483648) b31.1), (Int.le_trans b31.2 (by decide : (2147483647 : Int) ≤ 2147483647))⟩)  (p_0 := by omega) (p_1 := by omega) (p_2 := by omega) (p_3 := by omega)) (fun o V_q hq => ?_)
                    obtain ⟨r32, rfl, rfl, b33, q34⟩ := hq
                    refine .inr ⟨_, rfl, ?_⟩
                    rcases q34 with rfl | ⟨rfl, a35⟩
                    · have _q : True := trivial
                      refine jx_if_eq (pc_q := 117) (tg := 119) rfl rfl rfl (by decide) (by decide) (fun h36 => ?_) (fun h36 => ?_)
                      · have _q := h36
                        exact absurd h36 (by omega)
                      · have _q := h36
                        refine jx_ar (pc_q := 118) (st_q := [.int (i32 (1))]) rfl rfl rfl rfl ?_
                        refine jx_rt (v := some (.int (i32 (1)))) rfl rfl rfl rfl rfl (by first | rfl | exact jRet_b (by omega)) ?_
                        exact ⟨_, rfl, rfl, by omega, by first | exact Or.inl (by omega) | exact Or.inr ((⟨by omega, (NK2_e iv_1 (by omega))⟩))⟩
                    · have _q : True := trivial
                      refine jx_if_eq (pc_q := 117) (tg := 119) rfl rfl rfl (by decide) (by decide) (fun h37 => ?_) (fun h37 => ?_)
                      · have _q := h37
                        refine jx_inc (pc_q := 122) (l_q := jSto1 L28 7 (.int (i32 ((j + (1)))))) (x := j) rfl gL28_7 (by decide) rfl rfl ?_
                        obtain ⟨L38, eL38⟩ : ∃ q, q = jSto1 L28 7 (.int (i32 ((j + (1))))) := ⟨_, rfl⟩
                        rw [← eL38]
                        have gL38_0 : jGet L38 0 = some (.ref 66) := eL38 ▸ jg_ne (by decide) gL28_0 rfl
                        have gL38_1 : jGet L38 1 = some (.int (i32 (f1))) := eL38 ▸ jg_ne (by decide) gL28_1 rfl
                        have gL38_2 : jGet L38 2 = some (.int (i32 (t1))) := eL38 ▸ jg_ne (by decide) gL28_2 rfl
                        have gL38_3 : jGet L38 3 = some (.int (i32 (f2))) := eL38 ▸ jg_ne (by decide) gL28_3 rfl
                        have gL38_4 : jGet L38 4 = some (.int (i32 (t2))) := eL38 ▸ jg_ne (by decide) gL28_4 rfl
                        have gL38_5 : jGet L38 5 = some (.int (i32 (mk))) := eL38 ▸ jg_ne (by decide) gL28_5 rfl
                        have gL38_6 : jGet L38 6 = some (.int (i32 (ii))) := eL38 ▸ jg_ne (by decide) gL28_6 rfl
                        have gL38_8 : jGet L38 8 = some (.int (i32 (1))) := eL38 ▸ jg_ne (by decide) gL28_8 rfl
                        have gL38_7 : jGet L38 7 = some (.int (i32 ((j + (1))))) := eL38 ▸ jg_eq
                        refine jx_go (tg := 12) rfl rfl ?_
                        exact ih12 _ (by omega) L38 (ii) ((j + (1))) rfl gL38_0 gL38_1 gL38_2 gL38_3 gL38_4 gL38_5 gL38_6 gL38_7 (by omega) (by omega) (by omega) (by omega) (by omega) (by omega) (iv_4) ((NKb_nx iv_5 (by omega) (fun _ _ _ => a35)))
                      · have _q := h37
                        exact absurd h37 (by omega)
                · have _q := h27
                  refine jx_ld (pc_q := 69) (l_q := L) (st_q := [.ref 66]) rfl (jl_aloadn gL_0) ?_
                  refine jr_get (pc_q := 72) (i := 64) (v := .ref 107) rfl rfl (by decide) rfl rfl ?_
                  refine jx_ld (pc_q := 74) (l_q := L) (st_q := [.int (i32 (ii)), .ref 107]) rfl (jl_iload gL_6) ?_
                  have b39 : (-2147483648 : Int) ≤ A 40 (ii).toNat ∧ A 40 (ii).toNat ≤ 2147483647 := hW.2 40 _
                  refine jr_ldv (pc_q := 75) (i := 40) (m := 60000) (z := ii) (y := A 40 (ii).toNat) rfl (by decide) rfl (by decide) (by omega) (by omega) rfl (show A 40 (ii).toNat = A 40 (ii).toNat from rfl) ?_
                  refine jx_ld (pc_q := 76) (l_q := L) (st_q := [.ref 66, .int (i32 (A 40 (ii).toNat))]) rfl (jl_aloadn gL_0) ?_
                  refine jr_get (pc_q := 79) (i := 64) (v := .ref 107) rfl rfl (by decide) rfl rfl ?_
                  refine jx_ld (pc_q := 81) (l_q := L) (st_q := [.int (i32 (j)), .ref 107, .int (i32 (A 40 (ii).toNat))]) rfl (jl_iload gL_7) ?_
                  have b40 : (-2147483648 : Int) ≤ A 40 (j).toNat ∧ A 40 (j).toNat ≤ 2147483647 := hW.2 40 _
                  refine jr_ldv (pc_q := 82) (i := 40) (m := 60000) (z := j) (y := A 40 (j).toNat) rfl (by decide) rfl (by decide) (by omega) (by omega) rfl (show A 40 (j).toNat = A 40 (j).toNat from rfl) ?_
                  refine jx_icmp_ne (pc_q := 85) (tg := 89) rfl rfl rfl (Int.le_trans (by decide : (-2147483648 : Int) ≤ -2147483648) b39.1) (Int.le_trans b39.2 (by decide : (2147483647 : Int) ≤ 2147483647)) (Int.le_trans (by decide : (-2147483648 : Int) ≤ -2147483648) b40.1) (Int.le_trans b40.2 (by decide : (2147483647 : Int) ≤ 2147483647)) (fun h41 => ?_) (fun h41 => ?_)
                  · have _q := h41
                    refine jx_ar (pc_q := 90) (st_q := [.int (i32 (0))]) rfl rfl rfl rfl ?_
                    refine jx_ld (pc_q := 92) (l_q := jSto1 L 8 (.int (i32 (0)))) (st_q := []) rfl rfl ?_
                    obtain ⟨L42, eL42⟩ : ∃ q, q = jSto1 L 8 (.int (i32 (0))) := ⟨_, rfl⟩
                    rw [← eL42]
                    have gL42_0 : jGet L42 0 = some (.ref 66) := eL42 ▸ jg_ne (by decide) gL_0 rfl
                    have gL42_1 : jGet L42 1 = some (.int (i32 (f1))) := eL42 ▸ jg_ne (by decide) gL_1 rfl
                    have gL42_2 : jGet L42 2 = some (.int (i32 (t1))) := eL42 ▸ jg_ne (by decide) gL_2 rfl
                    have gL42_3 : jGet L42 3 = some (.int (i32 (f2))) := eL42 ▸ jg_ne (by decide) gL_3 rfl
                    have gL42_4 : jGet L42 4 = some (.int (i32 (t2))) := eL42 ▸ jg_ne (by decide) gL_4 rfl
                    have gL42_5 : jGet L42 5 = some (.int (i32 (mk))) := eL42 ▸ jg_ne (by decide) gL_5 rfl
                    have gL42_6 : jGet L42 6 = some (.int (i32 (ii))) := eL42 ▸ jg_ne (by decide) gL_6 rfl
                    have gL42_7 : jGet L42 7 = some (.int (i32 (j))) := eL42 ▸ jg_ne (by decide) gL_7 rfl
                    have gL42_8 : jGet L42 8 = some (.int (i32 (0))) := eL42 ▸ jg_eq
                    refine jx_ld (pc_q := 94) (l_q := L42) (st_q := [.int (i32 (0))]) rfl (jl_iload gL42_8) ?_
                    refine jx_if_eq (pc_q := 97) (tg := 119) rfl rfl rfl (by decide) (by decide) (fun h43 => ?_) (fun h43 => ?_)
                    · have _q := h43
                      refine jx_inc (pc_q := 122) (l_q := jSto1 L42 7 (.int (i32 ((j + (1)))))) (x := j) rfl gL42_7 (by decide) rfl rfl ?_
                      obtain ⟨L44, eL44⟩ : ∃ q, q = jSto1 L42 7 (.int (i32 ((j + (1))))) := ⟨_, rfl⟩
                      rw [← eL44]
                      have gL44_0 : jGet L44 0 = some (.ref 66) := eL44 ▸ jg_ne (by decide) gL42_0 rfl
                      have gL44_1 : jGet L44 1 = some (.int (i32 (f1))) := eL44 ▸ jg_ne (by decide) gL42_1 rfl
                      have gL44_2 : jGet L44 2 = some (.int (i32 (t1))) := eL44 ▸ jg_ne (by decide) gL42_2 rfl
                      have gL44_3 : jGet L44 3 = some (.int (i32 (f2))) := eL44 ▸ jg_ne (by decide) gL42_3 rfl
                      have gL44_4 : jGet L44 4 = some (.int (i32 (t2))) := eL44 ▸ jg_ne (by decide) gL42_4 rfl
                      have gL44_5 : jGet L44 5 = some (.int (i32 (mk))) := eL44 ▸ jg_ne (by decide) gL42_5 rfl
                      have gL44_6 : jGet L44 6 = some (.int (i32 (ii))) := eL44 ▸ jg_ne (by decide) gL42_6 rfl
                      have gL44_8 : jGet L44 8 = some (.int (i32 (0))) := eL44 ▸ jg_ne (by decide) gL42_8 rfl
                      have gL44_7 : jGet L44 7 = some (.int (i32 ((j + (1))))) := eL44 ▸ jg_eq
                      refine jx_go (tg := 12) rfl rfl ?_
                      exact ih12 _ (by omega) L44 (ii) ((j + (1))) rfl gL44_0 gL44_1 gL44_2 gL44_3 gL44_4 gL44_5 gL44_6 gL44_7 (by omega) (by omega) (by omega) (by omega) (by omega) (by omega) (iv_4) ((NKb_nx iv_5 (by omega) (fun h1 h2 h3 => (by exfalso; omega))))
                    · have _q := h43
                      exact absurd h43 (by omega)
                  · have _q := h41
                    refine jx_ar (pc_q := 86) (st_q := [.int (i32 (1))]) rfl rfl rfl rfl ?_
                    refine jx_go (tg := 90) rfl rfl ?_
                    refine jx_ld (pc_q := 92) (l_q := jSto1 L 8 (.int (i32 (1)))) (st_q := []) rfl rfl ?_
                    obtain ⟨L45, eL45⟩ : ∃ q, q = jSto1 L 8 (.int (i32 (1))) := ⟨_, rfl⟩
                    rw [← eL45]
                    have gL45_0 : jGet L45 0 = some (.ref 66) := eL45 ▸ jg_ne (by decide) gL_0 rfl
                    have gL45_1 : jGet L45 1 = some (.int (i32 (f1))) := eL45 ▸ jg_ne (by decide) gL_1 rfl
                    have gL45_2 : jGet L45 2 = some (.int (i32 (t1))) := eL45 ▸ jg_ne (by decide) gL_2 rfl
                    have gL45_3 : jGet L45 3 = some (.int (i32 (f2))) := eL45 ▸ jg_ne (by decide) gL_3 rfl
                    have gL45_4 : jGet L45 4 = some (.int (i32 (t2))) := eL45 ▸ jg_ne (by decide) gL_4 rfl
                    have gL45_5 : jGet L45 5 = some (.int (i32 (mk))) := eL45 ▸ jg_ne (by decide) gL_5 rfl
                    have gL45_6 : jGet L45 6 = some (.int (i32 (ii))) := eL45 ▸ jg_ne (by decide) gL_6 rfl
                    have gL45_7 : jGet L45 7 = some (.int (i32 (j))) := eL45 ▸ jg_ne (by decide) gL_7 rfl
                    have gL45_8 : jGet L45 8 = some (.int (i32 (1))) := eL45 ▸ jg_eq
                    refine jx_ld (pc_q := 94) (l_q := L45) (st_q := [.int (i32 (1))]) rfl (jl_iload gL45_8) ?_
                    refine jx_if_eq (pc_q := 97) (tg := 119) rfl rfl rfl (by decide) (by decide) (fun h46 => ?_) (fun h46 => ?_)
                    · have _q := h46
                      exact absurd h46 (by omega)
                    · have _q := h46
                      have _q : True := trivial
                      refine jx_ld (pc_q := 98) (l_q := L45) (st_q := [.ref 66]) rfl (jl_aloadn gL45_0) ?_
                      refine jr_get (pc_q := 101) (i := 66) (v := .ref 109) rfl rfl (by decide) rfl rfl ?_
                      refine jx_ld (pc_q := 103) (l_q := L45) (st_q := [.int (i32 (ii)), .ref 109]) rfl (jl_iload gL45_6) ?_
                      have b47 : (-2147483648 : Int) ≤ A 42 (ii).toNat ∧ A 42 (ii).toNat ≤ 2147483647 := hW.2 42 _
                      refine jr_ldv (pc_q := 104) (i := 42) (m := 60000) (z := ii) (y := A 42 (ii).toNat) rfl (by decide) rfl (by decide) (by omega) (by omega) rfl (show A 42 (ii).toNat = A 42 (ii).toNat from rfl) ?_
                      refine jx_ld (pc_q := 105) (l_q := L45) (st_q := [.ref 66, .int (i32 (A 42 (ii).toNat))]) rfl (jl_aloadn gL45_0) ?_
                      refine jr_get (pc_q := 108) (i := 66) (v := .ref 109) rfl rfl (by decide) rfl rfl ?_
                      refine jx_ld (pc_q := 110) (l_q := L45) (st_q := [.int (i32 (j)), .ref 109, .int (i32 (A 42 (ii).toNat))]) rfl (jl_iload gL45_7) ?_
                      have b48 : (-2147483648 : Int) ≤ A 42 (j).toNat ∧ A 42 (j).toNat ≤ 2147483647 := hW.2 42 _
                      refine jr_ldv (pc_q := 111) (i := 42) (m := 60000) (z := j) (y := A 42 (j).toNat) rfl (by decide) rfl (by decide) (by omega) (by omega) rfl (show A 42 (j).toNat = A 42 (j).toNat from rfl) ?_
                      refine jx_st (pc_q := 114) (as := [.int (i32 (A 42 (ii).toNat)), .int (i32 (A 42 (j).toNat))]) (st := []) rfl rfl ⟨rfl, Nat.le_of_ble_eq_true rfl⟩ rfl rfl rfl (c_clash (dd := d) (hd := by omega) (a := A 42 (ii).toNat) (b := A 42 (j).toNat)   (h_a := ⟨(Int.le_trans (by decide : (-2147483648 : Int) ≤ -2147483648) b47.1), (Int.le_trans b47.2 (by decide : (2147483647 : Int) ≤ 2147483647))⟩) (h_b := ⟨(Int.le_trans (by decide : (-2147483648 : Int) ≤ -2147483648) b48.1), (Int.le_trans b48.2 (by decide : (2147483647 : Int) ≤ 2147483647))⟩)  (p_0 := by omega) (p_1 := by omega) (p_2 := by omega) (p_3 := by omega)) (fun o V_q hq => ?_)
                      obtain ⟨r49, rfl, rfl, b50, q51⟩ := hq
                      refine .inr ⟨_, rfl, ?_⟩
                      rcases q51 with rfl | ⟨rfl, a52⟩
                      · have _q : True := trivial
                        refine jx_if_eq (pc_q := 117) (tg := 119) rfl rfl rfl (by decide) (by decide) (fun h53 => ?_) (fun h53 => ?_)
                        · have _q := h53
                          exact absurd h53 (by omega)
                        · have _q := h53
                          refine jx_ar (pc_q := 118) (st_q := [.int (i32 (1))]) rfl rfl rfl rfl ?_
                          refine jx_rt (v := some (.int (i32 (1)))) rfl rfl rfl rfl rfl (by first | rfl | exact jRet_b (by omega)) ?_
                          exact ⟨_, rfl, rfl, by omega, by first | exact Or.inl (by omega) | exact Or.inr ((⟨by omega, (NK2_e iv_1 (by omega))⟩))⟩
                      · have _q : True := trivial
                        refine jx_if_eq (pc_q := 117) (tg := 119) rfl rfl rfl (by decide) (by decide) (fun h54 => ?_) (fun h54 => ?_)
                        · have _q := h54
                          refine jx_inc (pc_q := 122) (l_q := jSto1 L45 7 (.int (i32 ((j + (1)))))) (x := j) rfl gL45_7 (by decide) rfl rfl ?_
                          obtain ⟨L55, eL55⟩ : ∃ q, q = jSto1 L45 7 (.int (i32 ((j + (1))))) := ⟨_, rfl⟩
                          rw [← eL55]
                          have gL55_0 : jGet L55 0 = some (.ref 66) := eL55 ▸ jg_ne (by decide) gL45_0 rfl
                          have gL55_1 : jGet L55 1 = some (.int (i32 (f1))) := eL55 ▸ jg_ne (by decide) gL45_1 rfl
                          have gL55_2 : jGet L55 2 = some (.int (i32 (t1))) := eL55 ▸ jg_ne (by decide) gL45_2 rfl
                          have gL55_3 : jGet L55 3 = some (.int (i32 (f2))) := eL55 ▸ jg_ne (by decide) gL45_3 rfl
                          have gL55_4 : jGet L55 4 = some (.int (i32 (t2))) := eL55 ▸ jg_ne (by decide) gL45_4 rfl
                          have gL55_5 : jGet L55 5 = some (.int (i32 (mk))) := eL55 ▸ jg_ne (by decide) gL45_5 rfl
                          have gL55_6 : jGet L55 6 = some (.int (i32 (ii))) := eL55 ▸ jg_ne (by decide) gL45_6 rfl
                          have gL55_8 : jGet L55 8 = some (.int (i32 (1))) := eL55 ▸ jg_ne (by decide) gL45_8 rfl
                          have gL55_7 : jGet L55 7 = some (.int (i32 ((j + (1))))) := eL55 ▸ jg_eq
                          refine jx_go (tg := 12) rfl rfl ?_
                          exact ih12 _ (by omega) L55 (ii) ((j + (1))) rfl gL55_0 gL55_1 gL55_2 gL55_3 gL55_4 gL55_5 gL55_6 gL55_7 (by omega) (by omega) (by omega) (by omega) (by omega) (by omega) (iv_4) ((NKb_nx iv_5 (by omega) (fun _ _ _ => a52)))
                        · have _q := h54
                          exact absurd h54 (by omega)
    refine jx_ld (pc_q := 5) (l_q := L) (st_q := [.int (i32 (i))]) rfl (jl_iload gL_6) ?_
    refine jx_ld (pc_q := 6) (l_q := L) (st_q := [.int (i32 (t1)), .int (i32 (i))]) rfl (jl_iloadn gL_2) ?_
    refine jx_icmp_ge (pc_q := 9) (tg := 131) rfl rfl rfl (Int.le_trans (by decide : (-2147483648 : Int) ≤ -2147483648) rx_i.1) (Int.le_trans rx_i.2 (by decide : (2147483647 : Int) ≤ 2147483647)) (Int.le_trans (by decide : (-2147483648 : Int) ≤ -2147483648) h_t1.1) (Int.le_trans h_t1.2 (by decide : (2147483647 : Int) ≤ 2147483647)) (fun h56 => ?_) (fun h56 => ?_)
    · have _q := h56
      refine jx_ar (pc_q := 132) (st_q := [.int (i32 (0))]) rfl rfl rfl rfl ?_
      refine jx_rt (v := some (.int (i32 (0)))) rfl rfl rfl rfl rfl (by first | rfl | exact jRet_b (by omega)) ?_
      exact ⟨_, rfl, rfl, by omega, by first | exact Or.inl (by omega) | exact Or.inr ((⟨by omega, (NK2_e iv_1 (by omega))⟩))⟩
    · have _q := h56
      refine jx_ld (pc_q := 10) (l_q := L) (st_q := [.int (i32 (f2))]) rfl (jl_iloadn gL_3) ?_
      refine jx_ld (pc_q := 12) (l_q := jSto1 L 7 (.int (i32 (f2)))) (st_q := []) rfl rfl ?_
      obtain ⟨L57, eL57⟩ : ∃ q, q = jSto1 L 7 (.int (i32 (f2))) := ⟨_, rfl⟩
      rw [← eL57]
      have gL57_0 : jGet L57 0 = some (.ref 66) := eL57 ▸ jg_ne (by decide) gL_0 rfl
      have gL57_1 : jGet L57 1 = some (.int (i32 (f1))) := eL57 ▸ jg_ne (by decide) gL_1 rfl
      have gL57_2 : jGet L57 2 = some (.int (i32 (t1))) := eL57 ▸ jg_ne (by decide) gL_2 rfl
      have gL57_3 : jGet L57 3 = some (.int (i32 (f2))) := eL57 ▸ jg_ne (by decide) gL_3 rfl
      have gL57_4 : jGet L57 4 = some (.int (i32 (t2))) := eL57 ▸ jg_ne (by decide) gL_4 rfl
      have gL57_5 : jGet L57 5 = some (.int (i32 (mk))) := eL57 ▸ jg_ne (by decide) gL_5 rfl
      have gL57_6 : jGet L57 6 = some (.int (i32 (i))) := eL57 ▸ jg_ne (by decide) gL_6 rfl
      have gL57_7 : jGet L57 7 = some (.int (i32 (f2))) := eL57 ▸ jg_eq
      exact at_12 _ L57 (i) (f2) rfl gL57_0 gL57_1 gL57_2 gL57_3 gL57_4 gL57_5 gL57_6 gL57_7 (by omega) (by omega) (by omega) (by omega) (by omega) (by omega) (iv_1) ((NKb_0 (by omega)))
set_option maxRecDepth 20000 in
set_option maxHeartbeats 4000000 in
theorem c_branchesClash {X : jX} {dd : Nat} {c0 c1 : jC} {G : Nat → Int} {A : Nat → Nat → Int} {T : jH} {f1 t1 f2 t2 mk : Int} (hd : 2 ≤ dd) (hW : Wk G A) (h_f1 : (-2147483648 : Int) ≤ f1 ∧ f1 ≤ 2147483647) (h_t1 : (-2147483648 : Int) ≤ t1 ∧ t1 ≤ 2147483647) (h_f2 : (-2147483648 : Int) ≤ f2 ∧ f2 ≤ 2147483647) (h_t2 : (-2147483648 : Int) ≤ t2 ∧ t2 ≤ 2147483647) (h_mk : (-2147483648 : Int) ≤ mk ∧ mk ≤ 2147483647) (p_0 : 0 ≤ f1) (p_1 : t1 ≤ 60000) (p_2 : 0 ≤ f2) (p_3 : t2 ≤ 60000) (p_4 : (∀ j : Int, 0 ≤ j → j < t1 → 0 ≤ A 42 (j).toNat ∧ A 42 (j).toNat ≤ 15)) (p_5 : (∀ j : Int, 0 ≤ j → j < t2 → 0 ≤ A 42 (j).toNat ∧ A 42 (j).toNat ≤ 15)) : wk X dd 335 [.ref 66, .int (i32 f1), .int (i32 t1), .int (i32 f2), .int (i32 t2), .int (i32 mk)] (rV c0 c1 G A T) (fun o V_q => ∃ (r : Int), V_q = rV c0 c1 G A T ∧ o = .inl (some (.int (i32 r))) ∧ ((0 : Int) ≤ r ∧ r ≤ 1) ∧ ((r = 1) ∨ (r = 0 ∧ (NK2 A (f1) (t1) (f2) (t2) (mk))))) := by
  obtain ⟨d, rfl⟩ : ∃ d, dd = d + 1 := ⟨dd - 1, by omega⟩
  refine wk_of (e := jm335) rfl (Nat.le_of_ble_eq_true rfl) ?_
  show wj X d jm335 (0, [(0, .ref 66), (1, .int (i32 (f1))), (2, .int (i32 (t1))), (3, .int (i32 (f2))), (4, .int (i32 (t2))), (5, .int (i32 (mk)))], [], rV c0 c1 G A T) _
  refine jx_ld (pc_q := 1) (l_q := [(0, .ref 66), (1, .int (i32 (f1))), (2, .int (i32 (t1))), (3, .int (i32 (f2))), (4, .int (i32 (t2))), (5, .int (i32 (mk)))]) (st_q := [.int (i32 (f1))]) rfl (jl_iloadn rfl) ?_
  refine jx_ld (pc_q := 3) (l_q := jSto1 [(0, .ref 66), (1, .int (i32 (f1))), (2, .int (i32 (t1))), (3, .int (i32 (f2))), (4, .int (i32 (t2))), (5, .int (i32 (mk)))] 6 (.int (i32 (f1)))) (st_q := []) rfl rfl ?_
  obtain ⟨L58, eL58⟩ : ∃ q, q = jSto1 [(0, .ref 66), (1, .int (i32 (f1))), (2, .int (i32 (t1))), (3, .int (i32 (f2))), (4, .int (i32 (t2))), (5, .int (i32 (mk)))] 6 (.int (i32 (f1))) := ⟨_, rfl⟩
  rw [← eL58]
  have gL58_0 : jGet L58 0 = some (.ref 66) := eL58 ▸ jg_ne (by decide) (rfl : jGet [(0, .ref 66), (1, .int (i32 (f1))), (2, .int (i32 (t1))), (3, .int (i32 (f2))), (4, .int (i32 (t2))), (5, .int (i32 (mk)))] 0 = some (.ref 66)) rfl
  have gL58_1 : jGet L58 1 = some (.int (i32 (f1))) := eL58 ▸ jg_ne (by decide) (rfl : jGet [(0, .ref 66), (1, .int (i32 (f1))), (2, .int (i32 (t1))), (3, .int (i32 (f2))), (4, .int (i32 (t2))), (5, .int (i32 (mk)))] 1 = some (.int (i32 (f1)))) rfl
  have gL58_2 : jGet L58 2 = some (.int (i32 (t1))) := eL58 ▸ jg_ne (by decide) (rfl : jGet [(0, .ref 66), (1, .int (i32 (f1))), (2, .int (i32 (t1))), (3, .int (i32 (f2))), (4, .int (i32 (t2))), (5, .int (i32 (mk)))] 2 = some (.int (i32 (t1)))) rfl
  have gL58_3 : jGet L58 3 = some (.int (i32 (f2))) := eL58 ▸ jg_ne (by decide) (rfl : jGet [(0, .ref 66), (1, .int (i32 (f1))), (2, .int (i32 (t1))), (3, .int (i32 (f2))), (4, .int (i32 (t2))), (5, .int (i32 (mk)))] 3 = some (.int (i32 (f2)))) rfl
  have gL58_4 : jGet L58 4 = some (.int (i32 (t2))) := eL58 ▸ jg_ne (by decide) (rfl : jGet [(0, .ref 66), (1, .int (i32 (f1))), (2, .int (i32 (t1))), (3, .int (i32 (f2))), (4, .int (i32 (t2))), (5, .int (i32 (mk)))] 4 = some (.int (i32 (t2)))) rfl
  have gL58_5 : jGet L58 5 = some (.int (i32 (mk))) := eL58 ▸ jg_ne (by decide) (rfl : jGet [(0, .ref 66), (1, .int (i32 (f1))), (2, .int (i32 (t1))), (3, .int (i32 (f2))), (4, .int (i32 (t2))), (5, .int (i32 (mk)))] 5 = some (.int (i32 (mk)))) rfl
  have gL58_6 : jGet L58 6 = some (.int (i32 (f1))) := eL58 ▸ jg_eq
  exact c_branchesClash_at_3 (X := X) (d := d) (c0 := c0) (c1 := c1) (G := G) (A := A) (T := T) (f1 := f1) (t1 := t1) (f2 := f2) (t2 := t2) (mk := mk) (hd := hd) (hW := hW) (h_f1 := h_f1) (h_t1 := h_t1) (h_f2 := h_f2) (h_t2 := h_t2) (h_mk := h_mk) (p_0 := p_0) (p_1 := p_1) (p_2 := p_2) (p_3 := p_3) (p_4 := p_4) (p_5 := p_5) _ L58 (f1) rfl gL58_0 gL58_1 gL58_2 gL58_3 gL58_4 gL58_5 gL58_6 (by omega) (by omega) ((NK2_0 (by omega)))
