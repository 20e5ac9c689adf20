/-! compile -/
set_option maxRecDepth 20000 in
set_option maxHeartbeats 4000000 in
theorem c_compile_at_212 {X : jX} {d : Nat} {c0 c1 : jC} {G : Nat → Int} {A : Nat → Nat → Int} {T : jH} {im it om : Int} (hd : 8 * 18 + 83 ≤ d + 1) (hW : Wk G A) (e_im : G 110 = im) (e_it : G 111 = it) (e_om : G 113 = om) : ∀ (m : Nat) (L : jL) (Gx : Nat → Int) (Ax : Nat → Nat → Int) (n kk pg1 im1 it1 om1 lk1 sz1 : Int), (6 - kk).toNat = m → jGet L 0 = some (.ref 66) → jGet L 1 = some (.int (i32 n)) → jGet L 2 = some (.int (i32 kk)) → Wk Gx Ax → Fr [0, 2, 3, 9, 10, 11, 12, 13, 14, 15, 16, 17, 18, 19, 28, 29, 31, 46, 52, 58, 59, 60, 61, 62, 67, 68, 70, 77, 79, 81, 89, 110, 111, 113, 120, 121] [1, 2, 3, 4, 5, 6, 7, 8, 9, 10, 11, 12, 13, 14, 15, 16, 17, 18, 19, 20, 21, 22, 23, 24, 25, 26, 27, 28, 29, 30, 31, 32, 33, 34, 35, 36, 37, 38, 39, 40, 41, 42, 43, 44, 45, 46, 47, 48, 49, 50, 51, 52, 53, 54, 55, 56, 57, 58, 59, 60, 61, 62, 63, 64, 65, 66, 67, 68, 69, 70, 72, 73, 80, 81, 82, 83, 84, 85] G A Gx Ax → Gx 58 = pg1 → Gx 110 = im1 → Gx 111 = it1 → Gx 113 = om1 → Gx 52 = lk1 → Gx 2 = sz1 → ((-2147483648 : Int) ≤ n ∧ n ≤ 2147483647) → ((-2147483648 : Int) ≤ kk ∧ kk ≤ 2147483647) → (0 ≤ n) → (n ≤ kk) → (kk ≤ 6) → (pg1 = 1) → (sz1 = 0) → (im1 = 0) → (it1 = 0) → (om1 = 0) → (GZ (lk1) Ax) → (RD (lk1) Ax) → wj X d jm366 (212, L, [], rV c0 c1 Gx Ax T) (fun o V_q => ∃ (G_q : Nat → Int) (A_q : Nat → Nat → Int) (r : Int) (pg2 : Int) (im2 : Int) (it2 : Int) (om2 : Int) (lk2 : Int) (sz2 : Int), V_q = rV c0 c1 G_q A_q T ∧ o = .inl (some (.int (i32 r))) ∧ Wk G_q A_q ∧ Fr [0, 2, 3, 9, 10, 11, 12, 13, 14, 15, 16, 17, 18, 19, 28, 29, 31, 46, 52, 58, 59, 60, 61, 62, 67, 68, 70, 77, 79, 81, 89, 110, 111, 113, 120, 121] [1, 2, 3, 4, 5, 6, 7, 8, 9, 10, 11, 12, 13, 14, 15, 16, 17, 18, 19, 20, 21, 22, 23, 24, 25, 26, 27, 28, 29, 30, 31, 32, 33, 34, 35, 36, 37, 38, 39, 40, 41, 42, 43, 44, 45, 46, 47, 48, 49, 50, 51, 52, 53, 54, 55, 56, 57, 58, 59, 60, 61, 62, 63, 64, 65, 66, 67, 68, 69, 70, 72, 73, 80, 81, 82, 83, 84, 85] G A G_q A_q ∧ ((-2147483648 : Int) ≤ r ∧ r ≤ 2147483647) ∧ G_q 58 = pg2 ∧ G_q 110 = im2 ∧ G_q 111 = it2 ∧ G_q 113 = om2 ∧ G_q 52 = lk2 ∧ G_q 2 = sz2 ∧ (sz2 = 0) ∧ (((pg2 = 0) ∧ (im2 = im) ∧ (it2 = it) ∧ (om2 = om)) ∨ ((pg2 = 1) ∧ (im2 = 0) ∧ (it2 = 0) ∧ (om2 = 0) ∧ (GZ (lk2) A_q) ∧ (RD (lk2) A_q)))) := by
  have hF0 : Fr [0, 2, 3, 9, 10, 11, 12, 13, 14, 15, 16, 17, 18, 19, 28, 29, 31, 46, 52, 58, 59, 60, 61, 62, 67, 68, 70, 77, 79, 81, 89, 110, 111, 113, 120, 121] [1, 2, 3, 4, 5, 6, 7, 8, 9, 10, 11, 12, 13, 14, 15, 16, 17, 18, 19, 20, 21, 22, 23, 24, 25, 26, 27, 28, 29, 30, 31, 32, 33, 34, 35, 36, 37, 38, 39, 40, 41, 42, 43, 44, 45, 46, 47, 48, 49, 50, 51, 52, 53, 54, 55, 56, 57, 58, 59, 60, 61, 62, 63, 64, 65, 66, 67, 68, 69, 70, 72, 73, 80, 81, 82, 83, 84, 85] G A G A := Fr_rf
  have b_im : (-2147483648 : Int) ≤ im ∧ im ≤ 2147483647 := e_im ▸ hW.1 110
  have b_it : (-2147483648 : Int) ≤ it ∧ it ≤ 2147483647 := e_it ▸ hW.1 111
  have b_om : (-2147483648 : Int) ≤ om ∧ om ≤ 2147483647 := e_om ▸ hW.1 113
  intro m
  induction m using Nat.strongRecOn with
  | ind m ih212 =>
    intro L Gx Ax n kk pg1 im1 it1 om1 lk1 sz1 hm gL_0 gL_1 gL_2 hWx hFx ex_pg1 ex_im1 ex_it1 ex_om1 ex_lk1 ex_sz1 rx_n rx_kk iv_0 iv_1 iv_2 iv_3 iv_4 iv_5 iv_6 iv_7 iv_8 iv_9
    have b_pg1 : (0 : Int) ≤ pg1 ∧ pg1 ≤ 1 := ex_pg1 ▸ hWx.1 58
    have b_im1 : (-2147483648 : Int) ≤ im1 ∧ im1 ≤ 2147483647 := ex_im1 ▸ hWx.1 110
    have b_it1 : (-2147483648 : Int) ≤ it1 ∧ it1 ≤ 2147483647 := ex_it1 ▸ hWx.1 111
    have b_om1 : (-2147483648 : Int) ≤ om1 ∧ om1 ≤ 2147483647 := ex_om1 ▸ hWx.1 113
    have b_lk1 : (0 : Int) ≤ lk1 ∧ lk1 ≤ 12 := ex_lk1 ▸ hWx.1 52
    have b_sz1 : (0 : Int) ≤ sz1 ∧ sz1 ≤ 3000 := ex_sz1 ▸ hWx.1 2
    have _q : True := trivial
    refine jx_ld (pc_q := 213) (l_q := L) (st_q := [.int (i32 (kk))]) rfl (jl_iloadn gL_2) ?_
    refine jx_ar (pc_q := 215) (st_q := [.int (i32 (6)), .int (i32 (kk))]) rfl rfl rfl rfl ?_
    refine jx_icmp_ge (pc_q := 218) (tg := 241) rfl rfl rfl (Int.le_trans (by decide : (-2147483648 : Int) ≤ -2147483648) rx_kk.1) (Int.le_trans rx_kk.2 (by decide : (2147483647 : Int) ≤ 2147483647)) (by decide) (by decide) (fun h1 => ?_) (fun h1 => ?_)
    · have _q := h1
      refine jx_ld (pc_q := 242) (l_q := L) (st_q := [.int (i32 (n))]) rfl (jl_iloadn gL_1) ?_
      refine jx_rt (v := some (.int (i32 (n)))) rfl rfl rfl rfl rfl rfl ?_
      exact ⟨_, _, _, pg1, im1, it1, om1, lk1, sz1, rfl, rfl, hWx, hFx, by omega, (ex_pg1), (ex_im1), (ex_it1), (ex_om1), (ex_lk1), (ex_sz1), by omega, by first | exact Or.inl (⟨by omega, by omega, by omega, by omega⟩) | exact Or.inr ((⟨by omega, by omega, by omega, by omega, iv_8, iv_9⟩))⟩
    · have _q := h1
      refine jx_ld (pc_q := 219) (l_q := L) (st_q := [.ref 66]) rfl (jl_aloadn gL_0) ?_
      refine jr_get (pc_q := 222) (i := 55) (v := .ref 103) rfl rfl (by decide) rfl rfl ?_
      refine jx_ld (pc_q := 223) (l_q := L) (st_q := [.int (i32 (kk)), .ref 103]) rfl (jl_iloadn gL_2) ?_
      have b2 : (-2147483648 : Int) ≤ Ax 36 (kk).toNat ∧ Ax 36 (kk).toNat ≤ 2147483647 := hWx.2 36 _
      refine jr_ldv (pc_q := 224) (i := 36) (m := 6) (z := kk) (y := Ax 36 (kk).toNat) rfl (by decide) rfl (by decide) (by omega) (by omega) rfl (show Ax 36 (kk).toNat = Ax 36 (kk).toNat from rfl) ?_
      refine jx_if_le (pc_q := 227) (tg := 233) rfl rfl rfl (Int.le_trans (by decide : (-2147483648 : Int) ≤ -2147483648) b2.1) (Int.le_trans b2.2 (by decide : (2147483647 : Int) ≤ 2147483647)) (fun h3 => ?_) (fun h3 => ?_)
      · have _q := h3
        refine jx_ld (pc_q := 234) (l_q := L) (st_q := [.int (i32 (n))]) rfl (jl_iloadn gL_1) ?_
        refine jx_ld (pc_q := 235) (l_q := jSto1 L 1 (.int (i32 (n)))) (st_q := []) rfl rfl ?_
        obtain ⟨L4, eL4⟩ : ∃ q, q = jSto1 L 1 (.int (i32 (n))) := ⟨_, rfl⟩
        rw [← eL4]
        have gL4_0 : jGet L4 0 = some (.ref 66) := eL4 ▸ jg_ne (by decide) gL_0 rfl
        have gL4_2 : jGet L4 2 = some (.int (i32 (kk))) := eL4 ▸ jg_ne (by decide) gL_2 rfl
        have gL4_1 : jGet L4 1 = some (.int (i32 (n))) := eL4 ▸ jg_eq
        refine jx_inc (pc_q := 238) (l_q := jSto1 L4 2 (.int (i32 ((kk + (1)))))) (x := kk) rfl gL4_2 (by decide) rfl rfl ?_
        obtain ⟨L5, eL5⟩ : ∃ q, q = jSto1 L4 2 (.int (i32 ((kk + (1))))) := ⟨_, rfl⟩
        rw [← eL5]
        have gL5_0 : jGet L5 0 = some (.ref 66) := eL5 ▸ jg_ne (by decide) gL4_0 rfl
        have gL5_1 : jGet L5 1 = some (.int (i32 (n))) := eL5 ▸ jg_ne (by decide) gL4_1 rfl
        have gL5_2 : jGet L5 2 = some (.int (i32 ((kk + (1))))) := eL5 ▸ jg_eq
        refine jx_go (tg := 212) rfl rfl ?_
        exact ih212 _ (by omega) L5 Gx Ax (n) ((kk + (1))) (pg1) (im1) (it1) (om1) (lk1) (sz1) rfl gL5_0 gL5_1 gL5_2 hWx hFx ((ex_pg1)) ((ex_im1)) ((ex_it1)) ((ex_om1)) ((ex_lk1)) ((ex_sz1)) (by omega) (by omega) (by omega) (by omega) (by omega) (by omega) (by omega) (by omega) (by omega) (by omega) (iv_8) (iv_9)
      · have _q := h3
        refine jx_ld (pc_q := 228) (l_q := L) (st_q := [.int (i32 (n))]) rfl (jl_iloadn gL_1) ?_
        refine jx_ar (pc_q := 229) (st_q := [.int (i32 (1)), .int (i32 (n))]) rfl rfl rfl rfl ?_
        refine jx_add (pc_q := 230) rfl rfl ?_
        refine jx_go (tg := 234) rfl rfl ?_
        refine jx_ld (pc_q := 235) (l_q := jSto1 L 1 (.int (i32 ((n + 1))))) (st_q := []) rfl rfl ?_
        obtain ⟨L6, eL6⟩ : ∃ q, q = jSto1 L 1 (.int (i32 ((n + 1)))) := ⟨_, rfl⟩
        rw [← eL6]
        have gL6_0 : jGet L6 0 = some (.ref 66) := eL6 ▸ jg_ne (by decide) gL_0 rfl
        have gL6_2 : jGet L6 2 = some (.int (i32 (kk))) := eL6 ▸ jg_ne (by decide) gL_2 rfl
        have gL6_1 : jGet L6 1 = some (.int (i32 ((n + 1)))) := eL6 ▸ jg_eq
        refine jx_inc (pc_q := 238) (l_q := jSto1 L6 2 (.int (i32 ((kk + (1)))))) (x := kk) rfl gL6_2 (by decide) rfl rfl ?_
        obtain ⟨L7, eL7⟩ : ∃ q, q = jSto1 L6 2 (.int (i32 ((kk + (1))))) := ⟨_, rfl⟩
        rw [← eL7]
        have gL7_0 : jGet L7 0 = some (.ref 66) := eL7 ▸ jg_ne (by decide) gL6_0 rfl
        have gL7_1 : jGet L7 1 = some (.int (i32 ((n + 1)))) := eL7 ▸ jg_ne (by decide) gL6_1 rfl
        have gL7_2 : jGet L7 2 = some (.int (i32 ((kk + (1))))) := eL7 ▸ jg_eq
        refine jx_go (tg := 212) rfl rfl ?_
        exact ih212 _ (by omega) L7 Gx Ax ((n + 1)) ((kk + (1))) (pg1) (im1) (it1) (om1) (lk1) (sz1) rfl gL7_0 gL7_1 gL7_2 hWx hFx ((ex_pg1)) ((ex_im1)) ((ex_it1)) ((ex_om1)) ((ex_lk1)) ((ex_sz1)) (by omega) (by omega) (by omega) (by omega) (by omega) (by omega) (by omega) (by omega) (by omega) (by omega) (iv_8) (iv_9)
set_option maxRecDepth 20000 in
set_option maxHeartbeats 4000000 in
theorem c_compile_at_185 {X : jX} {d : Nat} {c0 c1 : jC} {G : Nat → Int} {A : Nat → Nat → Int} {T : jH} {im it om : Int} (hd : 8 * 18 + 83 ≤ d + 1) (hW : Wk G A) (e_im : G 110 = im) (e_it : G 111 = it) (e_om : G 113 = om) : ∀ (L : jL) (Gx : Nat → Int) (Ax : Nat → Nat → Int) (fk1 nd1 sy1 pc1 lk1 pg1 sz1 : Int), jGet L 0 = some (.ref 66) → Wk Gx Ax → Fr [0, 2, 3, 9, 10, 11, 12, 13, 14, 15, 16, 17, 18, 19, 28, 29, 31, 46, 52, 58, 59, 60, 61, 62, 67, 68, 70, 77, 79, 81, 89, 110, 111, 113, 120, 121] [1, 2, 3, 4, 5, 6, 7, 8, 9, 10, 11, 12, 13, 14, 15, 16, 17, 18, 19, 20, 21, 22, 23, 24, 25, 26, 27, 28, 29, 30, 31, 32, 33, 34, 35, 36, 37, 38, 39, 40, 41, 42, 43, 44, 45, 46, 47, 48, 49, 50, 51, 52, 53, 54, 55, 56, 57, 58, 59, 60, 61, 62, 63, 64, 65, 66, 67, 68, 69, 70, 72, 73, 80, 81, 82, 83, 84, 85] G A Gx Ax → Gx 16 = fk1 → Gx 31 = nd1 → Gx 19 = sy1 → Gx 46 = pc1 → Gx 52 = lk1 → Gx 58 = pg1 → Gx 2 = sz1 → Gx 110 = im → Gx 111 = it → Gx 113 = om → (0 ≤ fk1) → (pg1 = 0) → (sz1 = 0) → ((fk1) = 0 → GAx Ax (pc1) (nd1) (sy1) (lk1) (6)) → wj X d jm366 (185, L, [], rV c0 c1 Gx Ax T) (fun o V_q => ∃ (G_q : Nat → Int) (A_q : Nat → Nat → Int) (r : Int) (pg2 : Int) (im2 : Int) (it2 : Int) (om2 : Int) (lk2 : Int) (sz2 : Int), V_q = rV c0 c1 G_q A_q T ∧ o = .inl (some (.int (i32 r))) ∧ Wk G_q A_q ∧ Fr [0, 2, 3, 9, 10, 11, 12, 13, 14, 15, 16, 17, 18, 19, 28, 29, 31, 46, 52, 58, 59, 60, 61, 62, 67, 68, 70, 77, 79, 81, 89, 110, 111, 113, 120, 121] [1, 2, 3, 4, 5, 6, 7, 8, 9, 10, 11, 12, 13, 14, 15, 16, 17, 18, 19, 20, 21, 22, 23, 24, 25, 26, 27, 28, 29, 30, 31, 32, 33, 34, 35, 36, 37, 38, 39, 40, 41, 42, 43, 44, 45, 46, 47, 48, 49, 50, 51, 52, 53, 54, 55, 56, 57, 58, 59, 60, 61, 62, 63, 64, 65, 66, 67, 68, 69, 70, 72, 73, 80, 81, 82, 83, 84, 85] G A G_q A_q ∧ ((-2147483648 : Int) ≤ r ∧ r ≤ 2147483647) ∧ G_q 58 = pg2 ∧ G_q 110 = im2 ∧ G_q 111 = it2 ∧ G_q 113 = om2 ∧ G_q 52 = lk2 ∧ G_q 2 = sz2 ∧ (sz2 = 0) ∧ (((pg2 = 0) ∧ (im2 = im) ∧ (it2 = it) ∧ (om2 = om)) ∨ ((pg2 = 1) ∧ (im2 = 0) ∧ (it2 = 0) ∧ (om2 = 0) ∧ (GZ (lk2) A_q) ∧ (RD (lk2) A_q)))) := by
  have hF0 : Fr [0, 2, 3, 9, 10, 11, 12, 13, 14, 15, 16, 17, 18, 19, 28, 29, 31, 46, 52, 58, 59, 60, 61, 62, 67, 68, 70, 77, 79, 81, 89, 110, 111, 113, 120, 121] [1, 2, 3, 4, 5, 6, 7, 8, 9, 10, 11, 12, 13, 14, 15, 16, 17, 18, 19, 20, 21, 22, 23, 24, 25, 26, 27, 28, 29, 30, 31, 32, 33, 34, 35, 36, 37, 38, 39, 40, 41, 42, 43, 44, 45, 46, 47, 48, 49, 50, 51, 52, 53, 54, 55, 56, 57, 58, 59, 60, 61, 62, 63, 64, 65, 66, 67, 68, 69, 70, 72, 73, 80, 81, 82, 83, 84, 85] G A G A := Fr_rf
  have b_im : (-2147483648 : Int) ≤ im ∧ im ≤ 2147483647 := e_im ▸ hW.1 110
  have b_it : (-2147483648 : Int) ≤ it ∧ it ≤ 2147483647 := e_it ▸ hW.1 111
  have b_om : (-2147483648 : Int) ≤ om ∧ om ≤ 2147483647 := e_om ▸ hW.1 113
  intro L Gx Ax fk1 nd1 sy1 pc1 lk1 pg1 sz1 gL_0 hWx hFx ex_fk1 ex_nd1 ex_sy1 ex_pc1 ex_lk1 ex_pg1 ex_sz1 fx_110 fx_111 fx_113 iv_0 iv_1 iv_2 iv_3
  have b_fk1 : (0 : Int) ≤ fk1 ∧ fk1 ≤ 6 := ex_fk1 ▸ hWx.1 16
  have b_nd1 : (0 : Int) ≤ nd1 ∧ nd1 ≤ 6999 := ex_nd1 ▸ hWx.1 31
  have b_sy1 : (0 : Int) ≤ sy1 ∧ sy1 ≤ 202 := ex_sy1 ▸ hWx.1 19
  have b_pc1 : (0 : Int) ≤ pc1 ∧ pc1 ≤ 24 := ex_pc1 ▸ hWx.1 46
  have b_lk1 : (0 : Int) ≤ lk1 ∧ lk1 ≤ 12 := ex_lk1 ▸ hWx.1 52
  have b_pg1 : (0 : Int) ≤ pg1 ∧ pg1 ≤ 1 := ex_pg1 ▸ hWx.1 58
  have b_sz1 : (0 : Int) ≤ sz1 ∧ sz1 ≤ 3000 := ex_sz1 ▸ hWx.1 2
  have _q : True := trivial
  refine jx_ld (pc_q := 186) (l_q := L) (st_q := [.ref 66]) rfl (jl_aloadn gL_0) ?_
  refine jx_vr (pc_q := 189) (as := []) (st := []) rfl rfl rfl rfl ⟨rfl, rfl, Nat.le_of_ble_eq_true rfl⟩ rfl rfl (c_bad (dd := d) (hd := by omega) (hW := hWx)  (fk := fk1) (e_fk := show Gx 16 = fk1 from (ex_fk1))    ) (fun o V_q hq => ?_)
  obtain ⟨r8, rfl, rfl, b9, q10⟩ := hq
  refine .inr ⟨_, rfl, ?_⟩
  rcases q10 with ⟨rfl, a11⟩ | ⟨rfl, a12⟩
  · have _q : True := trivial
    refine jx_if_eq (pc_q := 192) (tg := 199) rfl rfl rfl (by decide) (by decide) (fun h13 => ?_) (fun h13 => ?_)
    · have _q := h13
      exact absurd h13 (by omega)
    · have _q := h13
      refine jx_ld (pc_q := 193) (l_q := L) (st_q := [.ref 66]) rfl (jl_aloadn gL_0) ?_
      refine jx_ar (pc_q := 194) (st_q := [.int (i32 (0)), .ref 66]) rfl rfl rfl rfl ?_
      refine jr_put (pc_q := 197) (i := 28) (z := 0) rfl rfl (by decide) rfl rfl rfl rfl rfl rfl ?_
      have hW14 : Wk (uG Gx 28 (0)) Ax := Wk_g hWx (show (0 : Int) ≤ 0 by omega) (show 0 ≤ (200 : Int) by omega)
      have hF15 := Fr_g (z := 0) (i := 28) hFx (by decide)
      refine jx_ar (pc_q := 198) (st_q := [.int (i32 (-1))]) rfl rfl rfl rfl ?_
      refine jx_rt (v := some (.int (i32 (-1)))) rfl rfl rfl rfl rfl rfl ?_
      exact ⟨_, _, _, pg1, im, it, om, lk1, sz1, rfl, rfl, hW14, hF15, by omega, (ex_pg1), (fx_110), (fx_111), (fx_113), (ex_lk1), (ex_sz1), by omega, by first | exact Or.inl (⟨by omega, by omega, by omega, by omega⟩) | exact Or.inr ((⟨by omega, by omega, by omega, by omega, hGZ, hRD2⟩))⟩
  · have _q : True := trivial
    refine jx_if_eq (pc_q := 192) (tg := 199) rfl rfl rfl (by decide) (by decide) (fun h16 => ?_) (fun h16 => ?_)
    · have _q := h16
      refine jx_ld (pc_q := 200) (l_q := L) (st_q := [.ref 66]) rfl (jl_aloadn gL_0) ?_
      refine jx_ar (pc_q := 201) (st_q := [.int (i32 (1)), .ref 66]) rfl rfl rfl rfl ?_
      refine jr_put (pc_q := 204) (i := 58) (z := 1) rfl rfl (by decide) rfl rfl rfl (jFit_b (by omega) (by omega)) rfl rfl ?_
      have hW17 : Wk (uG Gx 58 (1)) Ax := Wk_g hWx (show (0 : Int) ≤ 1 by omega) (show 1 ≤ (1 : Int) by omega)
      have hF18 := Fr_g (z := 1) (i := 58) hFx (by decide)
      refine jx_ld (pc_q := 205) (l_q := L) (st_q := [.ref 66]) rfl (jl_aloadn gL_0) ?_
      refine jx_vr (pc_q := 208) (as := []) (st := []) rfl rfl rfl rfl ⟨rfl, rfl, Nat.le_of_ble_eq_true rfl⟩ rfl rfl (c_reset (dd := d) (hd := by omega) (hW := hW17)      ) (fun o V_q hq => ?_)
      obtain ⟨G19, A20, im2_21, it2_22, om2_23, rfl, rfl, hW24, hF25, e26, e27, e28, p29, p30, p31, p32, -⟩ := hq
      have hF34 := Fr_tr hF18 hF25 (Fr_sub (by decide)) (Fr_sub (by decide))
      have bim2_21 : (-2147483648 : Int) ≤ im2_21 ∧ im2_21 ≤ 2147483647 := e26 ▸ hW24.1 110
      have bit2_22 : (-2147483648 : Int) ≤ it2_22 ∧ it2_22 ≤ 2147483647 := e27 ▸ hW24.1 111
      have bom2_23 : (-2147483648 : Int) ≤ om2_23 ∧ om2_23 ≤ 2147483647 := e28 ▸ hW24.1 113
      refine .inl ⟨rfl, ?_⟩
      have hRD : RD lk1 Ax := GAx_rd (iv_3 (by omega)) (Int.le_refl _) (by omega) (by omega) (by omega) (by omega); have hlo : ∀ k : Nat, k < 59 → A20 k = Ax k := (fun k hk => hF25.2 k (el_lo rfl hk)); have hGZ := GS_rs p32 hlo hRD; have hRD2 := RD_f hlo hRD
      refine jx_ar (pc_q := 209) (st_q := [.int (i32 (0))]) rfl rfl rfl rfl ?_
      refine jx_ld (pc_q := 210) (l_q := jSto1 L 1 (.int (i32 (0)))) (st_q := []) rfl rfl ?_
      obtain ⟨L35, eL35⟩ : ∃ q, q = jSto1 L 1 (.int (i32 (0))) := ⟨_, rfl⟩
      rw [← eL35]
      have gL35_0 : jGet L35 0 = some (.ref 66) := eL35 ▸ jg_ne (by decide) gL_0 rfl
      have gL35_1 : jGet L35 1 = some (.int (i32 (0))) := eL35 ▸ jg_eq
      refine jx_ar (pc_q := 211) (st_q := [.int (i32 (0))]) rfl rfl rfl rfl ?_
      refine jx_ld (pc_q := 212) (l_q := jSto1 L35 2 (.int (i32 (0)))) (st_q := []) rfl rfl ?_
      obtain ⟨L36, eL36⟩ : ∃ q, q = jSto1 L35 2 (.int (i32 (0))) := ⟨_, rfl⟩
      rw [← eL36]
      have gL36_0 : jGet L36 0 = some (.ref 66) := eL36 ▸ jg_ne (by decide) gL35_0 rfl
      have gL36_1 : jGet L36 1 = some (.int (i32 (0))) := eL36 ▸ jg_ne (by decide) gL35_1 rfl
      have gL36_2 : jGet L36 2 = some (.int (i32 (0))) := eL36 ▸ jg_eq
      exact c_compile_at_212 (X := X) (d := d) (c0 := c0) (c1 := c1) (G := G) (A := A) (T := T) (im := im) (it := it) (om := om) (hd := hd) (hW := hW) (e_im := e_im) (e_it := e_it) (e_om := e_om) _ L36 G19 A20 (0) (0) (1) (im2_21) (it2_22) (om2_23) (lk1) (sz1) rfl gL36_0 gL36_1 gL36_2 hW24 hF34 ((hF25.1 58 rfl)) ((e26)) ((e27)) ((e28)) (((hF25.1 52 rfl).trans (ex_lk1))) (((hF25.1 2 rfl).trans (ex_sz1))) (by omega) (by omega) (by omega) (by omega) (by omega) (by omega) (by omega) (by omega) (by omega) (by omega) (hGZ) (hRD2)
    · have _q := h16
      exact absurd h16 (by omega)
set_option maxRecDepth 20000 in
set_option maxHeartbeats 4000000 in
theorem c_compile_at_143 {X : jX} {d : Nat} {c0 c1 : jC} {G : Nat → Int} {A : Nat → Nat → Int} {T : jH} {im it om : Int} (hd : 8 * 18 + 83 ≤ d + 1) (hW : Wk G A) (e_im : G 110 = im) (e_it : G 111 = it) (e_om : G 113 = om) : ∀ (m : Nat) (L : jL) (Gx : Nat → Int) (Ax : Nat → Nat → Int) (i fk1 nd1 sy1 pc1 lk1 pg1 sz1 : Int), (6 - i).toNat = m → jGet L 0 = some (.ref 66) → jGet L 1 = some (.int (i32 i)) → Wk Gx Ax → Fr [0, 2, 3, 9, 10, 11, 12, 13, 14, 15, 16, 17, 18, 19, 28, 29, 31, 46, 52, 58, 59, 60, 61, 62, 67, 68, 70, 77, 79, 81, 89, 110, 111, 113, 120, 121] [1, 2, 3, 4, 5, 6, 7, 8, 9, 10, 11, 12, 13, 14, 15, 16, 17, 18, 19, 20, 21, 22, 23, 24, 25, 26, 27, 28, 29, 30, 31, 32, 33, 34, 35, 36, 37, 38, 39, 40, 41, 42, 43, 44, 45, 46, 47, 48, 49, 50, 51, 52, 53, 54, 55, 56, 57, 58, 59, 60, 61, 62, 63, 64, 65, 66, 67, 68, 69, 70, 72, 73, 80, 81, 82, 83, 84, 85] G A Gx Ax → Gx 16 = fk1 → Gx 31 = nd1 → Gx 19 = sy1 → Gx 46 = pc1 → Gx 52 = lk1 → Gx 58 = pg1 → Gx 2 = sz1 → Gx 110 = im → Gx 111 = it → Gx 113 = om → ((-2147483648 : Int) ≤ i ∧ i ≤ 2147483647) → (0 ≤ i) → (i ≤ 6) → (0 ≤ fk1) → (pg1 = 0) → (sz1 = 0) → ((fk1) = 0 → GAx Ax (pc1) (nd1) (sy1) (lk1) (i)) → wj X d jm366 (143, L, [], rV c0 c1 Gx Ax T) (fun o V_q => ∃ (G_q : Nat → Int) (A_q : Nat → Nat → Int) (r : Int) (pg2 : Int) (im2 : Int) (it2 : Int) (om2 : Int) (lk2 : Int) (sz2 : Int), V_q = rV c0 c1 G_q A_q T ∧ o = .inl (some (.int (i32 r))) ∧ Wk G_q A_q ∧ Fr [0, 2, 3, 9, 10, 11, 12, 13, 14, 15, 16, 17, 18, 19, 28, 29, 31, 46, 52, 58, 59, 60, 61, 62, 67, 68, 70, 77, 79, 81, 89, 110, 111, 113, 120, 121] [1, 2, 3, 4, 5, 6, 7, 8, 9, 10, 11, 12, 13, 14, 15, 16, 17, 18, 19, 20, 21, 22, 23, 24, 25, 26, 27, 28, 29, 30, 31, 32, 33, 34, 35, 36, 37, 38, 39, 40, 41, 42, 43, 44, 45, 46, 47, 48, 49, 50, 51, 52, 53, 54, 55, 56, 57, 58, 59, 60, 61, 62, 63, 64, 65, 66, 67, 68, 69, 70, 72, 73, 80, 81, 82, 83, 84, 85] G A G_q A_q ∧ ((-2147483648 : Int) ≤ r ∧ r ≤ 2147483647) ∧ G_q 58 = pg2 ∧ G_q 110 = im2 ∧ G_q 111 = it2 ∧ G_q 113 = om2 ∧ G_q 52 = lk2 ∧ G_q 2 = sz2 ∧ (sz2 = 0) ∧ (((pg2 = 0) ∧ (im2 = im) ∧ (it2 = it) ∧ (om2 = om)) ∨ ((pg2 = 1) ∧ (im2 = 0) ∧ (it2 = 0) ∧ (om2 = 0) ∧ (GZ (lk2) A_q) ∧ (RD (lk2) A_q)))) := by
  have hF0 : Fr [0, 2, 3, 9, 10, 11, 12, 13, 14, 15, 16, 17, 18, 19, 28, 29, 31, 46, 52, 58, 59, 60, 61, 62, 67, 68, 70, 77, 79, 81, 89, 110, 111, 113, 120, 121] [1, 2, 3, 4, 5, 6, 7, 8, 9, 10, 11, 12, 13, 14, 15, 16, 17, 18, 19, 20, 21, 22, 23, 24, 25, 26, 27, 28, 29, 30, 31, 32, 33, 34, 35, 36, 37, 38, 39, 40, 41, 42, 43, 44, 45, 46, 47, 48, 49, 50, 51, 52, 53, 54, 55, 56, 57, 58, 59, 60, 61, 62, 63, 64, 65, 66, 67, 68, 69, 70, 72, 73, 80, 81, 82, 83, 84, 85] G A G A := Fr_rf
  have b_im : (-2147483648 : Int) ≤ im ∧ im ≤ 2147483647 := e_im ▸ hW.1 110
  have b_it : (-2147483648 : Int) ≤ it ∧ it ≤ 2147483647 := e_it ▸ hW.1 111
  have b_om : (-2147483648 : Int) ≤ om ∧ om ≤ 2147483647 := e_om ▸ hW.1 113
  intro m
  induction m using Nat.strongRecOn with
  | ind m ih143 =>
    intro L Gx Ax i fk1 nd1 sy1 pc1 lk1 pg1 sz1 hm gL_0 gL_1 hWx hFx ex_fk1 ex_nd1 ex_sy1 ex_pc1 ex_lk1 ex_pg1 ex_sz1 fx_110 fx_111 fx_113 rx_i iv_0 iv_1 iv_2 iv_3 iv_4 iv_5
    have b_fk1 : (0 : Int) ≤ fk1 ∧ fk1 ≤ 6 := ex_fk1 ▸ hWx.1 16
    have b_nd1 : (0 : Int) ≤ nd1 ∧ nd1 ≤ 6999 := ex_nd1 ▸ hWx.1 31
    have b_sy1 : (0 : Int) ≤ sy1 ∧ sy1 ≤ 202 := ex_sy1 ▸ hWx.1 19
    have b_pc1 : (0 : Int) ≤ pc1 ∧ pc1 ≤ 24 := ex_pc1 ▸ hWx.1 46
    have b_lk1 : (0 : Int) ≤ lk1 ∧ lk1 ≤ 12 := ex_lk1 ▸ hWx.1 52
    have b_pg1 : (0 : Int) ≤ pg1 ∧ pg1 ≤ 1 := ex_pg1 ▸ hWx.1 58
    have b_sz1 : (0 : Int) ≤ sz1 ∧ sz1 ≤ 3000 := ex_sz1 ▸ hWx.1 2
    have _q : True := trivial
    refine jx_ld (pc_q := 144) (l_q := L) (st_q := [.int (i32 (i))]) rfl (jl_iloadn gL_1) ?_
    refine jx_ar (pc_q := 146) (st_q := [.int (i32 (6)), .int (i32 (i))]) rfl rfl rfl rfl ?_
    refine jx_icmp_ge (pc_q := 149) (tg := 185) rfl rfl rfl (Int.le_trans (by decide : (-2147483648 : Int) ≤ -2147483648) rx_i.1) (Int.le_trans rx_i.2 (by decide : (2147483647 : Int) ≤ 2147483647)) (by decide) (by decide) (fun h37 => ?_) (fun h37 => ?_)
    · have _q := h37
      exact c_compile_at_185 (X := X) (d := d) (c0 := c0) (c1 := c1) (G := G) (A := A) (T := T) (im := im) (it := it) (om := om) (hd := hd) (hW := hW) (e_im := e_im) (e_it := e_it) (e_om := e_om) L Gx Ax (fk1) (nd1) (sy1) (pc1) (lk1) (pg1) (sz1) gL_0 hWx hFx ((ex_fk1)) ((ex_nd1)) ((ex_sy1)) ((ex_pc1)) ((ex_lk1)) ((ex_pg1)) ((ex_sz1)) ((fx_110)) ((fx_111)) ((fx_113)) (by omega) (by omega) (by omega) ((fun q => by first | (exfalso; omega) | exact GAx_6 (iv_5 (by omega)) (by omega)))
    · have _q := h37
      refine jx_ld (pc_q := 150) (l_q := L) (st_q := [.ref 66]) rfl (jl_aloadn gL_0) ?_
      refine jx_vr (pc_q := 153) (as := []) (st := []) rfl rfl rfl rfl ⟨rfl, rfl, Nat.le_of_ble_eq_true rfl⟩ rfl rfl (c_bad (dd := d) (hd := by omega) (hW := hWx)  (fk := fk1) (e_fk := show Gx 16 = fk1 from (ex_fk1))    ) (fun o V_q hq => ?_)
      obtain ⟨r38, rfl, rfl, b39, q40⟩ := hq
      refine .inr ⟨_, rfl, ?_⟩
      rcases q40 with ⟨rfl, a41⟩ | ⟨rfl, a42⟩
      · have _q : True := trivial
        refine jx_if_ne (pc_q := 156) (tg := 185) rfl rfl rfl (by decide) (by decide) (fun h43 => ?_) (fun h43 => ?_)
        · have _q := h43
          exact c_compile_at_185 (X := X) (d := d) (c0 := c0) (c1 := c1) (G := G) (A := A) (T := T) (im := im) (it := it) (om := om) (hd := hd) (hW := hW) (e_im := e_im) (e_it := e_it) (e_om := e_om) L Gx Ax (fk1) (nd1) (sy1) (pc1) (lk1) (pg1) (sz1) gL_0 hWx hFx ((ex_fk1)) ((ex_nd1)) ((ex_sy1)) ((ex_pc1)) ((ex_lk1)) ((ex_pg1)) ((ex_sz1)) ((fx_110)) ((fx_111)) ((fx_113)) (by omega) (by omega) (by omega) ((fun q => by first | (exfalso; omega) | exact GAx_6 (iv_5 (by omega)) (by omega)))
        · have _q := h43
          exact absurd h43 (by omega)
      · have _q : True := trivial
        refine jx_if_ne (pc_q := 156) (tg := 185) rfl rfl rfl (by decide) (by decide) (fun h44 => ?_) (fun h44 => ?_)
        · have _q := h44
          exact absurd h44 (by omega)
        · have _q := h44
          refine jx_ld (pc_q := 157) (l_q := L) (st_q := [.ref 66]) rfl (jl_aloadn gL_0) ?_
          refine jr_get (pc_q := 160) (i := 55) (v := .ref 103) rfl rfl (by decide) rfl rfl ?_
          refine jx_ld (pc_q := 161) (l_q := L) (st_q := [.int (i32 (i)), .ref 103]) rfl (jl_iloadn gL_1) ?_
          have b45 : (-2147483648 : Int) ≤ Ax 36 (i).toNat ∧ Ax 36 (i).toNat ≤ 2147483647 := hWx.2 36 _
          refine jr_ldv (pc_q := 162) (i := 36) (m := 6) (z := i) (y := Ax 36 (i).toNat) rfl (by decide) rfl (by decide) (by omega) (by omega) rfl (show Ax 36 (i).toNat = Ax 36 (i).toNat from rfl) ?_
          refine jx_if_le (pc_q := 165) (tg := 179) rfl rfl rfl (Int.le_trans (by decide : (-2147483648 : Int) ≤ -2147483648) b45.1) (Int.le_trans b45.2 (by decide : (2147483647 : Int) ≤ 2147483647)) (fun h46 => ?_) (fun h46 => ?_)
          · have _q := h46
            refine jx_inc (pc_q := 182) (l_q := jSto1 L 1 (.int (i32 ((i + (1)))))) (x := i) rfl gL_1 (by decide) rfl rfl ?_
            obtain ⟨L47, eL47⟩ : ∃ q, q = jSto1 L 1 (.int (i32 ((i + (1))))) := ⟨_, rfl⟩
            rw [← eL47]
            have gL47_0 : jGet L47 0 = some (.ref 66) := eL47 ▸ jg_ne (by decide) gL_0 rfl
            have gL47_1 : jGet L47 1 = some (.int (i32 ((i + (1))))) := eL47 ▸ jg_eq
            refine jx_go (tg := 143) rfl rfl ?_
            exact ih143 _ (by omega) L47 Gx Ax ((i + (1))) (fk1) (nd1) (sy1) (pc1) (lk1) (pg1) (sz1) rfl gL47_0 gL47_1 hWx hFx ((ex_fk1)) ((ex_nd1)) ((ex_sy1)) ((ex_pc1)) ((ex_lk1)) ((ex_pg1)) ((ex_sz1)) ((fx_110)) ((fx_111)) ((fx_113)) (by omega) (by omega) (by omega) (by omega) (by omega) (by omega) ((fun q => GAx_s (iv_5 (by omega)) (by omega) rfl))
          · have _q := h46
            have _q : True := trivial
            refine jx_ld (pc_q := 166) (l_q := L) (st_q := [.ref 66]) rfl (jl_aloadn gL_0) ?_
            refine jx_ld (pc_q := 167) (l_q := L) (st_q := [.int (i32 (i)), .ref 66]) rfl (jl_iloadn gL_1) ?_
            refine jx_vr (pc_q := 170) (as := [.int (i32 (i))]) (st := []) rfl rfl rfl rfl ⟨rfl, rfl, Nat.le_of_ble_eq_true rfl⟩ rfl rfl (c_genAll_t (dd := d) (hd := by omega) (hW := hWx) (p := i) (pc := pc1) (e_pc := show Gx 46 = pc1 from (ex_pc1)) (nd := nd1) (e_nd := show Gx 31 = nd1 from (ex_nd1)) (sy := sy1) (e_sy := show Gx 19 = sy1 from (ex_sy1)) (lk := lk1) (e_lk := show Gx 52 = lk1 from (ex_lk1)) (bp := Ax 36 (i).toNat) (e_bp := show Ax 36 (i).toNat = Ax 36 (i).toNat from rfl)  (h_p := ⟨(Int.le_trans (by decide : (-2147483648 : Int) ≤ -2147483648) rx_i.1), (Int.le_trans rx_i.2 (by decide : (2147483647 : Int) ≤ 2147483647))⟩)  (p_0 := by omega) (p_1 := by omega) (p_2 := by omega) (p_3 := (iv_5 (by omega)))) (fun o V_q hq => ?_)
            obtain ⟨G48, A49, r50, rfl, rfl, hW51, hF52, b53, q54⟩ := hq
            have hF55 := Fr_tr hFx hF52 (Fr_sub (by decide)) (Fr_sub (by decide))
            refine .inr ⟨_, rfl, ?_⟩
            rcases q54 with ⟨rfl, a56⟩ | rfl
            · have _q : True := trivial
              refine jx_if_ne (pc_q := 173) (tg := 179) rfl rfl rfl (by decide) (by decide) (fun h57 => ?_) (fun h57 => ?_)
              · have _q := h57
                refine jx_inc (pc_q := 182) (l_q := jSto1 L 1 (.int (i32 ((i + (1)))))) (x := i) rfl gL_1 (by decide) rfl rfl ?_
                obtain ⟨L58, eL58⟩ : ∃ q, q = jSto1 L 1 (.int (i32 ((i + (1))))) := ⟨_, rfl⟩
                rw [← eL58]
                have gL58_0 : jGet L58 0 = some (.ref 66) := eL58 ▸ jg_ne (by decide) gL_0 rfl
                have gL58_1 : jGet L58 1 = some (.int (i32 ((i + (1))))) := eL58 ▸ jg_eq
                refine jx_go (tg := 143) rfl rfl ?_
                exact ih143 _ (by omega) L58 G48 A49 ((i + (1))) (fk1) (nd1) (sy1) (pc1) (lk1) (pg1) (sz1) rfl gL58_0 gL58_1 hW51 hF55 (((hF52.1 16 rfl).trans (ex_fk1))) (((hF52.1 31 rfl).trans (ex_nd1))) (((hF52.1 19 rfl).trans (ex_sy1))) (((hF52.1 46 rfl).trans (ex_pc1))) (((hF52.1 52 rfl).trans (ex_lk1))) (((hF52.1 58 rfl).trans (ex_pg1))) (((hF52.1 2 rfl).trans (ex_sz1))) (((hF52.1 110 rfl).trans (fx_110))) (((hF52.1 111 rfl).trans (fx_111))) (((hF52.1 113 rfl).trans (fx_113))) (by omega) (by omega) (by omega) (by omega) (by omega) (by omega) ((fun _ => a56))
              · have _q := h57
                exact absurd h57 (by omega)
            · have _q : True := trivial
              refine jx_if_ne (pc_q := 173) (tg := 179) rfl rfl rfl (by decide) (by decide) (fun h59 => ?_) (fun h59 => ?_)
              · have _q := h59
                exact absurd h59 (by omega)
              · have _q := h59
                refine jx_ld (pc_q := 174) (l_q := L) (st_q := [.ref 66]) rfl (jl_aloadn gL_0) ?_
                refine jx_ar (pc_q := 176) (st_q := [.int (i32 (6)), .ref 66]) rfl rfl rfl rfl ?_
                refine jr_put (pc_q := 179) (i := 16) (z := 6) rfl rfl (by decide) rfl rfl rfl rfl rfl rfl ?_
                have hW60 : Wk (uG G48 16 (6)) A49 := Wk_g hW51 (show (0 : Int) ≤ 6 by omega) (show 6 ≤ (6 : Int) by omega)
                have hF61 := Fr_g (z := 6) (i := 16) hF55 (by decide)
                refine jx_inc (pc_q := 182) (l_q := jSto1 L 1 (.int (i32 ((i + (1)))))) (x := i) rfl gL_1 (by decide) rfl rfl ?_
                obtain ⟨L62, eL62⟩ : ∃ q, q = jSto1 L 1 (.int (i32 ((i + (1))))) := ⟨_, rfl⟩
                rw [← eL62]
                have gL62_0 : jGet L62 0 = some (.ref 66) := eL62 ▸ jg_ne (by decide) gL_0 rfl
                have gL62_1 : jGet L62 1 = some (.int (i32 ((i + (1))))) := eL62 ▸ jg_eq
                refine jx_go (tg := 143) rfl rfl ?_
                exact ih143 _ (by omega) L62 (uG G48 16 (6)) A49 ((i + (1))) (6) (nd1) (sy1) (pc1) (lk1) (pg1) (sz1) rfl gL62_0 gL62_1 hW60 hF61 (rfl) (((hF52.1 31 rfl).trans (ex_nd1))) (((hF52.1 19 rfl).trans (ex_sy1))) (((hF52.1 46 rfl).trans (ex_pc1))) (((hF52.1 52 rfl).trans (ex_lk1))) (((hF52.1 58 rfl).trans (ex_pg1))) (((hF52.1 2 rfl).trans (ex_sz1))) (((hF52.1 110 rfl).trans (fx_110))) (((hF52.1 111 rfl).trans (fx_111))) (((hF52.1 113 rfl).trans (fx_113))) (by omega) (by omega) (by omega) (by omega) (by omega) (by omega) ((fun q => by omega))
set_option maxRecDepth 20000 in
set_option maxHeartbeats 4000000 in
theorem c_compile_at_114 {X : jX} {d : Nat} {c0 c1 : jC} {G : Nat → Int} {A : Nat → Nat → Int} {T : jH} {im it om : Int} (hd : 8 * 18 + 83 ≤ d + 1) (hW : Wk G A) (e_im : G 110 = im) (e_it : G 111 = it) (e_om : G 113 = om) : ∀ (L : jL) (Gx : Nat → Int) (Ax : Nat → Nat → Int) (fk1 nd1 sy1 pc1 lk1 pg1 sz1 : Int), jGet L 0 = some (.ref 66) → Wk Gx Ax → Fr [0, 2, 3, 9, 10, 11, 12, 13, 14, 15, 16, 17, 18, 19, 28, 29, 31, 46, 52, 58, 59, 60, 61, 62, 67, 68, 70, 77, 79, 81, 89, 110, 111, 113, 120, 121] [1, 2, 3, 4, 5, 6, 7, 8, 9, 10, 11, 12, 13, 14, 15, 16, 17, 18, 19, 20, 21, 22, 23, 24, 25, 26, 27, 28, 29, 30, 31, 32, 33, 34, 35, 36, 37, 38, 39, 40, 41, 42, 43, 44, 45, 46, 47, 48, 49, 50, 51, 52, 53, 54, 55, 56, 57, 58, 59, 60, 61, 62, 63, 64, 65, 66, 67, 68, 69, 70, 72, 73, 80, 81, 82, 83, 84, 85] G A Gx Ax → Gx 16 = fk1 → Gx 31 = nd1 → Gx 19 = sy1 → Gx 46 = pc1 → Gx 52 = lk1 → Gx 58 = pg1 → Gx 2 = sz1 → Gx 110 = im → Gx 111 = it → Gx 113 = om → (0 ≤ fk1) → (pg1 = 0) → (sz1 = 0) → ((fk1) = 0 → MS1 Ax (pc1) (nd1) (sy1) (lk1)) → wj X d jm366 (114, L, [], rV c0 c1 Gx Ax T) (fun o V_q => ∃ (G_q : Nat → Int) (A_q : Nat → Nat → Int) (r : Int) (pg2 : Int) (im2 : Int) (it2 : Int) (om2 : Int) (lk2 : Int) (sz2 : Int), V_q = rV c0 c1 G_q A_q T ∧ o = .inl (some (.int (i32 r))) ∧ Wk G_q A_q ∧ Fr [0, 2, 3, 9, 10, 11, 12, 13, 14, 15, 16, 17, 18, 19, 28, 29, 31, 46, 52, 58, 59, 60, 61, 62, 67, 68, 70, 77, 79, 81, 89, 110, 111, 113, 120, 121] [1, 2, 3, 4, 5, 6, 7, 8, 9, 10, 11, 12, 13, 14, 15, 16, 17, 18, 19, 20, 21, 22, 23, 24, 25, 26, 27, 28, 29, 30, 31, 32, 33, 34, 35, 36, 37, 38, 39, 40, 41, 42, 43, 44, 45, 46, 47, 48, 49, 50, 51, 52, 53, 54, 55, 56, 57, 58, 59, 60, 61, 62, 63, 64, 65, 66, 67, 68, 69, 70, 72, 73, 80, 81, 82, 83, 84, 85] G A G_q A_q ∧ ((-2147483648 : Int) ≤ r ∧ r ≤ 2147483647) ∧ G_q 58 = pg2 ∧ G_q 110 = im2 ∧ G_q 111 = it2 ∧ G_q 113 = om2 ∧ G_q 52 = lk2 ∧ G_q 2 = sz2 ∧ (sz2 = 0) ∧ (((pg2 = 0) ∧ (im2 = im) ∧ (it2 = it) ∧ (om2 = om)) ∨ ((pg2 = 1) ∧ (im2 = 0) ∧ (it2 = 0) ∧ (om2 = 0) ∧ (GZ (lk2) A_q) ∧ (RD (lk2) A_q)))) := by
  have hF0 : Fr [0, 2, 3, 9, 10, 11, 12, 13, 14, 15, 16, 17, 18, 19, 28, 29, 31, 46, 52, 58, 59, 60, 61, 62, 67, 68, 70, 77, 79, 81, 89, 110, 111, 113, 120, 121] [1, 2, 3, 4, 5, 6, 7, 8, 9, 10, 11, 12, 13, 14, 15, 16, 17, 18, 19, 20, 21, 22, 23, 24, 25, 26, 27, 28, 29, 30, 31, 32, 33, 34, 35, 36, 37, 38, 39, 40, 41, 42, 43, 44, 45, 46, 47, 48, 49, 50, 51, 52, 53, 54, 55, 56, 57, 58, 59, 60, 61, 62, 63, 64, 65, 66, 67, 68, 69, 70, 72, 73, 80, 81, 82, 83, 84, 85] G A G A := Fr_rf
  have b_im : (-2147483648 : Int) ≤ im ∧ im ≤ 2147483647 := e_im ▸ hW.1 110
  have b_it : (-2147483648 : Int) ≤ it ∧ it ≤ 2147483647 := e_it ▸ hW.1 111
  have b_om : (-2147483648 : Int) ≤ om ∧ om ≤ 2147483647 := e_om ▸ hW.1 113
  intro L Gx Ax fk1 nd1 sy1 pc1 lk1 pg1 sz1 gL_0 hWx hFx ex_fk1 ex_nd1 ex_sy1 ex_pc1 ex_lk1 ex_pg1 ex_sz1 fx_110 fx_111 fx_113 iv_0 iv_1 iv_2 iv_3
  have b_fk1 : (0 : Int) ≤ fk1 ∧ fk1 ≤ 6 := ex_fk1 ▸ hWx.1 16
  have b_nd1 : (0 : Int) ≤ nd1 ∧ nd1 ≤ 6999 := ex_nd1 ▸ hWx.1 31
  have b_sy1 : (0 : Int) ≤ sy1 ∧ sy1 ≤ 202 := ex_sy1 ▸ hWx.1 19
  have b_pc1 : (0 : Int) ≤ pc1 ∧ pc1 ≤ 24 := ex_pc1 ▸ hWx.1 46
  have b_lk1 : (0 : Int) ≤ lk1 ∧ lk1 ≤ 12 := ex_lk1 ▸ hWx.1 52
  have b_pg1 : (0 : Int) ≤ pg1 ∧ pg1 ≤ 1 := ex_pg1 ▸ hWx.1 58
  have b_sz1 : (0 : Int) ≤ sz1 ∧ sz1 ≤ 3000 := ex_sz1 ▸ hWx.1 2
  have _q : True := trivial
  refine jx_ld (pc_q := 115) (l_q := L) (st_q := [.ref 66]) rfl (jl_aloadn gL_0) ?_
  refine jx_vr (pc_q := 118) (as := []) (st := []) rfl rfl rfl rfl ⟨rfl, rfl, Nat.le_of_ble_eq_true rfl⟩ rfl rfl (c_bad (dd := d) (hd := by omega) (hW := hWx)  (fk := fk1) (e_fk := show Gx 16 = fk1 from (ex_fk1))    ) (fun o V_q hq => ?_)
  obtain ⟨r63, rfl, rfl, b64, q65⟩ := hq
  refine .inr ⟨_, rfl, ?_⟩
  rcases q65 with ⟨rfl, a66⟩ | ⟨rfl, a67⟩
  · have _q : True := trivial
    refine jx_if_ne (pc_q := 121) (tg := 141) rfl rfl rfl (by decide) (by decide) (fun h68 => ?_) (fun h68 => ?_)
    · have _q := h68
      refine jx_ar (pc_q := 142) (st_q := [.int (i32 (0))]) rfl rfl rfl rfl ?_
      refine jx_ld (pc_q := 143) (l_q := jSto1 L 1 (.int (i32 (0)))) (st_q := []) rfl rfl ?_
      obtain ⟨L69, eL69⟩ : ∃ q, q = jSto1 L 1 (.int (i32 (0))) := ⟨_, rfl⟩
      rw [← eL69]
      have gL69_0 : jGet L69 0 = some (.ref 66) := eL69 ▸ jg_ne (by decide) gL_0 rfl
      have gL69_1 : jGet L69 1 = some (.int (i32 (0))) := eL69 ▸ jg_eq
      exact c_compile_at_143 (X := X) (d := d) (c0 := c0) (c1 := c1) (G := G) (A := A) (T := T) (im := im) (it := it) (om := om) (hd := hd) (hW := hW) (e_im := e_im) (e_it := e_it) (e_om := e_om) _ L69 Gx Ax (0) (fk1) (nd1) (sy1) (pc1) (lk1) (pg1) (sz1) rfl gL69_0 gL69_1 hWx hFx ((ex_fk1)) ((ex_nd1)) ((ex_sy1)) ((ex_pc1)) ((ex_lk1)) ((ex_pg1)) ((ex_sz1)) ((fx_110)) ((fx_111)) ((fx_113)) (by omega) (by omega) (by omega) (by omega) (by omega) (by omega) ((fun q => by omega))
    · have _q := h68
      exact absurd h68 (by omega)
  · have _q : True := trivial
    refine jx_if_ne (pc_q := 121) (tg := 141) rfl rfl rfl (by decide) (by decide) (fun h70 => ?_) (fun h70 => ?_)
    · have _q := h70
      exact absurd h70 (by omega)
    · have _q := h70
      refine jx_ld (pc_q := 122) (l_q := L) (st_q := [.ref 66]) rfl (jl_aloadn gL_0) ?_
      refine jx_vr (pc_q := 125) (as := []) (st := []) rfl rfl rfl rfl ⟨rfl, rfl, Nat.le_of_ble_eq_true rfl⟩ rfl rfl (c_checkUses_t (dd := d) (hd := by omega) (hW := hWx)  (pc := pc1) (e_pc := show Gx 46 = pc1 from (ex_pc1)) (nd := nd1) (e_nd := show Gx 31 = nd1 from (ex_nd1)) (sy := sy1) (e_sy := show Gx 19 = sy1 from (ex_sy1)) (lk := lk1) (e_lk := show Gx 52 = lk1 from (ex_lk1))    (p_0 := (iv_3 (by omega)))) (fun o V_q hq => ?_)
      obtain ⟨G71, A72, r73, wl2_74, rfl, rfl, hW75, hF76, b77, e78, p79, q80⟩ := hq
      have hF81 := Fr_tr hFx hF76 (Fr_sub (by decide)) (Fr_sub (by decide))
      have bwl2_74 : (-2147483648 : Int) ≤ wl2_74 ∧ wl2_74 ≤ 2147483647 := e78 ▸ hW75.1 67
      refine .inr ⟨_, rfl, ?_⟩
      rcases q80 with ⟨rfl, a82⟩ | rfl
      · have _q : True := trivial
        refine jx_if_ne (pc_q := 128) (tg := 141) rfl rfl rfl (by decide) (by decide) (fun h83 => ?_) (fun h83 => ?_)
        · have _q := h83
          refine jx_ar (pc_q := 142) (st_q := [.int (i32 (0))]) rfl rfl rfl rfl ?_
          refine jx_ld (pc_q := 143) (l_q := jSto1 L 1 (.int (i32 (0)))) (st_q := []) rfl rfl ?_
          obtain ⟨L84, eL84⟩ : ∃ q, q = jSto1 L 1 (.int (i32 (0))) := ⟨_, rfl⟩
          rw [← eL84]
          have gL84_0 : jGet L84 0 = some (.ref 66) := eL84 ▸ jg_ne (by decide) gL_0 rfl
          have gL84_1 : jGet L84 1 = some (.int (i32 (0))) := eL84 ▸ jg_eq
          exact c_compile_at_143 (X := X) (d := d) (c0 := c0) (c1 := c1) (G := G) (A := A) (T := T) (im := im) (it := it) (om := om) (hd := hd) (hW := hW) (e_im := e_im) (e_it := e_it) (e_om := e_om) _ L84 G71 A72 (0) (fk1) (nd1) (sy1) (pc1) (lk1) (pg1) (sz1) rfl gL84_0 gL84_1 hW75 hF81 (((hF76.1 16 rfl).trans (ex_fk1))) (((hF76.1 31 rfl).trans (ex_nd1))) (((hF76.1 19 rfl).trans (ex_sy1))) (((hF76.1 46 rfl).trans (ex_pc1))) (((hF76.1 52 rfl).trans (ex_lk1))) (((hF76.1 58 rfl).trans (ex_pg1))) (((hF76.1 2 rfl).trans (ex_sz1))) (((hF76.1 110 rfl).trans (fx_110))) (((hF76.1 111 rfl).trans (fx_111))) (((hF76.1 113 rfl).trans (fx_113))) (by omega) (by omega) (by omega) (by omega) (by omega) (by omega) ((fun _ => a82))
        · have _q := h83
          exact absurd h83 (by omega)
      · have _q : True := trivial
        refine jx_if_ne (pc_q := 128) (tg := 141) rfl rfl rfl (by decide) (by decide) (fun h85 => ?_) (fun h85 => ?_)
        · have _q := h85
          exact absurd h85 (by omega)
        · have _q := h85
          refine jx_ld (pc_q := 129) (l_q := L) (st_q := [.ref 66]) rfl (jl_aloadn gL_0) ?_
          refine jx_ar (pc_q := 130) (st_q := [.int (i32 (5)), .ref 66]) rfl rfl rfl rfl ?_
          refine jr_put (pc_q := 133) (i := 16) (z := 5) rfl rfl (by decide) rfl rfl rfl rfl rfl rfl ?_
          have hW86 : Wk (uG G71 16 (5)) A72 := Wk_g hW75 (show (0 : Int) ≤ 5 by omega) (show 5 ≤ (6 : Int) by omega)
          have hF87 := Fr_g (z := 5) (i := 16) hF81 (by decide)
          refine jx_ld (pc_q := 134) (l_q := L) (st_q := [.ref 66]) rfl (jl_aloadn gL_0) ?_
          refine jx_ld (pc_q := 135) (l_q := L) (st_q := [.ref 66, .ref 66]) rfl (jl_aloadn gL_0) ?_
          refine jr_get (pc_q := 138) (i := 67) (v := .int (i32 (wl2_74))) rfl rfl (by decide) (rFv_eq (by decide) (show (uG G71 16 (5)) 67 = wl2_74 from (e78))) rfl ?_
          refine jr_put (pc_q := 141) (i := 17) (z := wl2_74) rfl rfl (by decide) rfl rfl rfl rfl rfl rfl ?_
          have hW88 : Wk (uG (uG G71 16 (5)) 17 (wl2_74)) A72 := Wk_g hW86 (show (-1 : Int) ≤ wl2_74 by omega) (show wl2_74 ≤ (3000 : Int) by omega)
          have hF89 := Fr_g (z := wl2_74) (i := 17) hF87 (by decide)
          refine jx_ar (pc_q := 142) (st_q := [.int (i32 (0))]) rfl rfl rfl rfl ?_
          refine jx_ld (pc_q := 143) (l_q := jSto1 L 1 (.int (i32 (0)))) (st_q := []) rfl rfl ?_
          obtain ⟨L90, eL90⟩ : ∃ q, q = jSto1 L 1 (.int (i32 (0))) := ⟨_, rfl⟩
          rw [← eL90]
          have gL90_0 : jGet L90 0 = some (.ref 66) := eL90 ▸ jg_ne (by decide) gL_0 rfl
          have gL90_1 : jGet L90 1 = some (.int (i32 (0))) := eL90 ▸ jg_eq
          exact c_compile_at_143 (X := X) (d := d) (c0 := c0) (c1 := c1) (G := G) (A := A) (T := T) (im := im) (it := it) (om := om) (hd := hd) (hW := hW) (e_im := e_im) (e_it := e_it) (e_om := e_om) _ L90 (uG (uG G71 16 (5)) 17 (wl2_74)) A72 (0) (5) (nd1) (sy1) (pc1) (lk1) (pg1) (sz1) rfl gL90_0 gL90_1 hW88 hF89 (rfl) (((hF76.1 31 rfl).trans (ex_nd1))) (((hF76.1 19 rfl).trans (ex_sy1))) (((hF76.1 46 rfl).trans (ex_pc1))) (((hF76.1 52 rfl).trans (ex_lk1))) (((hF76.1 58 rfl).trans (ex_pg1))) (((hF76.1 2 rfl).trans (ex_sz1))) (((hF76.1 110 rfl).trans (fx_110))) (((hF76.1 111 rfl).trans (fx_111))) (((hF76.1 113 rfl).trans (fx_113))) (by omega) (by omega) (by omega) (by omega) (by omega) (by omega) ((fun q => by omega))
set_option maxRecDepth 20000 in
set_option maxHeartbeats 4000000 in
theorem c_compile_at_62 {X : jX} {d : Nat} {c0 c1 : jC} {G : Nat → Int} {A : Nat → Nat → Int} {T : jH} {im it om : Int} (hd : 8 * 18 + 83 ≤ d + 1) (hW : Wk G A) (e_im : G 110 = im) (e_it : G 111 = it) (e_om : G 113 = om) : ∀ (m : Nat) (L : jL) (Gx : Nat → Int) (Ax : Nat → Nat → Int) (i fk1 nd1 sy1 pc1 lk1 pg1 sz1 ln1 na1 vi1 : Int), (6 - i).toNat = m → jGet L 0 = some (.ref 66) → jGet L 1 = some (.int (i32 i)) → Wk Gx Ax → Fr [0, 2, 3, 9, 10, 11, 12, 13, 14, 15, 16, 17, 18, 19, 28, 29, 31, 46, 52, 58, 59, 60, 61, 62, 67, 68, 70, 77, 79, 81, 89, 110, 111, 113, 120, 121] [1, 2, 3, 4, 5, 6, 7, 8, 9, 10, 11, 12, 13, 14, 15, 16, 17, 18, 19, 20, 21, 22, 23, 24, 25, 26, 27, 28, 29, 30, 31, 32, 33, 34, 35, 36, 37, 38, 39, 40, 41, 42, 43, 44, 45, 46, 47, 48, 49, 50, 51, 52, 53, 54, 55, 56, 57, 58, 59, 60, 61, 62, 63, 64, 65, 66, 67, 68, 69, 70, 72, 73, 80, 81, 82, 83, 84, 85] G A Gx Ax → Gx 16 = fk1 → Gx 31 = nd1 → Gx 19 = sy1 → Gx 46 = pc1 → Gx 52 = lk1 → Gx 58 = pg1 → Gx 2 = sz1 → Gx 9 = ln1 → Gx 28 = na1 → Gx 29 = vi1 → Gx 110 = im → Gx 111 = it → Gx 113 = om → ((-2147483648 : Int) ≤ i ∧ i ≤ 2147483647) → (0 ≤ i) → (i ≤ 6) → (fk1 = 0) → (ln1 = 0) → (nd1 = 1) → (sy1 = 0) → (na1 = 0) → (vi1 = 0) → (pc1 = 0) → (lk1 = 0) → (pg1 = 0) → ((∀ j : Int, 0 ≤ j → j < i → Ax 36 j.toNat = 0)) → wj X d jm366 (62, L, [], rV c0 c1 Gx Ax T) (fun o V_q => ∃ (G_q : Nat → Int) (A_q : Nat → Nat → Int) (r : Int) (pg2 : Int) (im2 : Int) (it2 : Int) (om2 : Int) (lk2 : Int) (sz2 : Int), V_q = rV c0 c1 G_q A_q T ∧ o = .inl (some (.int (i32 r))) ∧ Wk G_q A_q ∧ Fr [0, 2, 3, 9, 10, 11, 12, 13, 14, 15, 16, 17, 18, 19, 28, 29, 31, 46, 52, 58, 59, 60, 61, 62, 67, 68, 70, 77, 79, 81, 89, 110, 111, 113, 120, 121] [1, 2, 3, 4, 5, 6, 7, 8, 9, 10, 11, 12, 13, 14, 15, 16, 17, 18, 19, 20, 21, 22, 23, 24, 25, 26, 27, 28, 29, 30, 31, 32, 33, 34, 35, 36, 37, 38, 39, 40, 41, 42, 43, 44, 45, 46, 47, 48, 49, 50, 51, 52, 53, 54, 55, 56, 57, 58, 59, 60, 61, 62, 63, 64, 65, 66, 67, 68, 69, 70, 72, 73, 80, 81, 82, 83, 84, 85] G A G_q A_q ∧ ((-2147483648 : Int) ≤ r ∧ r ≤ 2147483647) ∧ G_q 58 = pg2 ∧ G_q 110 = im2 ∧ G_q 111 = it2 ∧ G_q 113 = om2 ∧ G_q 52 = lk2 ∧ G_q 2 = sz2 ∧ (sz2 = 0) ∧ (((pg2 = 0) ∧ (im2 = im) ∧ (it2 = it) ∧ (om2 = om)) ∨ ((pg2 = 1) ∧ (im2 = 0) ∧ (it2 = 0) ∧ (om2 = 0) ∧ (GZ (lk2) A_q) ∧ (RD (lk2) A_q)))) := by
  have hF0 : Fr [0, 2, 3, 9, 10, 11, 12, 13, 14, 15, 16, 17, 18, 19, 28, 29, 31, 46, 52, 58, 59, 60, 61, 62, 67, 68, 70, 77, 79, 81, 89, 110, 111, 113, 120, 121] [1, 2, 3, 4, 5, 6, 7, 8, 9, 10, 11, 12, 13, 14, 15, 16, 17, 18, 19, 20, 21, 22, 23, 24, 25, 26, 27, 28, 29, 30, 31, 32, 33, 34, 35, 36, 37, 38, 39, 40, 41, 42, 43, 44, 45, 46, 47, 48, 49, 50, 51, 52, 53, 54, 55, 56, 57, 58, 59, 60, 61, 62, 63, 64, 65, 66, 67, 68, 69, 70, 72, 73, 80, 81, 82, 83, 84, 85] G A G A := Fr_rf
  have b_im : (-2147483648 : Int) ≤ im ∧ im ≤ 2147483647 := e_im ▸ hW.1 110
  have b_it : (-2147483648 : Int) ≤ it ∧ it ≤ 2147483647 := e_it ▸ hW.1 111
  have b_om : (-2147483648 : Int) ≤ om ∧ om ≤ 2147483647 := e_om ▸ hW.1 113
  intro m
  induction m using Nat.strongRecOn with
  | ind m ih62 =>
    intro L Gx Ax i fk1 nd1 sy1 pc1 lk1 pg1 sz1 ln1 na1 vi1 hm gL_0 gL_1 hWx hFx ex_fk1 ex_nd1 ex_sy1 ex_pc1 ex_lk1 ex_pg1 ex_sz1 ex_ln1 ex_na1 ex_vi1 fx_110 fx_111 fx_113 rx_i iv_0 iv_1 iv_2 iv_3 iv_4 iv_5 iv_6 iv_7 iv_8 iv_9 iv_10 iv_11
    have b_fk1 : (0 : Int) ≤ fk1 ∧ fk1 ≤ 6 := ex_fk1 ▸ hWx.1 16
    have b_nd1 : (0 : Int) ≤ nd1 ∧ nd1 ≤ 6999 := ex_nd1 ▸ hWx.1 31
    have b_sy1 : (0 : Int) ≤ sy1 ∧ sy1 ≤ 202 := ex_sy1 ▸ hWx.1 19
    have b_pc1 : (0 : Int) ≤ pc1 ∧ pc1 ≤ 24 := ex_pc1 ▸ hWx.1 46
    have b_lk1 : (0 : Int) ≤ lk1 ∧ lk1 ≤ 12 := ex_lk1 ▸ hWx.1 52
    have b_pg1 : (0 : Int) ≤ pg1 ∧ pg1 ≤ 1 := ex_pg1 ▸ hWx.1 58
    have b_sz1 : (0 : Int) ≤ sz1 ∧ sz1 ≤ 3000 := ex_sz1 ▸ hWx.1 2
    have b_ln1 : (0 : Int) ≤ ln1 ∧ ln1 ≤ 3000 := ex_ln1 ▸ hWx.1 9
    have b_na1 : (0 : Int) ≤ na1 ∧ na1 ≤ 200 := ex_na1 ▸ hWx.1 28
    have b_vi1 : (0 : Int) ≤ vi1 ∧ vi1 ≤ 202 := ex_vi1 ▸ hWx.1 29
    have _q : True := trivial
    refine jx_ld (pc_q := 63) (l_q := L) (st_q := [.int (i32 (i))]) rfl (jl_iloadn gL_1) ?_
    refine jx_ar (pc_q := 65) (st_q := [.int (i32 (6)), .int (i32 (i))]) rfl rfl rfl rfl ?_
    refine jx_icmp_ge (pc_q := 68) (tg := 81) rfl rfl rfl (Int.le_trans (by decide : (-2147483648 : Int) ≤ -2147483648) rx_i.1) (Int.le_trans rx_i.2 (by decide : (2147483647 : Int) ≤ 2147483647)) (by decide) (by decide) (fun h91 => ?_) (fun h91 => ?_)
    · have _q := h91
      refine jx_ld (pc_q := 82) (l_q := L) (st_q := [.ref 66]) rfl (jl_aloadn gL_0) ?_
      refine jx_vr (pc_q := 85) (as := []) (st := []) rfl rfl rfl rfl ⟨rfl, rfl, Nat.le_of_ble_eq_true rfl⟩ rfl rfl (c_findLines (dd := d) (hd := by omega) (hW := hWx)  (sz := sz1) (e_sz := show Gx 2 = sz1 from (ex_sz1))    ) (fun o V_q hq => ?_)
      obtain ⟨G92, A93, rfl, rfl, hW94, hF95, pp96, -⟩ := hq
      have hF98 := Fr_tr hFx hF95 (Fr_sub (by decide)) (Fr_sub (by decide))
      refine .inl ⟨rfl, ?_⟩
      refine jx_ld (pc_q := 86) (l_q := L) (st_q := [.ref 66]) rfl (jl_aloadn gL_0) ?_
      refine jx_ar (pc_q := 87) (st_q := [.int (i32 (0)), .ref 66]) rfl rfl rfl rfl ?_
      refine jr_put (pc_q := 90) (i := 2) (z := 0) rfl rfl (by decide) rfl rfl rfl rfl rfl rfl ?_
      have hW99 : Wk (uG G92 2 (0)) A93 := Wk_g hW94 (show (0 : Int) ≤ 0 by omega) (show 0 ≤ (3000 : Int) by omega)
      have hF100 := Fr_g (z := 0) (i := 2) hF98 (by decide)
      refine jx_ld (pc_q := 91) (l_q := L) (st_q := [.ref 66]) rfl (jl_aloadn gL_0) ?_
      refine jx_vr (pc_q := 94) (as := []) (st := []) rfl rfl rfl rfl ⟨rfl, rfl, Nat.le_of_ble_eq_true rfl⟩ rfl rfl (c_readProgram_t (dd := d) (hd := by omega) (hW := hW99)  (fk := fk1) (e_fk := show (uG G92 2 (0)) 16 = fk1 from ((hF95.1 16 rfl).trans (ex_fk1))) (ln := ln1) (e_ln := show (uG G92 2 (0)) 9 = ln1 from ((hF95.1 9 rfl).trans (ex_ln1))) (nd := nd1) (e_nd := show (uG G92 2 (0)) 31 = nd1 from ((hF95.1 31 rfl).trans (ex_nd1))) (sy := sy1) (e_sy := show (uG G92 2 (0)) 19 = sy1 from ((hF95.1 19 rfl).trans (ex_sy1))) (na := na1) (e_na := show (uG G92 2 (0)) 28 = na1 from ((hF95.1 28 rfl).trans (ex_na1))) (vi := vi1) (e_vi := show (uG G92 2 (0)) 29 = vi1 from ((hF95.1 29 rfl).trans (ex_vi1))) (pc := pc1) (e_pc := show (uG G92 2 (0)) 46 = pc1 from ((hF95.1 46 rfl).trans (ex_pc1))) (lk := lk1) (e_lk := show (uG G92 2 (0)) 52 = lk1 from ((hF95.1 52 rfl).trans (ex_lk1))) (i_LT := (LT_ext (rfl) (rfl) (rfl) pp96))   (p_0 := by omega) (p_1 := by omega) (p_2 := by omega) (p_3 := by omega) (p_4 := by omega) (p_5 := by omega) (p_6 := by omega) (p_7 := by omega) (p_8 := (PZ_ext (hF95.2 36 rfl) (PZ_f iv_11 (by omega))))) (fun o V_q hq => ?_)
      obtain ⟨G101, A102, fk2_103, nd2_104, sy2_105, pc2_106, lk2_107, rfl, rfl, hW108, hF109, e110, e111, e112, e113, e114, q115⟩ := hq
      have hF116 := Fr_tr hF100 hF109 (Fr_sub (by decide)) (Fr_sub (by decide))
      have bfk2_103 : (0 : Int) ≤ fk2_103 ∧ fk2_103 ≤ 6 := e110 ▸ hW108.1 16
      have bnd2_104 : (0 : Int) ≤ nd2_104 ∧ nd2_104 ≤ 6999 := e111 ▸ hW108.1 31
      have bsy2_105 : (0 : Int) ≤ sy2_105 ∧ sy2_105 ≤ 202 := e112 ▸ hW108.1 19
      have bpc2_106 : (0 : Int) ≤ pc2_106 ∧ pc2_106 ≤ 24 := e113 ▸ hW108.1 46
      have blk2_107 : (0 : Int) ≤ lk2_107 ∧ lk2_107 ≤ 12 := e114 ▸ hW108.1 52
      refine .inl ⟨rfl, ?_⟩
      rcases q115 with a117 | ⟨a118, a119⟩
      · have _q : True := trivial
        refine jx_ld (pc_q := 95) (l_q := L) (st_q := [.ref 66]) rfl (jl_aloadn gL_0) ?_
        refine jx_vr (pc_q := 98) (as := []) (st := []) rfl rfl rfl rfl ⟨rfl, rfl, Nat.le_of_ble_eq_true rfl⟩ rfl rfl (c_bad (dd := d) (hd := by omega) (hW := hW108)  (fk := fk2_103) (e_fk := show G101 16 = fk2_103 from (e110))    ) (fun o V_q hq => ?_)
        obtain ⟨r120, rfl, rfl, b121, q122⟩ := hq
        refine .inr ⟨_, rfl, ?_⟩
        rcases q122 with ⟨rfl, a123⟩ | ⟨rfl, a124⟩
        · have _q : True := trivial
          refine jx_if_ne (pc_q := 101) (tg := 114) rfl rfl rfl (by decide) (by decide) (fun h125 => ?_) (fun h125 => ?_)
          · have _q := h125
            exact c_compile_at_114 (X := X) (d := d) (c0 := c0) (c1 := c1) (G := G) (A := A) (T := T) (im := im) (it := it) (om := om) (hd := hd) (hW := hW) (e_im := e_im) (e_it := e_it) (e_om := e_om) L G101 A102 (fk2_103) (nd2_104) (sy2_105) (pc2_106) (lk2_107) (pg1) (0) gL_0 hW108 hF116 ((e110)) ((e111)) ((e112)) ((e113)) ((e114)) (((hF109.1 58 rfl).trans ((hF95.1 58 rfl).trans (ex_pg1)))) ((hF109.1 2 rfl)) (((hF109.1 110 rfl).trans ((hF95.1 110 rfl).trans (fx_110)))) (((hF109.1 111 rfl).trans ((hF95.1 111 rfl).trans (fx_111)))) (((hF109.1 113 rfl).trans ((hF95.1 113 rfl).trans (fx_113)))) (by omega) (by omega) (by omega) ((fun q => by omega))
          · have _q := h125
            exact absurd h125 (by omega)
        · have _q : True := trivial
          exfalso
          omega
      · have _q : True := trivial
        refine jx_ld (pc_q := 95) (l_q := L) (st_q := [.ref 66]) rfl (jl_aloadn gL_0) ?_
        refine jx_vr (pc_q := 98) (as := []) (st := []) rfl rfl rfl rfl ⟨rfl, rfl, Nat.le_of_ble_eq_true rfl⟩ rfl rfl (c_bad (dd := d) (hd := by omega) (hW := hW108)  (fk := fk2_103) (e_fk := show G101 16 = fk2_103 from (e110))    ) (fun o V_q hq => ?_)
        obtain ⟨r126, rfl, rfl, b127, q128⟩ := hq
        refine .inr ⟨_, rfl, ?_⟩
        rcases q128 with ⟨rfl, a129⟩ | ⟨rfl, a130⟩
        · have _q : True := trivial
          exfalso
          omega
        · have _q : True := trivial
          refine jx_if_ne (pc_q := 101) (tg := 114) rfl rfl rfl (by decide) (by decide) (fun h131 => ?_) (fun h131 => ?_)
          · have _q := h131
            exact absurd h131 (by omega)
          · have _q := h131
            refine jx_ld (pc_q := 102) (l_q := L) (st_q := [.ref 66]) rfl (jl_aloadn gL_0) ?_
            refine jx_vr (pc_q := 105) (as := []) (st := []) rfl rfl rfl rfl ⟨rfl, rfl, Nat.le_of_ble_eq_true rfl⟩ rfl rfl (c_measureAll_t (dd := d) (hd := by omega) (hW := hW108)  (pc := pc2_106) (e_pc := show G101 46 = pc2_106 from (e113)) (nd := nd2_104) (e_nd := show G101 31 = nd2_104 from (e111)) (sy := sy2_105) (e_sy := show G101 19 = sy2_105 from (e112)) (lk := lk2_107) (e_lk := show G101 52 = lk2_107 from (e114))    (p_0 := a119)) (fun o V_q hq => ?_)
            obtain ⟨G132, A133, r134, rfl, rfl, hW135, hF136, b137, q138⟩ := hq
            have hF139 := Fr_tr hF116 hF136 (Fr_sub (by decide)) (Fr_sub (by decide))
            refine .inr ⟨_, rfl, ?_⟩
            rcases q138 with ⟨rfl, a140⟩ | rfl
            · have _q : True := trivial
              refine jx_if_ne (pc_q := 108) (tg := 114) rfl rfl rfl (by decide) (by decide) (fun h141 => ?_) (fun h141 => ?_)
              · have _q := h141
                exact c_compile_at_114 (X := X) (d := d) (c0 := c0) (c1 := c1) (G := G) (A := A) (T := T) (im := im) (it := it) (om := om) (hd := hd) (hW := hW) (e_im := e_im) (e_it := e_it) (e_om := e_om) L G132 A133 (fk2_103) (nd2_104) (sy2_105) (pc2_106) (lk2_107) (pg1) (0) gL_0 hW135 hF139 (((hF136.1 16 rfl).trans (e110))) (((hF136.1 31 rfl).trans (e111))) (((hF136.1 19 rfl).trans (e112))) (((hF136.1 46 rfl).trans (e113))) (((hF136.1 52 rfl).trans (e114))) (((hF136.1 58 rfl).trans ((hF109.1 58 rfl).trans ((hF95.1 58 rfl).trans (ex_pg1))))) (((hF136.1 2 rfl).trans (hF109.1 2 rfl))) (((hF136.1 110 rfl).trans ((hF109.1 110 rfl).trans ((hF95.1 110 rfl).trans (fx_110))))) (((hF136.1 111 rfl).trans ((hF109.1 111 rfl).trans ((hF95.1 111 rfl).trans (fx_111))))) (((hF136.1 113 rfl).trans ((hF109.1 113 rfl).trans ((hF95.1 113 rfl).trans (fx_113))))) (by omega) (by omega) (by omega) ((fun _ => a140))
              · have _q := h141
                exact absurd h141 (by omega)
            · have _q : True := trivial
              refine jx_if_ne (pc_q := 108) (tg := 114) rfl rfl rfl (by decide) (by decide) (fun h142 => ?_) (fun h142 => ?_)
              · have _q := h142
                exact absurd h142 (by omega)
              · have _q := h142
                refine jx_ld (pc_q := 109) (l_q := L) (st_q := [.ref 66]) rfl (jl_aloadn gL_0) ?_
                refine jx_ar (pc_q := 111) (st_q := [.int (i32 (6)), .ref 66]) rfl rfl rfl rfl ?_
                refine jr_put (pc_q := 114) (i := 16) (z := 6) rfl rfl (by decide) rfl rfl rfl rfl rfl rfl ?_
                have hW143 : Wk (uG G132 16 (6)) A133 := Wk_g hW135 (show (0 : Int) ≤ 6 by omega) (show 6 ≤ (6 : Int) by omega)
                have hF144 := Fr_g (z := 6) (i := 16) hF139 (by decide)
                exact c_compile_at_114 (X := X) (d := d) (c0 := c0) (c1 := c1) (G := G) (A := A) (T := T) (im := im) (it := it) (om := om) (hd := hd) (hW := hW) (e_im := e_im) (e_it := e_it) (e_om := e_om) L (uG G132 16 (6)) A133 (6) (nd2_104) (sy2_105) (pc2_106) (lk2_107) (pg1) (0) gL_0 hW143 hF144 (rfl) (((hF136.1 31 rfl).trans (e111))) (((hF136.1 19 rfl).trans (e112))) (((hF136.1 46 rfl).trans (e113))) (((hF136.1 52 rfl).trans (e114))) (((hF136.1 58 rfl).trans ((hF109.1 58 rfl).trans ((hF95.1 58 rfl).trans (ex_pg1))))) (((hF136.1 2 rfl).trans (hF109.1 2 rfl))) (((hF136.1 110 rfl).trans ((hF109.1 110 rfl).trans ((hF95.1 110 rfl).trans (fx_110))))) (((hF136.1 111 rfl).trans ((hF109.1 111 rfl).trans ((hF95.1 111 rfl).trans (fx_111))))) (((hF136.1 113 rfl).trans ((hF109.1 113 rfl).trans ((hF95.1 113 rfl).trans (fx_113))))) (by omega) (by omega) (by omega) ((fun q => by omega))
    · have _q := h91
      refine jx_ld (pc_q := 69) (l_q := L) (st_q := [.ref 66]) rfl (jl_aloadn gL_0) ?_
      refine jr_get (pc_q := 72) (i := 55) (v := .ref 103) rfl rfl (by decide) rfl rfl ?_
      refine jx_ld (pc_q := 73) (l_q := L) (st_q := [.int (i32 (i)), .ref 103]) rfl (jl_iloadn gL_1) ?_
      refine jx_ar (pc_q := 74) (st_q := [.int (i32 (0)), .int (i32 (i)), .ref 103]) rfl rfl rfl rfl ?_
      refine jr_st (pc_q := 75) (i := 36) (m := 6) (z := i) (y := 0) rfl (by decide) rfl (by decide) (by omega) (by omega) rfl ?_
      have hW146 : Wk Gx (uA Ax 36 (i).toNat (0)) := Wk_a hWx (show (-2147483648 : Int) ≤ 0 by omega) (show 0 ≤ (2147483647 : Int) by omega)
      have hF147 := Fr_a (z := 0) (k := 36) (n := (i).toNat) hFx (by decide)
      obtain ⟨A145, eA145⟩ : ∃ q, q = uA Ax 36 (i).toNat (0) := ⟨_, rfl⟩
      rw [← eA145]
      rw [← eA145] at hW146 hF147
      have q148 : A145 36 (i).toNat = 0 := by rw [eA145]; exact uA_eq
      refine jx_inc (pc_q := 78) (l_q := jSto1 L 1 (.int (i32 ((i + (1)))))) (x := i) rfl gL_1 (by decide) rfl rfl ?_
      obtain ⟨L149, eL149⟩ : ∃ q, q = jSto1 L 1 (.int (i32 ((i + (1))))) := ⟨_, rfl⟩
      rw [← eL149]
      have gL149_0 : jGet L149 0 = some (.ref 66) := eL149 ▸ jg_ne (by decide) gL_0 rfl
      have gL149_1 : jGet L149 1 = some (.int (i32 ((i + (1))))) := eL149 ▸ jg_eq
      refine jx_go (tg := 62) rfl rfl ?_
      exact ih62 _ (by omega) L149 Gx A145 ((i + (1))) (fk1) (nd1) (sy1) (pc1) (lk1) (pg1) (sz1) (ln1) (na1) (vi1) rfl gL149_0 gL149_1 hW146 hF147 ((ex_fk1)) ((ex_nd1)) ((ex_sy1)) ((ex_pc1)) ((ex_lk1)) ((ex_pg1)) ((ex_sz1)) ((ex_ln1)) ((ex_na1)) ((ex_vi1)) ((fx_110)) ((fx_111)) ((fx_113)) (by omega) (by omega) (by omega) (by omega) (by omega) (by omega) (by omega) (by omega) (by omega) (by omega) (by omega) (by omega) ((PS_nx iv_11 eA145 rfl))
set_option maxRecDepth 20000 in
set_option maxHeartbeats 4000000 in
theorem c_compile {X : jX} {dd : Nat} {c0 c1 : jC} {G : Nat → Int} {A : Nat → Nat → Int} {T : jH} {im it om : Int} (hd : 8 * 18 + 83 ≤ dd) (hW : Wk G A) (e_im : G 110 = im) (e_it : G 111 = it) (e_om : G 113 = om) : wk X dd 366 [.ref 66] (rV c0 c1 G A T) (fun o V_q => ∃ (G_q : Nat → Int) (A_q : Nat → Nat → Int) (r : Int) (pg2 : Int) (im2 : Int) (it2 : Int) (om2 : Int) (lk2 : Int) (sz2 : Int), V_q = rV c0 c1 G_q A_q T ∧ o = .inl (some (.int (i32 r))) ∧ Wk G_q A_q ∧ Fr [0, 2, 3, 9, 10, 11, 12, 13, 14, 15, 16, 17, 18, 19, 28, 29, 31, 46, 52, 58, 59, 60, 61, 62, 67, 68, 70, 77, 79, 81, 89, 110, 111, 113, 120, 121] [1, 2, 3, 4, 5, 6, 7, 8, 9, 10, 11, 12, 13, 14, 15, 16, 17, 18, 19, 20, 21, 22, 23, 24, 25, 26, 27, 28, 29, 30, 31, 32, 33, 34, 35, 36, 37, 38, 39, 40, 41, 42, 43, 44, 45, 46, 47, 48, 49, 50, 51, 52, 53, 54, 55, 56, 57, 58, 59, 60, 61, 62, 63, 64, 65, 66, 67, 68, 69, 70, 72, 73, 80, 81, 82, 83, 84, 85] G A G_q A_q ∧ ((-2147483648 : Int) ≤ r ∧ r ≤ 2147483647) ∧ G_q 58 = pg2 ∧ G_q 110 = im2 ∧ G_q 111 = it2 ∧ G_q 113 = om2 ∧ G_q 52 = lk2 ∧ G_q 2 = sz2 ∧ (sz2 = 0) ∧ (((pg2 = 0) ∧ (im2 = im) ∧ (it2 = it) ∧ (om2 = om)) ∨ ((pg2 = 1) ∧ (im2 = 0) ∧ (it2 = 0) ∧ (om2 = 0) ∧ (GZ (lk2) A_q) ∧ (RD (lk2) A_q)))) := by
  obtain ⟨d, rfl⟩ : ∃ d, dd = d + 1 := ⟨dd - 1, by omega⟩
  refine wk_of (e := jm366) rfl (Nat.le_of_ble_eq_true rfl) ?_
  show wj X d jm366 (0, [(0, .ref 66)], [], rV c0 c1 G A T) _
  have hF0 : Fr [0, 2, 3, 9, 10, 11, 12, 13, 14, 15, 16, 17, 18, 19, 28, 29, 31, 46, 52, 58, 59, 60, 61, 62, 67, 68, 70, 77, 79, 81, 89, 110, 111, 113, 120, 121] [1, 2, 3, 4, 5, 6, 7, 8, 9, 10, 11, 12, 13, 14, 15, 16, 17, 18, 19, 20, 21, 22, 23, 24, 25, 26, 27, 28, 29, 30, 31, 32, 33, 34, 35, 36, 37, 38, 39, 40, 41, 42, 43, 44, 45, 46, 47, 48, 49, 50, 51, 52, 53, 54, 55, 56, 57, 58, 59, 60, 61, 62, 63, 64, 65, 66, 67, 68, 69, 70, 72, 73, 80, 81, 82, 83, 84, 85] G A G A := Fr_rf
  have b_im : (-2147483648 : Int) ≤ im ∧ im ≤ 2147483647 := e_im ▸ hW.1 110
  have b_it : (-2147483648 : Int) ≤ it ∧ it ≤ 2147483647 := e_it ▸ hW.1 111
  have b_om : (-2147483648 : Int) ≤ om ∧ om ≤ 2147483647 := e_om ▸ hW.1 113
  refine jx_ld (pc_q := 1) (l_q := [(0, .ref 66)]) (st_q := [.ref 66]) rfl (jl_aloadn rfl) ?_
  refine jx_ar (pc_q := 2) (st_q := [.int (i32 (0)), .ref 66]) rfl rfl rfl rfl ?_
  refine jr_put (pc_q := 5) (i := 0) (z := 0) rfl rfl (by decide) rfl rfl rfl rfl rfl rfl ?_
  have hW150 : Wk (uG G 0 (0)) A := Wk_g hW (show (0 : Int) ≤ 0 by omega) (show 0 ≤ (4 : Int) by omega)
  have hF151 := Fr_g (z := 0) (i := 0) hF0 (by decide)
  refine jx_ld (pc_q := 6) (l_q := [(0, .ref 66)]) (st_q := [.ref 66]) rfl (jl_aloadn rfl) ?_
  refine jx_ar (pc_q := 7) (st_q := [.int (i32 (0)), .ref 66]) rfl rfl rfl rfl ?_
  refine jr_put (pc_q := 10) (i := 16) (z := 0) rfl rfl (by decide) rfl rfl rfl rfl rfl rfl ?_
  have hW152 : Wk (uG (uG G 0 (0)) 16 (0)) A := Wk_g hW150 (show (0 : Int) ≤ 0 by omega) (show 0 ≤ (6 : Int) by omega)
  have hF153 := Fr_g (z := 0) (i := 16) hF151 (by decide)
  refine jx_ld (pc_q := 11) (l_q := [(0, .ref 66)]) (st_q := [.ref 66]) rfl (jl_aloadn rfl) ?_
  refine jx_ar (pc_q := 12) (st_q := [.int (i32 (-1)), .ref 66]) rfl rfl rfl rfl ?_
  refine jr_put (pc_q := 15) (i := 17) (z := -1) rfl rfl (by decide) rfl rfl rfl rfl rfl rfl ?_
  have hW154 : Wk (uG (uG (uG G 0 (0)) 16 (0)) 17 (-1)) A := Wk_g hW152 (show (-1 : Int) ≤ -1 by omega) (show -1 ≤ (3000 : Int) by omega)
  have hF155 := Fr_g (z := -1) (i := 17) hF153 (by decide)
  refine jx_ld (pc_q := 16) (l_q := [(0, .ref 66)]) (st_q := [.ref 66]) rfl (jl_aloadn rfl) ?_
  refine jx_ar (pc_q := 17) (st_q := [.int (i32 (-1)), .ref 66]) rfl rfl rfl rfl ?_
  refine jr_put (pc_q := 20) (i := 18) (z := -1) rfl rfl (by decide) rfl rfl rfl rfl rfl rfl ?_
  have hW156 : Wk (uG (uG (uG (uG G 0 (0)) 16 (0)) 17 (-1)) 18 (-1)) A := Wk_g hW154 (show (-3000 : Int) ≤ -1 by omega) (show -1 ≤ (3002 : Int) by omega)
  have hF157 := Fr_g (z := -1) (i := 18) hF155 (by decide)
  refine jx_ld (pc_q := 21) (l_q := [(0, .ref 66)]) (st_q := [.ref 66]) rfl (jl_aloadn rfl) ?_
  refine jx_ar (pc_q := 22) (st_q := [.int (i32 (0)), .ref 66]) rfl rfl rfl rfl ?_
  refine jr_put (pc_q := 25) (i := 58) (z := 0) rfl rfl (by decide) rfl rfl rfl (jFit_b (by omega) (by omega)) rfl rfl ?_
  have hW158 : Wk (uG (uG (uG (uG (uG G 0 (0)) 16 (0)) 17 (-1)) 18 (-1)) 58 (0)) A := Wk_g hW156 (show (0 : Int) ≤ 0 by omega) (show 0 ≤ (1 : Int) by omega)
  have hF159 := Fr_g (z := 0) (i := 58) hF157 (by decide)
  refine jx_ld (pc_q := 26) (l_q := [(0, .ref 66)]) (st_q := [.ref 66]) rfl (jl_aloadn rfl) ?_
  refine jx_ar (pc_q := 27) (st_q := [.int (i32 (0)), .ref 66]) rfl rfl rfl rfl ?_
  refine jr_put (pc_q := 30) (i := 19) (z := 0) rfl rfl (by decide) rfl rfl rfl rfl rfl rfl ?_
  have hW160 : Wk (uG (uG (uG (uG (uG (uG G 0 (0)) 16 (0)) 17 (-1)) 18 (-1)) 58 (0)) 19 (0)) A := Wk_g hW158 (show (0 : Int) ≤ 0 by omega) (show 0 ≤ (202 : Int) by omega)
  have hF161 := Fr_g (z := 0) (i := 19) hF159 (by decide)
  refine jx_ld (pc_q := 31) (l_q := [(0, .ref 66)]) (st_q := [.ref 66]) rfl (jl_aloadn rfl) ?_
  refine jx_ar (pc_q := 32) (st_q := [.int (i32 (0)), .ref 66]) rfl rfl rfl rfl ?_
  refine jr_put (pc_q := 35) (i := 28) (z := 0) rfl rfl (by decide) rfl rfl rfl rfl rfl rfl ?_
  have hW162 : Wk (uG (uG (uG (uG (uG (uG (uG G 0 (0)) 16 (0)) 17 (-1)) 18 (-1)) 58 (0)) 19 (0)) 28 (0)) A := Wk_g hW160 (show (0 : Int) ≤ 0 by omega) (show 0 ≤ (200 : Int) by omega)
  have hF163 := Fr_g (z := 0) (i := 28) hF161 (by decide)
  refine jx_ld (pc_q := 36) (l_q := [(0, .ref 66)]) (st_q := [.ref 66]) rfl (jl_aloadn rfl) ?_
  refine jx_ar (pc_q := 37) (st_q := [.int (i32 (0)), .ref 66]) rfl rfl rfl rfl ?_
  refine jr_put (pc_q := 40) (i := 29) (z := 0) rfl rfl (by decide) rfl rfl rfl rfl rfl rfl ?_
  have hW164 : Wk (uG (uG (uG (uG (uG (uG (uG (uG G 0 (0)) 16 (0)) 17 (-1)) 18 (-1)) 58 (0)) 19 (0)) 28 (0)) 29 (0)) A := Wk_g hW162 (show (0 : Int) ≤ 0 by omega) (show 0 ≤ (202 : Int) by omega)
  have hF165 := Fr_g (z := 0) (i := 29) hF163 (by decide)
  refine jx_ld (pc_q := 41) (l_q := [(0, .ref 66)]) (st_q := [.ref 66]) rfl (jl_aloadn rfl) ?_
  refine jx_ar (pc_q := 42) (st_q := [.int (i32 (1)), .ref 66]) rfl rfl rfl rfl ?_
  refine jr_put (pc_q := 45) (i := 31) (z := 1) rfl rfl (by decide) rfl rfl rfl rfl rfl rfl ?_
  have hW166 : Wk (uG (uG (uG (uG (uG (uG (uG (uG (uG G 0 (0)) 16 (0)) 17 (-1)) 18 (-1)) 58 (0)) 19 (0)) 28 (0)) 29 (0)) 31 (1)) A := Wk_g hW164 (show (0 : Int) ≤ 1 by omega) (show 1 ≤ (6999 : Int) by omega)
  have hF167 := Fr_g (z := 1) (i := 31) hF165 (by decide)
  refine jx_ld (pc_q := 46) (l_q := [(0, .ref 66)]) (st_q := [.ref 66]) rfl (jl_aloadn rfl) ?_
  refine jx_ar (pc_q := 47) (st_q := [.int (i32 (0)), .ref 66]) rfl rfl rfl rfl ?_
  refine jr_put (pc_q := 50) (i := 46) (z := 0) rfl rfl (by decide) rfl rfl rfl rfl rfl rfl ?_
  have hW168 : Wk (uG (uG (uG (uG (uG (uG (uG (uG (uG (uG G 0 (0)) 16 (0)) 17 (-1)) 18 (-1)) 58 (0)) 19 (0)) 28 (0)) 29 (0)) 31 (1)) 46 (0)) A := Wk_g hW166 (show (0 : Int) ≤ 0 by omega) (show 0 ≤ (24 : Int) by omega)
  have hF169 := Fr_g (z := 0) (i := 46) hF167 (by decide)
  refine jx_ld (pc_q := 51) (l_q := [(0, .ref 66)]) (st_q := [.ref 66]) rfl (jl_aloadn rfl) ?_
  refine jx_ar (pc_q := 52) (st_q := [.int (i32 (0)), .ref 66]) rfl rfl rfl rfl ?_
  refine jr_put (pc_q := 55) (i := 52) (z := 0) rfl rfl (by decide) rfl rfl rfl rfl rfl rfl ?_
  have hW170 : Wk (uG (uG (uG (uG (uG (uG (uG (uG (uG (uG (uG G 0 (0)) 16 (0)) 17 (-1)) 18 (-1)) 58 (0)) 19 (0)) 28 (0)) 29 (0)) 31 (1)) 46 (0)) 52 (0)) A := Wk_g hW168 (show (0 : Int) ≤ 0 by omega) (show 0 ≤ (12 : Int) by omega)
  have hF171 := Fr_g (z := 0) (i := 52) hF169 (by decide)
  refine jx_ld (pc_q := 56) (l_q := [(0, .ref 66)]) (st_q := [.ref 66]) rfl (jl_aloadn rfl) ?_
  refine jx_ar (pc_q := 57) (st_q := [.int (i32 (0)), .ref 66]) rfl rfl rfl rfl ?_
  refine jr_put (pc_q := 60) (i := 9) (z := 0) rfl rfl (by decide) rfl rfl rfl rfl rfl rfl ?_
  have hW172 : Wk (uG (uG (uG (uG (uG (uG (uG (uG (uG (uG (uG (uG G 0 (0)) 16 (0)) 17 (-1)) 18 (-1)) 58 (0)) 19 (0)) 28 (0)) 29 (0)) 31 (1)) 46 (0)) 52 (0)) 9 (0)) A := Wk_g hW170 (show (0 : Int) ≤ 0 by omega) (show 0 ≤ (3000 : Int) by omega)
  have hF173 := Fr_g (z := 0) (i := 9) hF171 (by decide)
  refine jx_ar (pc_q := 61) (st_q := [.int (i32 (0))]) rfl rfl rfl rfl ?_
  refine jx_ld (pc_q := 62) (l_q := jSto1 [(0, .ref 66)] 1 (.int (i32 (0)))) (st_q := []) rfl rfl ?_
  obtain ⟨L174, eL174⟩ : ∃ q, q = jSto1 [(0, .ref 66)] 1 (.int (i32 (0))) := ⟨_, rfl⟩
  rw [← eL174]
  have gL174_0 : jGet L174 0 = some (.ref 66) := eL174 ▸ jg_ne (by decide) (rfl : jGet [(0, .ref 66)] 0 = some (.ref 66)) rfl
  have gL174_1 : jGet L174 1 = some (.int (i32 (0))) := eL174 ▸ jg_eq
  exact c_compile_at_62 (X := X) (d := d) (c0 := c0) (c1 := c1) (G := G) (A := A) (T := T) (im := im) (it := it) (om := om) (hd := hd) (hW := hW) (e_im := e_im) (e_it := e_it) (e_om := e_om) _ L174 (uG (uG (uG (uG (uG (uG (uG (uG (uG (uG (uG (uG G 0 (0)) 16 (0)) 17 (-1)) 18 (-1)) 58 (0)) 19 (0)) 28 (0)) 29 (0)) 31 (1)) 46 (0)) 52 (0)) 9 (0)) A (0) (0) (1) (0) (0) (0) (0) (G 2) (0) (0) (0) rfl gL174_0 gL174_1 hW172 hF173 (rfl) (rfl) (rfl) (rfl) (rfl) (rfl) (rfl) (rfl) (rfl) (rfl) ((e_im)) ((e_it)) ((e_om)) (by omega) (by omega) (by omega) (by omega) (by omega) (by omega) (by omega) (by omega) (by omega) (by omega) (by omega) (by omega) ((fun j a b => by omega))
