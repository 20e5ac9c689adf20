def LU (G : Nat → Int) (A : Nat → Nat → Int) (fr : Int) : Prop := LT G A ∧ ∀ i : Nat, (i : Int) < G 3 → A 4 i < fr
theorem LU_0 {G : Nat → Int} {A : Nat → Nat → Int} {fr : Int} (h : G 3 = 0) : LU G A fr := ⟨fun i hi => by omega, fun i hi => by omega⟩
theorem LU_mono {G : Nat → Int} {A : Nat → Nat → Int} {fr t : Int} (h : LU G A fr) (ht : fr ≤ t) : LU G A t := ⟨h.1, fun i hi => Int.lt_of_lt_of_le (h.2 i hi) ht⟩
theorem LU_add {G : Nat → Int} {A : Nat → Nat → Int} {fr n a b f e l t : Int} (h : LU G A fr) (hn : G 3 = n) (h0 : 0 ≤ n) (h1 : fr ≤ f) (h2 : f < e) (h3 : e < t) : LU (uG G 3 (n + 1)) (uA (uA (uA (uA (uA A 1 n.toNat a) 2 n.toNat b) 3 n.toNat f) 4 n.toNat e) 5 n.toNat l) t := by
  have e3 : ∀ i, (uA (uA (uA (uA (uA A 1 n.toNat a) 2 n.toNat b) 3 n.toNat f) 4 n.toNat e) 5 n.toNat l) 3 i = if i = n.toNat then f else A 3 i := by
    intro i
    simp [uA]
  have e4 : ∀ i, (uA (uA (uA (uA (uA A 1 n.toNat a) 2 n.toNat b) 3 n.toNat f) 4 n.toNat e) 5 n.toNat l) 4 i = if i = n.toNat then e else A 4 i := by
    intro i
    simp [uA]
  have g3 : uG G 3 (n + 1) 3 = n + 1 := if_pos rfl
  refine ⟨fun i hi => ?_, fun i hi => ?_⟩
  · rw [g3] at hi ⊢
    simp only [e3, e4]
    by_cases hc : i = n.toNat
    · rw [if_pos hc, if_pos hc]
      exact ⟨h2, fun hh => by omega⟩
    · have hi_q : (i : Int) < G 3 := by omega
      have q := h.1 i hi_q
      have q2 := h.2 i hi_q
      rw [if_neg hc, if_neg hc]
      refine ⟨q.1, fun hh => ?_⟩
      by_cases hd : i + 1 = n.toNat
      · rw [if_pos hd]
        omega
      · rw [if_neg hd]
        exact q.2 (by omega)
  · rw [g3] at hi
    rw [e4]
    by_cases hc : i = n.toNat
    · rw [if_pos hc]
      exact h3
    · rw [if_neg hc]
      have := h.2 i (by omega)
      omega

set_option maxRecDepth 20000 in
set_option maxHeartbeats 4000000 in
theorem c_findLines {X : jX} {dd : Nat} {c0 c1 : jC} {G : Nat → Int} {A : Nat → Nat → Int} {T : jH} {sz : Int} (hd : 1 ≤ dd) (hW : Wk G A) (e_sz : G 2 = sz) : wk X dd 252 [.ref 66] (rV c0 c1 G A T) (fun o V_q => ∃ (G_q : Nat → Int) (A_q : Nat → Nat → Int), V_q = rV c0 c1 G_q A_q T ∧ o = .inl none ∧ Wk G_q A_q ∧ Fr [3] [1, 2, 3, 4, 5] G A G_q A_q ∧ LT G_q A_q ∧ True) := by
  obtain ⟨d, rfl⟩ : ∃ d, dd = d + 1 := ⟨dd - 1, by omega⟩
  refine wk_of (e := jm252) rfl (Nat.le_of_ble_eq_true rfl) ?_
  show wj X d jm252 (0, [(0, .ref 66)], [], rV c0 c1 G A T) _
  have hF0 : Fr [3] [1, 2, 3, 4, 5] G A G A := Fr_rf
  have b_sz : (0 : Int) ≤ sz ∧ sz ≤ 3000 := e_sz ▸ hW.1 2
  have at_9 : ∀ (m : Nat) (L : jL) (Gx : Nat → Int) (Ax : Nat → Nat → Int) (fm num li1 : Int), (sz + 2 - fm).toNat = m → jGet L 0 = some (.ref 66) → jGet L 1 = some (.int (i32 fm)) → jGet L 2 = some (.int (i32 num)) → Wk Gx Ax → Fr [3] [1, 2, 3, 4, 5] G A Gx Ax → Gx 3 = li1 → ((-2147483648 : Int) ≤ fm ∧ fm ≤ 2147483647) → ((-2147483648 : Int) ≤ num ∧ num ≤ 2147483647) → (0 ≤ fm ∧ fm ≤ sz + 1) → (0 ≤ num ∧ num ≤ fm) → (0 ≤ li1 ∧ 2 * li1 ≤ fm) → LU Gx Ax fm → wj X d jm252 (9, L, [], rV c0 c1 Gx Ax T) (fun o V_q => ∃ (G_q : Nat → Int) (A_q : Nat → Nat → Int), V_q = rV c0 c1 G_q A_q T ∧ o = .inl none ∧ Wk G_q A_q ∧ Fr [3] [1, 2, 3, 4, 5] G A G_q A_q ∧ LT G_q A_q ∧ True) := by
    intro m
    induction m using Nat.strongRecOn with
    | ind m ih9 =>
      intro L Gx Ax fm num li1 hm gL_0 gL_1 gL_2 hWx hFx ex_li1 rx_fm rx_num iv_0 iv_1 iv_2 pp_LU
      have b_li1 : (0 : Int) ≤ li1 ∧ li1 ≤ 3000 := ex_li1 ▸ hWx.1 3
      have at_96 : ∀ (m : Nat) (L : jL) (Gx : Nat → Int) (Ax : Nat → Nat → Int) (to en fi : Int), (en - fi).toNat = m → jGet L 0 = some (.ref 66) → jGet L 1 = some (.int (i32 (fm))) → jGet L 2 = some (.int (i32 (num))) → jGet L 3 = some (.int (i32 to)) → jGet L 4 = some (.int (i32 en)) → jGet L 5 = some (.int (i32 fi)) → Wk Gx Ax → Fr [3] [1, 2, 3, 4, 5] G A Gx Ax → Gx 3 = li1 → ((-2147483648 : Int) ≤ to ∧ to ≤ 2147483647) → ((-2147483648 : Int) ≤ en ∧ en ≤ 2147483647) → ((-2147483648 : Int) ≤ fi ∧ fi ≤ 2147483647) → (fm ≤ to ∧ to ≤ sz) → (fm ≤ sz) → (en ≤ to) → (fm ≤ fi ∧ fi ≤ en) → LU Gx Ax fm → wj X d jm252 (96, L, [], rV c0 c1 Gx Ax T) (fun o V_q => ∃ (G_q : Nat → Int) (A_q : Nat → Nat → Int), V_q = rV c0 c1 G_q A_q T ∧ o = .inl none ∧ Wk G_q A_q ∧ Fr [3] [1, 2, 3, 4, 5] G A G_q A_q ∧ LT G_q A_q ∧ True) := by
        intro m
        induction m using Nat.strongRecOn with
        | ind m ih96 =>
          intro L Gx Ax to en fi hm gL_0 gL_1 gL_2 gL_3 gL_4 gL_5 hWx hFx fx_3 rx_to rx_en rx_fi iv_0 iv_1 iv_2 iv_3 pp_LU
          refine jx_ld (pc_q := 98) (l_q := L) (st_q := [.int (i32 (fi))]) rfl (jl_iload gL_5) ?_
          refine jx_ld (pc_q := 100) (l_q := L) (st_q := [.int (i32 (en)), .int (i32 (fi))]) rfl (jl_iload gL_4) ?_
          refine jx_icmp_ge (pc_q := 103) (tg := 121) rfl rfl rfl (Int.le_trans (by decide : (-2147483648 : Int) ≤ -2147483648) rx_fi.1) (Int.le_trans rx_fi.2 (by decide : (2147483647 : Int) ≤ 2147483647)) (Int.le_trans (by decide : (-2147483648 : Int) ≤ -2147483648) rx_en.1) (Int.le_trans rx_en.2 (by decide : (2147483647 : Int) ≤ 2147483647)) (fun h1 => ?_) (fun h1 => ?_)
          · have _q := h1
            refine jx_ld (pc_q := 123) (l_q := L) (st_q := [.int (i32 (fi))]) rfl (jl_iload gL_5) ?_
            refine jx_ld (pc_q := 125) (l_q := L) (st_q := [.int (i32 (en)), .int (i32 (fi))]) rfl (jl_iload gL_4) ?_
            refine jx_icmp_ge (pc_q := 128) (tg := 217) rfl rfl rfl (Int.le_trans (by decide : (-2147483648 : Int) ≤ -2147483648) rx_fi.1) (Int.le_trans rx_fi.2 (by decide : (2147483647 : Int) ≤ 2147483647)) (Int.le_trans (by decide : (-2147483648 : Int) ≤ -2147483648) rx_en.1) (Int.le_trans rx_en.2 (by decide : (2147483647 : Int) ≤ 2147483647)) (fun h2 => ?_) (fun h2 => ?_)
            · have _q := h2
              refine jx_inc (pc_q := 220) (l_q := jSto1 L 2 (.int (i32 ((num + (1)))))) (x := num) rfl gL_2 (by decide) rfl rfl ?_
              obtain ⟨L3, eL3⟩ : ∃ q, q = jSto1 L 2 (.int (i32 ((num + (1))))) := ⟨_, rfl⟩
              rw [← eL3]
              have gL3_0 : jGet L3 0 = some (.ref 66) := eL3 ▸ jg_ne (by decide) gL_0 rfl
              have gL3_1 : jGet L3 1 = some (.int (i32 (fm))) := eL3 ▸ jg_ne (by decide) gL_1 rfl
              have gL3_3 : jGet L3 3 = some (.int (i32 (to))) := eL3 ▸ jg_ne (by decide) gL_3 rfl
              have gL3_4 : jGet L3 4 = some (.int (i32 (en))) := eL3 ▸ jg_ne (by decide) gL_4 rfl
              have gL3_5 : jGet L3 5 = some (.int (i32 (fi))) := eL3 ▸ jg_ne (by decide) gL_5 rfl
              have gL3_2 : jGet L3 2 = some (.int (i32 ((num + (1))))) := eL3 ▸ jg_eq
              refine jx_ld (pc_q := 221) (l_q := L3) (st_q := [.int (i32 (to))]) rfl (jl_iloadn gL3_3) ?_
              refine jx_ar (pc_q := 222) (st_q := [.int (i32 (1)), .int (i32 (to))]) rfl rfl rfl rfl ?_
              refine jx_add (pc_q := 223) rfl rfl ?_
              refine jx_ld (pc_q := 224) (l_q := jSto1 L3 1 (.int (i32 ((to + 1))))) (st_q := []) rfl rfl ?_
              obtain ⟨L4, eL4⟩ : ∃ q, q = jSto1 L3 1 (.int (i32 ((to + 1)))) := ⟨_, rfl⟩
              rw [← eL4]
              have gL4_0 : jGet L4 0 = some (.ref 66) := eL4 ▸ jg_ne (by decide) gL3_0 rfl
              have gL4_3 : jGet L4 3 = some (.int (i32 (to))) := eL4 ▸ jg_ne (by decide) gL3_3 rfl
              have gL4_4 : jGet L4 4 = some (.int (i32 (en))) := eL4 ▸ jg_ne (by decide) gL3_4 rfl
              have gL4_5 : jGet L4 5 = some (.int (i32 (fi))) := eL4 ▸ jg_ne (by decide) gL3_5 rfl
              have gL4_2 : jGet L4 2 = some (.int (i32 ((num + (1))))) := eL4 ▸ jg_ne (by decide) gL3_2 rfl
              have gL4_1 : jGet L4 1 = some (.int (i32 ((to + 1)))) := eL4 ▸ jg_eq
              refine jx_go (tg := 9) rfl rfl ?_
              exact ih9 _ (by omega) L4 Gx Ax ((to + 1)) ((num + (1))) (li1) rfl gL4_0 gL4_1 gL4_2 hWx hFx ((fx_3)) (by omega) (by omega) (by omega) (by omega) (by omega) (LU_mono pp_LU (by omega))
            · have _q := h2
              refine jx_ld (pc_q := 129) (l_q := L) (st_q := [.ref 66]) rfl (jl_aloadn gL_0) ?_
              refine jr_get (pc_q := 132) (i := 4) (v := .ref 68) rfl rfl (by decide) rfl rfl ?_
              refine jx_ld (pc_q := 133) (l_q := L) (st_q := [.ref 66, .ref 68]) rfl (jl_aloadn gL_0) ?_
              refine jr_get (pc_q := 136) (i := 3) (v := .int (i32 (li1))) rfl rfl (by decide) (rFv_eq (by decide) (show Gx 3 = li1 from (fx_3))) rfl ?_
              refine jx_ld (pc_q := 137) (l_q := L) (st_q := [.int (i32 (num)), .int (i32 (li1)), .ref 68]) rfl (jl_iloadn gL_2) ?_
              refine jr_st (pc_q := 138) (i := 1) (m := 3001) (z := li1) (y := num) rfl (by decide) rfl (by decide) (by omega) (by omega) rfl ?_
              have hW6 : Wk Gx (uA Ax 1 (li1).toNat (num)) := Wk_a hWx (show (0 : Int) ≤ num by omega) (show num ≤ (3000 : Int) by omega)
              have hF7 := Fr_a (z := num) (k := 1) (n := (li1).toNat) hFx (by decide)
              obtain ⟨A5, eA5⟩ : ∃ q, q = uA Ax 1 (li1).toNat (num) := ⟨_, rfl⟩
              rw [← eA5]
              rw [← eA5] at hW6 hF7
              have q8 : A5 1 (li1).toNat = num := by rw [eA5]; exact uA_eq
              refine jx_ld (pc_q := 139) (l_q := L) (st_q := [.ref 66]) rfl (jl_aloadn gL_0) ?_
              refine jr_get (pc_q := 142) (i := 5) (v := .ref 69) rfl rfl (by decide) rfl rfl ?_
              refine jx_ld (pc_q := 143) (l_q := L) (st_q := [.ref 66, .ref 69]) rfl (jl_aloadn gL_0) ?_
              refine jr_get (pc_q := 146) (i := 3) (v := .int (i32 (li1))) rfl rfl (by decide) (rFv_eq (by decide) (show Gx 3 = li1 from (fx_3))) rfl ?_
              refine jx_ld (pc_q := 147) (l_q := L) (st_q := [.int (i32 (fm)), .int (i32 (li1)), .ref 69]) rfl (jl_iloadn gL_1) ?_
              refine jr_st (pc_q := 148) (i := 2) (m := 3001) (z := li1) (y := fm) rfl (by decide) rfl (by decide) (by omega) (by omega) rfl ?_
              have hW10 : Wk Gx (uA A5 2 (li1).toNat (fm)) := Wk_a hW6 (show (0 : Int) ≤ fm by omega) (show fm ≤ (3000 : Int) by omega)
              have hF11 := Fr_a (z := fm) (k := 2) (n := (li1).toNat) hF7 (by decide)
              obtain ⟨A9, eA9⟩ : ∃ q, q = uA A5 2 (li1).toNat (fm) := ⟨_, rfl⟩
              rw [← eA9]
              rw [← eA9] at hW10 hF11
              have q12 : A9 2 (li1).toNat = fm := by rw [eA9]; exact uA_eq
              refine jx_ld (pc_q := 149) (l_q := L) (st_q := [.ref 66]) rfl (jl_aloadn gL_0) ?_
              refine jr_get (pc_q := 152) (i := 6) (v := .ref 70) rfl rfl (by decide) rfl rfl ?_
              refine jx_ld (pc_q := 153) (l_q := L) (st_q := [.ref 66, .ref 70]) rfl (jl_aloadn gL_0) ?_
              refine jr_get (pc_q := 156) (i := 3) (v := .int (i32 (li1))) rfl rfl (by decide) (rFv_eq (by decide) (show Gx 3 = li1 from (fx_3))) rfl ?_
              refine jx_ld (pc_q := 158) (l_q := L) (st_q := [.int (i32 (fi)), .int (i32 (li1)), .ref 70]) rfl (jl_iload gL_5) ?_
              refine jr_st (pc_q := 159) (i := 3) (m := 3001) (z := li1) (y := fi) rfl (by decide) rfl (by decide) (by omega) (by omega) rfl ?_
              have hW14 : Wk Gx (uA A9 3 (li1).toNat (fi)) := Wk_a hW10 (show (0 : Int) ≤ fi by omega) (show fi ≤ (3000 : Int) by omega)
              have hF15 := Fr_a (z := fi) (k := 3) (n := (li1).toNat) hF11 (by decide)
              obtain ⟨A13, eA13⟩ : ∃ q, q = uA A9 3 (li1).toNat (fi) := ⟨_, rfl⟩
              rw [← eA13]
              rw [← eA13] at hW14 hF15
              have q16 : A13 3 (li1).toNat = fi := by rw [eA13]; exact uA_eq
              refine jx_ld (pc_q := 160) (l_q := L) (st_q := [.ref 66]) rfl (jl_aloadn gL_0) ?_
              refine jr_get (pc_q := 163) (i := 7) (v := .ref 71) rfl rfl (by decide) rfl rfl ?_
              refine jx_ld (pc_q := 164) (l_q := L) (st_q := [.ref 66, .ref 71]) rfl (jl_aloadn gL_0) ?_
              refine jr_get (pc_q := 167) (i := 3) (v := .int (i32 (li1))) rfl rfl (by decide) (rFv_eq (by decide) (show Gx 3 = li1 from (fx_3))) rfl ?_
              refine jx_ld (pc_q := 169) (l_q := L) (st_q := [.int (i32 (en)), .int (i32 (li1)), .ref 71]) rfl (jl_iload gL_4) ?_
              refine jr_st (pc_q := 170) (i := 4) (m := 3001) (z := li1) (y := en) rfl (by decide) rfl (by decide) (by omega) (by omega) rfl ?_
              have hW18 : Wk Gx (uA A13 4 (li1).toNat (en)) := Wk_a hW14 (show (0 : Int) ≤ en by omega) (show en ≤ (3000 : Int) by omega)
              have hF19 := Fr_a (z := en) (k := 4) (n := (li1).toNat) hF15 (by decide)
              obtain ⟨A17, eA17⟩ : ∃ q, q = uA A13 4 (li1).toNat (en) := ⟨_, rfl⟩
              rw [← eA17]
              rw [← eA17] at hW18 hF19
              have q20 : A17 4 (li1).toNat = en := by rw [eA17]; exact uA_eq
              refine jx_ld (pc_q := 171) (l_q := L) (st_q := [.ref 66]) rfl (jl_aloadn gL_0) ?_
              refine jr_get (pc_q := 174) (i := 8) (v := .ref 72) rfl rfl (by decide) rfl rfl ?_
              refine jx_ld (pc_q := 175) (l_q := L) (st_q := [.ref 66, .ref 72]) rfl (jl_aloadn gL_0) ?_
              refine jr_get (pc_q := 178) (i := 3) (v := .int (i32 (li1))) rfl rfl (by decide) (rFv_eq (by decide) (show Gx 3 = li1 from (fx_3))) rfl ?_
              refine jx_ld (pc_q := 180) (l_q := L) (st_q := [.int (i32 (fi)), .int (i32 (li1)), .ref 72]) rfl (jl_iload gL_5) ?_
              refine jx_ld (pc_q := 181) (l_q := L) (st_q := [.int (i32 (fm)), .int (i32 (fi)), .int (i32 (li1)), .ref 72]) rfl (jl_iloadn gL_1) ?_
              refine jx_sub (pc_q := 182) rfl rfl ?_
              refine jx_ar (pc_q := 183) (st_q := [.int (i32 (2)), .int (i32 ((fi - fm))), .int (i32 (li1)), .ref 72]) rfl rfl rfl rfl ?_
              refine jx_remw (pc_q := 184) rfl rfl (by omega) (by omega) (by omega) (fun r21 hr21 => ?_)
              refine jx_if_ne (pc_q := 187) (tg := 205) rfl rfl rfl (by omega) (by omega) (fun h22 => ?_) (fun h22 => ?_)
              · have _q := h22
                refine jx_ar (pc_q := 206) (st_q := [.int (i32 (-1)), .int (i32 (li1)), .ref 72]) rfl rfl rfl rfl ?_
                refine jr_st (pc_q := 207) (i := 5) (m := 3001) (z := li1) (y := -1) rfl (by decide) rfl (by decide) (by omega) (by omega) rfl ?_
                have hW24 : Wk Gx (uA A17 5 (li1).toNat (-1)) := Wk_a hW18 (show (-1 : Int) ≤ -1 by omega) (show -1 ≤ (15 : Int) by omega)
                have hF25 := Fr_a (z := -1) (k := 5) (n := (li1).toNat) hF19 (by decide)
                obtain ⟨A23, eA23⟩ : ∃ q, q = uA A17 5 (li1).toNat (-1) := ⟨_, rfl⟩
                rw [← eA23]
                rw [← eA23] at hW24 hF25
                have q26 : A23 5 (li1).toNat = -1 := by rw [eA23]; exact uA_eq
                refine jx_ld (pc_q := 208) (l_q := L) (st_q := [.ref 66]) rfl (jl_aloadn gL_0) ?_
                refine jx_ar (pc_q := 209) (st_q := [.ref 66, .ref 66]) rfl rfl rfl rfl ?_
                refine jr_get (pc_q := 212) (i := 3) (v := .int (i32 (li1))) rfl rfl (by decide) (rFv_eq (by decide) (show Gx 3 = li1 from (fx_3))) rfl ?_
                refine jx_ar (pc_q := 213) (st_q := [.int (i32 (1)), .int (i32 (li1)), .ref 66]) rfl rfl rfl rfl ?_
                refine jx_add (pc_q := 214) rfl rfl ?_
                refine jr_put (pc_q := 217) (i := 3) (z := (li1 + 1)) rfl rfl (by decide) rfl rfl rfl rfl rfl rfl ?_
                have hW27 : Wk (uG Gx 3 ((li1 + 1))) A23 := Wk_g hW24 (show (0 : Int) ≤ (li1 + 1) by omega) (show (li1 + 1) ≤ (3000 : Int) by omega)
                have hF28 := Fr_g (z := (li1 + 1)) (i := 3) hF25 (by decide)
                refine jx_inc (pc_q := 220) (l_q := jSto1 L 2 (.int (i32 ((num + (1)))))) (x := num) rfl gL_2 (by decide) rfl rfl ?_
                obtain ⟨L29, eL29⟩ : ∃ q, q = jSto1 L 2 (.int (i32 ((num + (1))))) := ⟨_, rfl⟩
                rw [← eL29]
                have gL29_0 : jGet L29 0 = some (.ref 66) := eL29 ▸ jg_ne (by decide) gL_0 rfl
                have gL29_1 : jGet L29 1 = some (.int (i32 (fm))) := eL29 ▸ jg_ne (by decide) gL_1 rfl
                have gL29_3 : jGet L29 3 = some (.int (i32 (to))) := eL29 ▸ jg_ne (by decide) gL_3 rfl
                have gL29_4 : jGet L29 4 = some (.int (i32 (en))) := eL29 ▸ jg_ne (by decide) gL_4 rfl
                have gL29_5 : jGet L29 5 = some (.int (i32 (fi))) := eL29 ▸ jg_ne (by decide) gL_5 rfl
                have gL29_2 : jGet L29 2 = some (.int (i32 ((num + (1))))) := eL29 ▸ jg_eq
                refine jx_ld (pc_q := 221) (l_q := L29) (st_q := [.int (i32 (to))]) rfl (jl_iloadn gL29_3) ?_
                refine jx_ar (pc_q := 222) (st_q := [.int (i32 (1)), .int (i32 (to))]) rfl rfl rfl rfl ?_
                refine jx_add (pc_q := 223) rfl rfl ?_
                refine jx_ld (pc_q := 224) (l_q := jSto1 L29 1 (.int (i32 ((to + 1))))) (st_q := []) rfl rfl ?_
                obtain ⟨L30, eL30⟩ : ∃ q, q = jSto1 L29 1 (.int (i32 ((to + 1)))) := ⟨_, rfl⟩
                rw [← eL30]
                have gL30_0 : jGet L30 0 = some (.ref 66) := eL30 ▸ jg_ne (by decide) gL29_0 rfl
                have gL30_3 : jGet L30 3 = some (.int (i32 (to))) := eL30 ▸ jg_ne (by decide) gL29_3 rfl
                have gL30_4 : jGet L30 4 = some (.int (i32 (en))) := eL30 ▸ jg_ne (by decide) gL29_4 rfl
                have gL30_5 : jGet L30 5 = some (.int (i32 (fi))) := eL30 ▸ jg_ne (by decide) gL29_5 rfl
                have gL30_2 : jGet L30 2 = some (.int (i32 ((num + (1))))) := eL30 ▸ jg_ne (by decide) gL29_2 rfl
                have gL30_1 : jGet L30 1 = some (.int (i32 ((to + 1)))) := eL30 ▸ jg_eq
                refine jx_go (tg := 9) rfl rfl ?_
                exact ih9 _ (by omega) L30 (uG Gx 3 ((li1 + 1))) A23 ((to + 1)) ((num + (1))) ((li1 + 1)) rfl gL30_0 gL30_1 gL30_2 hW27 hF28 (rfl) (by omega) (by omega) (by omega) (by omega) (by omega) (by rw [eA23, eA17, eA13, eA9, eA5]; exact LU_add pp_LU fx_3 (by omega) (by omega) (by omega) (by omega))
              · have _q := h22
                refine jx_ld (pc_q := 189) (l_q := L) (st_q := [.int (i32 (fi)), .int (i32 (li1)), .ref 72]) rfl (jl_iload gL_5) ?_
                refine jx_ld (pc_q := 190) (l_q := L) (st_q := [.int (i32 (fm)), .int (i32 (fi)), .int (i32 (li1)), .ref 72]) rfl (jl_iloadn gL_1) ?_
                refine jx_sub (pc_q := 191) rfl rfl ?_
                refine jx_ar (pc_q := 193) (st_q := [.int (i32 (32)), .int (i32 ((fi - fm))), .int (i32 (li1)), .ref 72]) rfl rfl rfl rfl ?_
                refine jx_icmp_ge (pc_q := 196) (tg := 205) rfl rfl rfl (by omega) (by omega) (by decide) (by decide) (fun h31 => ?_) (fun h31 => ?_)
                · have _q := h31
                  refine jx_ar (pc_q := 206) (st_q := [.int (i32 (-1)), .int (i32 (li1)), .ref 72]) rfl rfl rfl rfl ?_
                  refine jr_st (pc_q := 207) (i := 5) (m := 3001) (z := li1) (y := -1) rfl (by decide) rfl (by decide) (by omega) (by omega) rfl ?_
                  have hW33 : Wk Gx (uA A17 5 (li1).toNat (-1)) := Wk_a hW18 (show (-1 : Int) ≤ -1 by omega) (show -1 ≤ (15 : Int) by omega)
                  have hF34 := Fr_a (z := -1) (k := 5) (n := (li1).toNat) hF19 (by decide)
                  obtain ⟨A32, eA32⟩ : ∃ q, q = uA A17 5 (li1).toNat (-1) := ⟨_, rfl⟩
                  rw [← eA32]
                  rw [← eA32] at hW33 hF34
                  have q35 : A32 5 (li1).toNat = -1 := by rw [eA32]; exact uA_eq
                  refine jx_ld (pc_q := 208) (l_q := L) (st_q := [.ref 66]) rfl (jl_aloadn gL_0) ?_
                  refine jx_ar (pc_q := 209) (st_q := [.ref 66, .ref 66]) rfl rfl rfl rfl ?_
                  refine jr_get (pc_q := 212) (i := 3) (v := .int (i32 (li1))) rfl rfl (by decide) (rFv_eq (by decide) (show Gx 3 = li1 from (fx_3))) rfl ?_
                  refine jx_ar (pc_q := 213) (st_q := [.int (i32 (1)), .int (i32 (li1)), .ref 66]) rfl rfl rfl rfl ?_
                  refine jx_add (pc_q := 214) rfl rfl ?_
                  refine jr_put (pc_q := 217) (i := 3) (z := (li1 + 1)) rfl rfl (by decide) rfl rfl rfl rfl rfl rfl ?_
                  have hW36 : Wk (uG Gx 3 ((li1 + 1))) A32 := Wk_g hW33 (show (0 : Int) ≤ (li1 + 1) by omega) (show (li1 + 1) ≤ (3000 : Int) by omega)
                  have hF37 := Fr_g (z := (li1 + 1)) (i := 3) hF34 (by decide)
                  refine jx_inc (pc_q := 220) (l_q := jSto1 L 2 (.int (i32 ((num + (1)))))) (x := num) rfl gL_2 (by decide) rfl rfl ?_
                  obtain ⟨L38, eL38⟩ : ∃ q, q = jSto1 L 2 (.int (i32 ((num + (1))))) := ⟨_, rfl⟩
                  rw [← eL38]
                  have gL38_0 : jGet L38 0 = some (.ref 66) := eL38 ▸ jg_ne (by decide) gL_0 rfl
                  have gL38_1 : jGet L38 1 = some (.int (i32 (fm))) := eL38 ▸ jg_ne (by decide) gL_1 rfl
                  have gL38_3 : jGet L38 3 = some (.int (i32 (to))) := eL38 ▸ jg_ne (by decide) gL_3 rfl
                  have gL38_4 : jGet L38 4 = some (.int (i32 (en))) := eL38 ▸ jg_ne (by decide) gL_4 rfl
                  have gL38_5 : jGet L38 5 = some (.int (i32 (fi))) := eL38 ▸ jg_ne (by decide) gL_5 rfl
                  have gL38_2 : jGet L38 2 = some (.int (i32 ((num + (1))))) := eL38 ▸ jg_eq
                  refine jx_ld (pc_q := 221) (l_q := L38) (st_q := [.int (i32 (to))]) rfl (jl_iloadn gL38_3) ?_
                  refine jx_ar (pc_q := 222) (st_q := [.int (i32 (1)), .int (i32 (to))]) rfl rfl rfl rfl ?_
                  refine jx_add (pc_q := 223) rfl rfl ?_
                  refine jx_ld (pc_q := 224) (l_q := jSto1 L38 1 (.int (i32 ((to + 1))))) (st_q := []) rfl rfl ?_
                  obtain ⟨L39, eL39⟩ : ∃ q, q = jSto1 L38 1 (.int (i32 ((to + 1)))) := ⟨_, rfl⟩
                  rw [← eL39]
                  have gL39_0 : jGet L39 0 = some (.ref 66) := eL39 ▸ jg_ne (by decide) gL38_0 rfl
                  have gL39_3 : jGet L39 3 = some (.int (i32 (to))) := eL39 ▸ jg_ne (by decide) gL38_3 rfl
                  have gL39_4 : jGet L39 4 = some (.int (i32 (en))) := eL39 ▸ jg_ne (by decide) gL38_4 rfl
                  have gL39_5 : jGet L39 5 = some (.int (i32 (fi))) := eL39 ▸ jg_ne (by decide) gL38_5 rfl
                  have gL39_2 : jGet L39 2 = some (.int (i32 ((num + (1))))) := eL39 ▸ jg_ne (by decide) gL38_2 rfl
                  have gL39_1 : jGet L39 1 = some (.int (i32 ((to + 1)))) := eL39 ▸ jg_eq
                  refine jx_go (tg := 9) rfl rfl ?_
                  exact ih9 _ (by omega) L39 (uG Gx 3 ((li1 + 1))) A32 ((to + 1)) ((num + (1))) ((li1 + 1)) rfl gL39_0 gL39_1 gL39_2 hW36 hF37 (rfl) (by omega) (by omega) (by omega) (by omega) (by omega) (by rw [eA32, eA17, eA13, eA9, eA5]; exact LU_add pp_LU fx_3 (by omega) (by omega) (by omega) (by omega))
                · have _q := h31
                  refine jx_ld (pc_q := 198) (l_q := L) (st_q := [.int (i32 (fi)), .int (i32 (li1)), .ref 72]) rfl (jl_iload gL_5) ?_
                  refine jx_ld (pc_q := 199) (l_q := L) (st_q := [.int (i32 (fm)), .int (i32 (fi)), .int (i32 (li1)), .ref 72]) rfl (jl_iloadn gL_1) ?_
                  refine jx_sub (pc_q := 200) rfl rfl ?_
                  refine jx_ar (pc_q := 201) (st_q := [.int (i32 (2)), .int (i32 ((fi - fm))), .int (i32 (li1)), .ref 72]) rfl rfl rfl rfl ?_
                  refine jx_div (pc_q := 202) rfl rfl (by omega) (by omega) (by omega) (by omega) ?_
                  refine jx_go (tg := 206) rfl rfl ?_
                  refine jr_st (pc_q := 207) (i := 5) (m := 3001) (z := li1) (y := ((fi - fm) / 2)) rfl (by decide) rfl (by decide) (by omega) (by omega) rfl ?_
                  have hW41 : Wk Gx (uA A17 5 (li1).toNat (((fi - fm) / 2))) := Wk_a hW18 (show (-1 : Int) ≤ ((fi - fm) / 2) by omega) (show ((fi - fm) / 2) ≤ (15 : Int) by omega)
                  have hF42 := Fr_a (z := ((fi - fm) / 2)) (k := 5) (n := (li1).toNat) hF19 (by decide)
                  obtain ⟨A40, eA40⟩ : ∃ q, q = uA A17 5 (li1).toNat (((fi - fm) / 2)) := ⟨_, rfl⟩
                  rw [← eA40]
                  rw [← eA40] at hW41 hF42
                  have q43 : A40 5 (li1).toNat = ((fi - fm) / 2) := by rw [eA40]; exact uA_eq
                  refine jx_ld (pc_q := 208) (l_q := L) (st_q := [.ref 66]) rfl (jl_aloadn gL_0) ?_
                  refine jx_ar (pc_q := 209) (st_q := [.ref 66, .ref 66]) rfl rfl rfl rfl ?_
                  refine jr_get (pc_q := 212) (i := 3) (v := .int (i32 (li1))) rfl rfl (by decide) (rFv_eq (by decide) (show Gx 3 = li1 from (fx_3))) rfl ?_
                  refine jx_ar (pc_q := 213) (st_q := [.int (i32 (1)), .int (i32 (li1)), .ref 66]) rfl rfl rfl rfl ?_
                  refine jx_add (pc_q := 214) rfl rfl ?_
                  refine jr_put (pc_q := 217) (i := 3) (z := (li1 + 1)) rfl rfl (by decide) rfl rfl rfl rfl rfl rfl ?_
                  have hW44 : Wk (uG Gx 3 ((li1 + 1))) A40 := Wk_g hW41 (show (0 : Int) ≤ (li1 + 1) by omega) (show (li1 + 1) ≤ (3000 : Int) by omega)
                  have hF45 := Fr_g (z := (li1 + 1)) (i := 3) hF42 (by decide)
                  refine jx_inc (pc_q := 220) (l_q := jSto1 L 2 (.int (i32 ((num + (1)))))) (x := num) rfl gL_2 (by decide) rfl rfl ?_
                  obtain ⟨L46, eL46⟩ : ∃ q, q = jSto1 L 2 (.int (i32 ((num + (1))))) := ⟨_, rfl⟩
                  rw [← eL46]
                  have gL46_0 : jGet L46 0 = some (.ref 66) := eL46 ▸ jg_ne (by decide) gL_0 rfl
                  have gL46_1 : jGet L46 1 = some (.int (i32 (fm))) := eL46 ▸ jg_ne (by decide) gL_1 rfl
                  have gL46_3 : jGet L46 3 = some (.int (i32 (to))) := eL46 ▸ jg_ne (by decide) gL_3 rfl
                  have gL46_4 : jGet L46 4 = some (.int (i32 (en))) := eL46 ▸ jg_ne (by decide) gL_4 rfl
                  have gL46_5 : jGet L46 5 = some (.int (i32 (fi))) := eL46 ▸ jg_ne (by decide) gL_5 rfl
                  have gL46_2 : jGet L46 2 = some (.int (i32 ((num + (1))))) := eL46 ▸ jg_eq
                  refine jx_ld (pc_q := 221) (l_q := L46) (st_q := [.int (i32 (to))]) rfl (jl_iloadn gL46_3) ?_
                  refine jx_ar (pc_q := 222) (st_q := [.int (i32 (1)), .int (i32 (to))]) rfl rfl rfl rfl ?_
                  refine jx_add (pc_q := 223) rfl rfl ?_
                  refine jx_ld (pc_q := 224) (l_q := jSto1 L46 1 (.int (i32 ((to + 1))))) (st_q := []) rfl rfl ?_
                  obtain ⟨L47, eL47⟩ : ∃ q, q = jSto1 L46 1 (.int (i32 ((to + 1)))) := ⟨_, rfl⟩
                  rw [← eL47]
                  have gL47_0 : jGet L47 0 = some (.ref 66) := eL47 ▸ jg_ne (by decide) gL46_0 rfl
                  have gL47_3 : jGet L47 3 = some (.int (i32 (to))) := eL47 ▸ jg_ne (by decide) gL46_3 rfl
                  have gL47_4 : jGet L47 4 = some (.int (i32 (en))) := eL47 ▸ jg_ne (by decide) gL46_4 rfl
                  have gL47_5 : jGet L47 5 = some (.int (i32 (fi))) := eL47 ▸ jg_ne (by decide) gL46_5 rfl
                  have gL47_2 : jGet L47 2 = some (.int (i32 ((num + (1))))) := eL47 ▸ jg_ne (by decide) gL46_2 rfl
                  have gL47_1 : jGet L47 1 = some (.int (i32 ((to + 1)))) := eL47 ▸ jg_eq
                  refine jx_go (tg := 9) rfl rfl ?_
                  exact ih9 _ (by omega) L47 (uG Gx 3 ((li1 + 1))) A40 ((to + 1)) ((num + (1))) ((li1 + 1)) rfl gL47_0 gL47_1 gL47_2 hW44 hF45 (rfl) (by omega) (by omega) (by omega) (by omega) (by omega) (by rw [eA40, eA17, eA13, eA9, eA5]; exact LU_add pp_LU fx_3 (by omega) (by omega) (by omega) (by omega))
          · have _q := h1
            refine jx_ld (pc_q := 104) (l_q := L) (st_q := [.ref 66]) rfl (jl_aloadn gL_0) ?_
            refine jr_get (pc_q := 107) (i := 1) (v := .ref 67) rfl rfl (by decide) rfl rfl ?_
            refine jx_ld (pc_q := 109) (l_q := L) (st_q := [.int (i32 (fi)), .ref 67]) rfl (jl_iload gL_5) ?_
            have b48 : (0 : Int) ≤ A 0 (fi).toNat ∧ A 0 (fi).toNat ≤ 126 := hW.2 0 _
            refine jr_ldv (pc_q := 110) (i := 0) (m := 3000) (z := fi) (y := A 0 (fi).toNat) rfl (by decide) rfl (by decide) (by omega) (by omega) rfl (show Ax 0 (fi).toNat = A 0 (fi).toNat from (congrFun (hFx.2 0 rfl) _)) ?_
            refine jx_ar (pc_q := 112) (st_q := [.int (i32 (32)), .int (i32 (A 0 (fi).toNat))]) rfl rfl rfl rfl ?_
            refine jx_icmp_ne (pc_q := 115) (tg := 121) rfl rfl rfl (Int.le_trans (by decide : (-2147483648 : Int) ≤ 0) b48.1) (Int.le_trans b48.2 (by decide : (126 : Int) ≤ 2147483647)) (by decide) (by decide) (fun h49 => ?_) (fun h49 => ?_)
            · have _q := h49
              refine jx_ld (pc_q := 123) (l_q := L) (st_q := [.int (i32 (fi))]) rfl (jl_iload gL_5) ?_
              refine jx_ld (pc_q := 125) (l_q := L) (st_q := [.int (i32 (en)), .int (i32 (fi))]) rfl (jl_iload gL_4) ?_
              refine jx_icmp_ge (pc_q := 128) (tg := 217) rfl rfl rfl (Int.le_trans (by decide : (-2147483648 : Int) ≤ -2147483648) rx_fi.1) (Int.le_trans rx_fi.2 (by decide : (2147483647 : Int) ≤ 2147483647)) (Int.le_trans (by decide : (-2147483648 : Int) ≤ -2147483648) rx_en.1) (Int.le_trans rx_en.2 (by decide : (2147483647 : Int) ≤ 2147483647)) (fun h50 => ?_) (fun h50 => ?_)
              · have _q := h50
                refine jx_inc (pc_q := 220) (l_q := jSto1 L 2 (.int (i32 ((num + (1)))))) (x := num) rfl gL_2 (by decide) rfl rfl ?_
                obtain ⟨L51, eL51⟩ : ∃ q, q = jSto1 L 2 (.int (i32 ((num + (1))))) := ⟨_, rfl⟩
                rw [← eL51]
                have gL51_0 : jGet L51 0 = some (.ref 66) := eL51 ▸ jg_ne (by decide) gL_0 rfl
                have gL51_1 : jGet L51 1 = some (.int (i32 (fm))) := eL51 ▸ jg_ne (by decide) gL_1 rfl
                have gL51_3 : jGet L51 3 = some (.int (i32 (to))) := eL51 ▸ jg_ne (by decide) gL_3 rfl
                have gL51_4 : jGet L51 4 = some (.int (i32 (en))) := eL51 ▸ jg_ne (by decide) gL_4 rfl
                have gL51_5 : jGet L51 5 = some (.int (i32 (fi))) := eL51 ▸ jg_ne (by decide) gL_5 rfl
                have gL51_2 : jGet L51 2 = some (.int (i32 ((num + (1))))) := eL51 ▸ jg_eq
                refine jx_ld (pc_q := 221) (l_q := L51) (st_q := [.int (i32 (to))]) rfl (jl_iloadn gL51_3) ?_
                refine jx_ar (pc_q := 222) (st_q := [.int (i32 (1)), .int (i32 (to))]) rfl rfl rfl rfl ?_
                refine jx_add (pc_q := 223) rfl rfl ?_
                refine jx_ld (pc_q := 224) (l_q := jSto1 L51 1 (.int (i32 ((to + 1))))) (st_q := []) rfl rfl ?_
                obtain ⟨L52, eL52⟩ : ∃ q, q = jSto1 L51 1 (.int (i32 ((to + 1)))) := ⟨_, rfl⟩
                rw [← eL52]
                have gL52_0 : jGet L52 0 = some (.ref 66) := eL52 ▸ jg_ne (by decide) gL51_0 rfl
                have gL52_3 : jGet L52 3 = some (.int (i32 (to))) := eL52 ▸ jg_ne (by decide) gL51_3 rfl
                have gL52_4 : jGet L52 4 = some (.int (i32 (en))) := eL52 ▸ jg_ne (by decide) gL51_4 rfl
                have gL52_5 : jGet L52 5 = some (.int (i32 (fi))) := eL52 ▸ jg_ne (by decide) gL51_5 rfl
                have gL52_2 : jGet L52 2 = some (.int (i32 ((num + (1))))) := eL52 ▸ jg_ne (by decide) gL51_2 rfl
                have gL52_1 : jGet L52 1 = some (.int (i32 ((to + 1)))) := eL52 ▸ jg_eq
                refine jx_go (tg := 9) rfl rfl ?_
                exact ih9 _ (by omega) L52 Gx Ax ((to + 1)) ((num + (1))) (li1) rfl gL52_0 gL52_1 gL52_2 hWx hFx ((fx_3)) (by omega) (by omega) (by omega) (by omega) (by omega) (LU_mono pp_LU (by omega))
              · have _q := h50
                refine jx_ld (pc_q := 129) (l_q := L) (st_q := [.ref 66]) rfl (jl_aloadn gL_0) ?_
                refine jr_get (pc_q := 132) (i := 4) (v := .ref 68) rfl rfl (by decide) rfl rfl ?_
                refine jx_ld (pc_q := 133) (l_q := L) (st_q := [.ref 66, .ref 68]) rfl (jl_aloadn gL_0) ?_
                refine jr_get (pc_q := 136) (i := 3) (v := .int (i32 (li1))) rfl rfl (by decide) (rFv_eq (by decide) (show Gx 3 = li1 from (fx_3))) rfl ?_
                refine jx_ld (pc_q := 137) (l_q := L) (st_q := [.int (i32 (num)), .int (i32 (li1)), .ref 68]) rfl (jl_iloadn gL_2) ?_
                refine jr_st (pc_q := 138) (i := 1) (m := 3001) (z := li1) (y := num) rfl (by decide) rfl (by decide) (by omega) (by omega) rfl ?_
                have hW54 : Wk Gx (uA Ax 1 (li1).toNat (num)) := Wk_a hWx (show (0 : Int) ≤ num by omega) (show num ≤ (3000 : Int) by omega)
                have hF55 := Fr_a (z := num) (k := 1) (n := (li1).toNat) hFx (by decide)
                obtain ⟨A53, eA53⟩ : ∃ q, q = uA Ax 1 (li1).toNat (num) := ⟨_, rfl⟩
                rw [← eA53]
                rw [← eA53] at hW54 hF55
                have q56 : A53 1 (li1).toNat = num := by rw [eA53]; exact uA_eq
                refine jx_ld (pc_q := 139) (l_q := L) (st_q := [.ref 66]) rfl (jl_aloadn gL_0) ?_
                refine jr_get (pc_q := 142) (i := 5) (v := .ref 69) rfl rfl (by decide) rfl rfl ?_
                refine jx_ld (pc_q := 143) (l_q := L) (st_q := [.ref 66, .ref 69]) rfl (jl_aloadn gL_0) ?_
                refine jr_get (pc_q := 146) (i := 3) (v := .int (i32 (li1))) rfl rfl (by decide) (rFv_eq (by decide) (show Gx 3 = li1 from (fx_3))) rfl ?_
                refine jx_ld (pc_q := 147) (l_q := L) (st_q := [.int (i32 (fm)), .int (i32 (li1)), .ref 69]) rfl (jl_iloadn gL_1) ?_
                refine jr_st (pc_q := 148) (i := 2) (m := 3001) (z := li1) (y := fm) rfl (by decide) rfl (by decide) (by omega) (by omega) rfl ?_
                have hW58 : Wk Gx (uA A53 2 (li1).toNat (fm)) := Wk_a hW54 (show (0 : Int) ≤ fm by omega) (show fm ≤ (3000 : Int) by omega)
                have hF59 := Fr_a (z := fm) (k := 2) (n := (li1).toNat) hF55 (by decide)
                obtain ⟨A57, eA57⟩ : ∃ q, q = uA A53 2 (li1).toNat (fm) := ⟨_, rfl⟩
                rw [← eA57]
                rw [← eA57] at hW58 hF59
                have q60 : A57 2 (li1).toNat = fm := by rw [eA57]; exact uA_eq
                refine jx_ld (pc_q := 149) (l_q := L) (st_q := [.ref 66]) rfl (jl_aloadn gL_0) ?_
                refine jr_get (pc_q := 152) (i := 6) (v := .ref 70) rfl rfl (by decide) rfl rfl ?_
                refine jx_ld (pc_q := 153) (l_q := L) (st_q := [.ref 66, .ref 70]) rfl (jl_aloadn gL_0) ?_
                refine jr_get (pc_q := 156) (i := 3) (v := .int (i32 (li1))) rfl rfl (by decide) (rFv_eq (by decide) (show Gx 3 = li1 from (fx_3))) rfl ?_
                refine jx_ld (pc_q := 158) (l_q := L) (st_q := [.int (i32 (fi)), .int (i32 (li1)), .ref 70]) rfl (jl_iload gL_5) ?_
                refine jr_st (pc_q := 159) (i := 3) (m := 3001) (z := li1) (y := fi) rfl (by decide) rfl (by decide) (by omega) (by omega) rfl ?_
                have hW62 : Wk Gx (uA A57 3 (li1).toNat (fi)) := Wk_a hW58 (show (0 : Int) ≤ fi by omega) (show fi ≤ (3000 : Int) by omega)
                have hF63 := Fr_a (z := fi) (k := 3) (n := (li1).toNat) hF59 (by decide)
                obtain ⟨A61, eA61⟩ : ∃ q, q = uA A57 3 (li1).toNat (fi) := ⟨_, rfl⟩
                rw [← eA61]
                rw [← eA61] at hW62 hF63
                have q64 : A61 3 (li1).toNat = fi := by rw [eA61]; exact uA_eq
                refine jx_ld (pc_q := 160) (l_q := L) (st_q := [.ref 66]) rfl (jl_aloadn gL_0) ?_
                refine jr_get (pc_q := 163) (i := 7) (v := .ref 71) rfl rfl (by decide) rfl rfl ?_
                refine jx_ld (pc_q := 164) (l_q := L) (st_q := [.ref 66, .ref 71]) rfl (jl_aloadn gL_0) ?_
                refine jr_get (pc_q := 167) (i := 3) (v := .int (i32 (li1))) rfl rfl (by decide) (rFv_eq (by decide) (show Gx 3 = li1 from (fx_3))) rfl ?_
                refine jx_ld (pc_q := 169) (l_q := L) (st_q := [.int (i32 (en)), .int (i32 (li1)), .ref 71]) rfl (jl_iload gL_4) ?_
                refine jr_st (pc_q := 170) (i := 4) (m := 3001) (z := li1) (y := en) rfl (by decide) rfl (by decide) (by omega) (by omega) rfl ?_
                have hW66 : Wk Gx (uA A61 4 (li1).toNat (en)) := Wk_a hW62 (show (0 : Int) ≤ en by omega) (show en ≤ (3000 : Int) by omega)
                have hF67 := Fr_a (z := en) (k := 4) (n := (li1).toNat) hF63 (by decide)
                obtain ⟨A65, eA65⟩ : ∃ q, q = uA A61 4 (li1).toNat (en) := ⟨_, rfl⟩
                rw [← eA65]
                rw [← eA65] at hW66 hF67
                have q68 : A65 4 (li1).toNat = en := by rw [eA65]; exact uA_eq
                refine jx_ld (pc_q := 171) (l_q := L) (st_q := [.ref 66]) rfl (jl_aloadn gL_0) ?_
                refine jr_get (pc_q := 174) (i := 8) (v := .ref 72) rfl rfl (by decide) rfl rfl ?_
                refine jx_ld (pc_q := 175) (l_q := L) (st_q := [.ref 66, .ref 72]) rfl (jl_aloadn gL_0) ?_
                refine jr_get (pc_q := 178) (i := 3) (v := .int (i32 (li1))) rfl rfl (by decide) (rFv_eq (by decide) (show Gx 3 = li1 from (fx_3))) rfl ?_
                refine jx_ld (pc_q := 180) (l_q := L) (st_q := [.int (i32 (fi)), .int (i32 (li1)), .ref 72]) rfl (jl_iload gL_5) ?_
                refine jx_ld (pc_q := 181) (l_q := L) (st_q := [.int (i32 (fm)), .int (i32 (fi)), .int (i32 (li1)), .ref 72]) rfl (jl_iloadn gL_1) ?_
                refine jx_sub (pc_q := 182) rfl rfl ?_
                refine jx_ar (pc_q := 183) (st_q := [.int (i32 (2)), .int (i32 ((fi - fm))), .int (i32 (li1)), .ref 72]) rfl rfl rfl rfl ?_
                refine jx_remw (pc_q := 184) rfl rfl (by omega) (by omega) (by omega) (fun r69 hr69 => ?_)
                refine jx_if_ne (pc_q := 187) (tg := 205) rfl rfl rfl (by omega) (by omega) (fun h70 => ?_) (fun h70 => ?_)
                · have _q := h70
                  refine jx_ar (pc_q := 206) (st_q := [.int (i32 (-1)), .int (i32 (li1)), .ref 72]) rfl rfl rfl rfl ?_
                  refine jr_st (pc_q := 207) (i := 5) (m := 3001) (z := li1) (y := -1) rfl (by decide) rfl (by decide) (by omega) (by omega) rfl ?_
                  have hW72 : Wk Gx (uA A65 5 (li1).toNat (-1)) := Wk_a hW66 (show (-1 : Int) ≤ -1 by omega) (show -1 ≤ (15 : Int) by omega)
                  have hF73 := Fr_a (z := -1) (k := 5) (n := (li1).toNat) hF67 (by decide)
                  obtain ⟨A71, eA71⟩ : ∃ q, q = uA A65 5 (li1).toNat (-1) := ⟨_, rfl⟩
                  rw [← eA71]
                  rw [← eA71] at hW72 hF73
                  have q74 : A71 5 (li1).toNat = -1 := by rw [eA71]; exact uA_eq
                  refine jx_ld (pc_q := 208) (l_q := L) (st_q := [.ref 66]) rfl (jl_aloadn gL_0) ?_
                  refine jx_ar (pc_q := 209) (st_q := [.ref 66, .ref 66]) rfl rfl rfl rfl ?_
                  refine jr_get (pc_q := 212) (i := 3) (v := .int (i32 (li1))) rfl rfl (by decide) (rFv_eq (by decide) (show Gx 3 = li1 from (fx_3))) rfl ?_
                  refine jx_ar (pc_q := 213) (st_q := [.int (i32 (1)), .int (i32 (li1)), .ref 66]) rfl rfl rfl rfl ?_
                  refine jx_add (pc_q := 214) rfl rfl ?_
                  refine jr_put (pc_q := 217) (i := 3) (z := (li1 + 1)) rfl rfl (by decide) rfl rfl rfl rfl rfl rfl ?_
                  have hW75 : Wk (uG Gx 3 ((li1 + 1))) A71 := Wk_g hW72 (show (0 : Int) ≤ (li1 + 1) by omega) (show (li1 + 1) ≤ (3000 : Int) by omega)
                  have hF76 := Fr_g (z := (li1 + 1)) (i := 3) hF73 (by decide)
                  refine jx_inc (pc_q := 220) (l_q := jSto1 L 2 (.int (i32 ((num + (1)))))) (x := num) rfl gL_2 (by decide) rfl rfl ?_
                  obtain ⟨L77, eL77⟩ : ∃ q, q = jSto1 L 2 (.int (i32 ((num + (1))))) := ⟨_, rfl⟩
                  rw [← eL77]
                  have gL77_0 : jGet L77 0 = some (.ref 66) := eL77 ▸ jg_ne (by decide) gL_0 rfl
                  have gL77_1 : jGet L77 1 = some (.int (i32 (fm))) := eL77 ▸ jg_ne (by decide) gL_1 rfl
                  have gL77_3 : jGet L77 3 = some (.int (i32 (to))) := eL77 ▸ jg_ne (by decide) gL_3 rfl
                  have gL77_4 : jGet L77 4 = some (.int (i32 (en))) := eL77 ▸ jg_ne (by decide) gL_4 rfl
                  have gL77_5 : jGet L77 5 = some (.int (i32 (fi))) := eL77 ▸ jg_ne (by decide) gL_5 rfl
                  have gL77_2 : jGet L77 2 = some (.int (i32 ((num + (1))))) := eL77 ▸ jg_eq
                  refine jx_ld (pc_q := 221) (l_q := L77) (st_q := [.int (i32 (to))]) rfl (jl_iloadn gL77_3) ?_
                  refine jx_ar (pc_q := 222) (st_q := [.int (i32 (1)), .int (i32 (to))]) rfl rfl rfl rfl ?_
                  refine jx_add (pc_q := 223) rfl rfl ?_
                  refine jx_ld (pc_q := 224) (l_q := jSto1 L77 1 (.int (i32 ((to + 1))))) (st_q := []) rfl rfl ?_
                  obtain ⟨L78, eL78⟩ : ∃ q, q = jSto1 L77 1 (.int (i32 ((to + 1)))) := ⟨_, rfl⟩
                  rw [← eL78]
                  have gL78_0 : jGet L78 0 = some (.ref 66) := eL78 ▸ jg_ne (by decide) gL77_0 rfl
                  have gL78_3 : jGet L78 3 = some (.int (i32 (to))) := eL78 ▸ jg_ne (by decide) gL77_3 rfl
                  have gL78_4 : jGet L78 4 = some (.int (i32 (en))) := eL78 ▸ jg_ne (by decide) gL77_4 rfl
                  have gL78_5 : jGet L78 5 = some (.int (i32 (fi))) := eL78 ▸ jg_ne (by decide) gL77_5 rfl
                  have gL78_2 : jGet L78 2 = some (.int (i32 ((num + (1))))) := eL78 ▸ jg_ne (by decide) gL77_2 rfl
                  have gL78_1 : jGet L78 1 = some (.int (i32 ((to + 1)))) := eL78 ▸ jg_eq
                  refine jx_go (tg := 9) rfl rfl ?_
                  exact ih9 _ (by omega) L78 (uG Gx 3 ((li1 + 1))) A71 ((to + 1)) ((num + (1))) ((li1 + 1)) rfl gL78_0 gL78_1 gL78_2 hW75 hF76 (rfl) (by omega) (by omega) (by omega) (by omega) (by omega) (by rw [eA71, eA65, eA61, eA57, eA53]; exact LU_add pp_LU fx_3 (by omega) (by omega) (by omega) (by omega))
                · have _q := h70
                  refine jx_ld (pc_q := 189) (l_q := L) (st_q := [.int (i32 (fi)), .int (i32 (li1)), .ref 72]) rfl (jl_iload gL_5) ?_
                  refine jx_ld (pc_q := 190) (l_q := L) (st_q := [.int (i32 (fm)), .int (i32 (fi)), .int (i32 (li1)), .ref 72]) rfl (jl_iloadn gL_1) ?_
                  refine jx_sub (pc_q := 191) rfl rfl ?_
                  refine jx_ar (pc_q := 193) (st_q := [.int (i32 (32)), .int (i32 ((fi - fm))), .int (i32 (li1)), .ref 72]) rfl rfl rfl rfl ?_
                  refine jx_icmp_ge (pc_q := 196) (tg := 205) rfl rfl rfl (by omega) (by omega) (by decide) (by decide) (fun h79 => ?_) (fun h79 => ?_)
                  · have _q := h79
                    refine jx_ar (pc_q := 206) (st_q := [.int (i32 (-1)), .int (i32 (li1)), .ref 72]) rfl rfl rfl rfl ?_
                    refine jr_st (pc_q := 207) (i := 5) (m := 3001) (z := li1) (y := -1) rfl (by decide) rfl (by decide) (by omega) (by omega) rfl ?_
                    have hW81 : Wk Gx (uA A65 5 (li1).toNat (-1)) := Wk_a hW66 (show (-1 : Int) ≤ -1 by omega) (show -1 ≤ (15 : Int) by omega)
                    have hF82 := Fr_a (z := -1) (k := 5) (n := (li1).toNat) hF67 (by decide)
                    obtain ⟨A80, eA80⟩ : ∃ q, q = uA A65 5 (li1).toNat (-1) := ⟨_, rfl⟩
                    rw [← eA80]
                    rw [← eA80] at hW81 hF82
                    have q83 : A80 5 (li1).toNat = -1 := by rw [eA80]; exact uA_eq
                    refine jx_ld (pc_q := 208) (l_q := L) (st_q := [.ref 66]) rfl (jl_aloadn gL_0) ?_
                    refine jx_ar (pc_q := 209) (st_q := [.ref 66, .ref 66]) rfl rfl rfl rfl ?_
                    refine jr_get (pc_q := 212) (i := 3) (v := .int (i32 (li1))) rfl rfl (by decide) (rFv_eq (by decide) (show Gx 3 = li1 from (fx_3))) rfl ?_
                    refine jx_ar (pc_q := 213) (st_q := [.int (i32 (1)), .int (i32 (li1)), .ref 66]) rfl rfl rfl rfl ?_
                    refine jx_add (pc_q := 214) rfl rfl ?_
                    refine jr_put (pc_q := 217) (i := 3) (z := (li1 + 1)) rfl rfl (by decide) rfl rfl rfl rfl rfl rfl ?_
                    have hW84 : Wk (uG Gx 3 ((li1 + 1))) A80 := Wk_g hW81 (show (0 : Int) ≤ (li1 + 1) by omega) (show (li1 + 1) ≤ (3000 : Int) by omega)
                    have hF85 := Fr_g (z := (li1 + 1)) (i := 3) hF82 (by decide)
                    refine jx_inc (pc_q := 220) (l_q := jSto1 L 2 (.int (i32 ((num + (1)))))) (x := num) rfl gL_2 (by decide) rfl rfl ?_
                    obtain ⟨L86, eL86⟩ : ∃ q, q = jSto1 L 2 (.int (i32 ((num + (1))))) := ⟨_, rfl⟩
                    rw [← eL86]
                    have gL86_0 : jGet L86 0 = some (.ref 66) := eL86 ▸ jg_ne (by decide) gL_0 rfl
                    have gL86_1 : jGet L86 1 = some (.int (i32 (fm))) := eL86 ▸ jg_ne (by decide) gL_1 rfl
                    have gL86_3 : jGet L86 3 = some (.int (i32 (to))) := eL86 ▸ jg_ne (by decide) gL_3 rfl
                    have gL86_4 : jGet L86 4 = some (.int (i32 (en))) := eL86 ▸ jg_ne (by decide) gL_4 rfl
                    have gL86_5 : jGet L86 5 = some (.int (i32 (fi))) := eL86 ▸ jg_ne (by decide) gL_5 rfl
                    have gL86_2 : jGet L86 2 = some (.int (i32 ((num + (1))))) := eL86 ▸ jg_eq
                    refine jx_ld (pc_q := 221) (l_q := L86) (st_q := [.int (i32 (to))]) rfl (jl_iloadn gL86_3) ?_
                    refine jx_ar (pc_q := 222) (st_q := [.int (i32 (1)), .int (i32 (to))]) rfl rfl rfl rfl ?_
                    refine jx_add (pc_q := 223) rfl rfl ?_
                    refine jx_ld (pc_q := 224) (l_q := jSto1 L86 1 (.int (i32 ((to + 1))))) (st_q := []) rfl rfl ?_
                    obtain ⟨L87, eL87⟩ : ∃ q, q = jSto1 L86 1 (.int (i32 ((to + 1)))) := ⟨_, rfl⟩
                    rw [← eL87]
                    have gL87_0 : jGet L87 0 = some (.ref 66) := eL87 ▸ jg_ne (by decide) gL86_0 rfl
                    have gL87_3 : jGet L87 3 = some (.int (i32 (to))) := eL87 ▸ jg_ne (by decide) gL86_3 rfl
                    have gL87_4 : jGet L87 4 = some (.int (i32 (en))) := eL87 ▸ jg_ne (by decide) gL86_4 rfl
                    have gL87_5 : jGet L87 5 = some (.int (i32 (fi))) := eL87 ▸ jg_ne (by decide) gL86_5 rfl
                    have gL87_2 : jGet L87 2 = some (.int (i32 ((num + (1))))) := eL87 ▸ jg_ne (by decide) gL86_2 rfl
                    have gL87_1 : jGet L87 1 = some (.int (i32 ((to + 1)))) := eL87 ▸ jg_eq
                    refine jx_go (tg := 9) rfl rfl ?_
                    exact ih9 _ (by omega) L87 (uG Gx 3 ((li1 + 1))) A80 ((to + 1)) ((num + (1))) ((li1 + 1)) rfl gL87_0 gL87_1 gL87_2 hW84 hF85 (rfl) (by omega) (by omega) (by omega) (by omega) (by omega) (by rw [eA80, eA65, eA61, eA57, eA53]; exact LU_add pp_LU fx_3 (by omega) (by omega) (by omega) (by omega))
                  · have _q := h79
                    refine jx_ld (pc_q := 198) (l_q := L) (st_q := [.int (i32 (fi)), .int (i32 (li1)), .ref 72]) rfl (jl_iload gL_5) ?_
                    refine jx_ld (pc_q := 199) (l_q := L) (st_q := [.int (i32 (fm)), .int (i32 (fi)), .int (i32 (li1)), .ref 72]) rfl (jl_iloadn gL_1) ?_
                    refine jx_sub (pc_q := 200) rfl rfl ?_
                    refine jx_ar (pc_q := 201) (st_q := [.int (i32 (2)), .int (i32 ((fi - fm))), .int (i32 (li1)), .ref 72]) rfl rfl rfl rfl ?_
                    refine jx_div (pc_q := 202) rfl rfl (by omega) (by omega) (by omega) (by omega) ?_
                    refine jx_go (tg := 206) rfl rfl ?_
                    refine jr_st (pc_q := 207) (i := 5) (m := 3001) (z := li1) (y := ((fi - fm) / 2)) rfl (by decide) rfl (by decide) (by omega) (by omega) rfl ?_
                    have hW89 : Wk Gx (uA A65 5 (li1).toNat (((fi - fm) / 2))) := Wk_a hW66 (show (-1 : Int) ≤ ((fi - fm) / 2) by omega) (show ((fi - fm) / 2) ≤ (15 : Int) by omega)
                    have hF90 := Fr_a (z := ((fi - fm) / 2)) (k := 5) (n := (li1).toNat) hF67 (by decide)
                    obtain ⟨A88, eA88⟩ : ∃ q, q = uA A65 5 (li1).toNat (((fi - fm) / 2)) := ⟨_, rfl⟩
                    rw [← eA88]
                    rw [← eA88] at hW89 hF90
                    have q91 : A88 5 (li1).toNat = ((fi - fm) / 2) := by rw [eA88]; exact uA_eq
                    refine jx_ld (pc_q := 208) (l_q := L) (st_q := [.ref 66]) rfl (jl_aloadn gL_0) ?_
                    refine jx_ar (pc_q := 209) (st_q := [.ref 66, .ref 66]) rfl rfl rfl rfl ?_
                    refine jr_get (pc_q := 212) (i := 3) (v := .int (i32 (li1))) rfl rfl (by decide) (rFv_eq (by decide) (show Gx 3 = li1 from (fx_3))) rfl ?_
                    refine jx_ar (pc_q := 213) (st_q := [.int (i32 (1)), .int (i32 (li1)), .ref 66]) rfl rfl rfl rfl ?_
                    refine jx_add (pc_q := 214) rfl rfl ?_
                    refine jr_put (pc_q := 217) (i := 3) (z := (li1 + 1)) rfl rfl (by decide) rfl rfl rfl rfl rfl rfl ?_
                    have hW92 : Wk (uG Gx 3 ((li1 + 1))) A88 := Wk_g hW89 (show (0 : Int) ≤ (li1 + 1) by omega) (show (li1 + 1) ≤ (3000 : Int) by omega)
                    have hF93 := Fr_g (z := (li1 + 1)) (i := 3) hF90 (by decide)
                    refine jx_inc (pc_q := 220) (l_q := jSto1 L 2 (.int (i32 ((num + (1)))))) (x := num) rfl gL_2 (by decide) rfl rfl ?_
                    obtain ⟨L94, eL94⟩ : ∃ q, q = jSto1 L 2 (.int (i32 ((num + (1))))) := ⟨_, rfl⟩
                    rw [← eL94]
                    have gL94_0 : jGet L94 0 = some (.ref 66) := eL94 ▸ jg_ne (by decide) gL_0 rfl
                    have gL94_1 : jGet L94 1 = some (.int (i32 (fm))) := eL94 ▸ jg_ne (by decide) gL_1 rfl
                    have gL94_3 : jGet L94 3 = some (.int (i32 (to))) := eL94 ▸ jg_ne (by decide) gL_3 rfl
                    have gL94_4 : jGet L94 4 = some (.int (i32 (en))) := eL94 ▸ jg_ne (by decide) gL_4 rfl
                    have gL94_5 : jGet L94 5 = some (.int (i32 (fi))) := eL94 ▸ jg_ne (by decide) gL_5 rfl
                    have gL94_2 : jGet L94 2 = some (.int (i32 ((num + (1))))) := eL94 ▸ jg_eq
                    refine jx_ld (pc_q := 221) (l_q := L94) (st_q := [.int (i32 (to))]) rfl (jl_iloadn gL94_3) ?_
                    refine jx_ar (pc_q := 222) (st_q := [.int (i32 (1)), .int (i32 (to))]) rfl rfl rfl rfl ?_
                    refine jx_add (pc_q := 223) rfl rfl ?_
                    refine jx_ld (pc_q := 224) (l_q := jSto1 L94 1 (.int (i32 ((to + 1))))) (st_q := []) rfl rfl ?_
                    obtain ⟨L95, eL95⟩ : ∃ q, q = jSto1 L94 1 (.int (i32 ((to + 1)))) := ⟨_, rfl⟩
                    rw [← eL95]
                    have gL95_0 : jGet L95 0 = some (.ref 66) := eL95 ▸ jg_ne (by decide) gL94_0 rfl
                    have gL95_3 : jGet L95 3 = some (.int (i32 (to))) := eL95 ▸ jg_ne (by decide) gL94_3 rfl
                    have gL95_4 : jGet L95 4 = some (.int (i32 (en))) := eL95 ▸ jg_ne (by decide) gL94_4 rfl
                    have gL95_5 : jGet L95 5 = some (.int (i32 (fi))) := eL95 ▸ jg_ne (by decide) gL94_5 rfl
                    have gL95_2 : jGet L95 2 = some (.int (i32 ((num + (1))))) := eL95 ▸ jg_ne (by decide) gL94_2 rfl
                    have gL95_1 : jGet L95 1 = some (.int (i32 ((to + 1)))) := eL95 ▸ jg_eq
                    refine jx_go (tg := 9) rfl rfl ?_
                    exact ih9 _ (by omega) L95 (uG Gx 3 ((li1 + 1))) A88 ((to + 1)) ((num + (1))) ((li1 + 1)) rfl gL95_0 gL95_1 gL95_2 hW92 hF93 (rfl) (by omega) (by omega) (by omega) (by omega) (by omega) (by rw [eA88, eA65, eA61, eA57, eA53]; exact LU_add pp_LU fx_3 (by omega) (by omega) (by omega) (by omega))
            · have _q := h49
              refine jx_inc (pc_q := 118) (l_q := jSto1 L 5 (.int (i32 ((fi + (1)))))) (x := fi) rfl gL_5 (by decide) rfl rfl ?_
              obtain ⟨L96, eL96⟩ : ∃ q, q = jSto1 L 5 (.int (i32 ((fi + (1))))) := ⟨_, rfl⟩
              rw [← eL96]
              have gL96_0 : jGet L96 0 = some (.ref 66) := eL96 ▸ jg_ne (by decide) gL_0 rfl
              have gL96_1 : jGet L96 1 = some (.int (i32 (fm))) := eL96 ▸ jg_ne (by decide) gL_1 rfl
              have gL96_2 : jGet L96 2 = some (.int (i32 (num))) := eL96 ▸ jg_ne (by decide) gL_2 rfl
              have gL96_3 : jGet L96 3 = some (.int (i32 (to))) := eL96 ▸ jg_ne (by decide) gL_3 rfl
              have gL96_4 : jGet L96 4 = some (.int (i32 (en))) := eL96 ▸ jg_ne (by decide) gL_4 rfl
              have gL96_5 : jGet L96 5 = some (.int (i32 ((fi + (1))))) := eL96 ▸ jg_eq
              refine jx_go (tg := 96) rfl rfl ?_
              exact ih96 _ (by omega) L96 Gx Ax (to) (en) ((fi + (1))) rfl gL96_0 gL96_1 gL96_2 gL96_3 gL96_4 gL96_5 hWx hFx ((fx_3)) (by omega) (by omega) (by omega) (by omega) (by omega) (by omega) (by omega) (pp_LU)
      have at_47 : ∀ (m : Nat) (L : jL) (Gx : Nat → Int) (Ax : Nat → Nat → Int) (to en : Int), (to - en).toNat = m → jGet L 0 = some (.ref 66) → jGet L 1 = some (.int (i32 (fm))) → jGet L 2 = some (.int (i32 (num))) → jGet L 3 = some (.int (i32 to)) → jGet L 4 = some (.int (i32 en)) → Wk Gx Ax → Fr [3] [1, 2, 3, 4, 5] G A Gx Ax → Gx 3 = li1 → ((-2147483648 : Int) ≤ to ∧ to ≤ 2147483647) → ((-2147483648 : Int) ≤ en ∧ en ≤ 2147483647) → (fm ≤ to ∧ to ≤ sz) → (fm ≤ sz) → (fm ≤ en ∧ en ≤ to) → LU Gx Ax fm → wj X d jm252 (47, L, [], rV c0 c1 Gx Ax T) (fun o V_q => ∃ (G_q : Nat → Int) (A_q : Nat → Nat → Int), V_q = rV c0 c1 G_q A_q T ∧ o = .inl none ∧ Wk G_q A_q ∧ Fr [3] [1, 2, 3, 4, 5] G A G_q A_q ∧ LT G_q A_q ∧ True) := by
        intro m
        induction m using Nat.strongRecOn with
        | ind m ih47 =>
          intro L Gx Ax to en hm gL_0 gL_1 gL_2 gL_3 gL_4 hWx hFx fx_3 rx_to rx_en iv_0 iv_1 iv_2 pp_LU
          refine jx_ld (pc_q := 49) (l_q := L) (st_q := [.int (i32 (en))]) rfl (jl_iload gL_4) ?_
          refine jx_ld (pc_q := 50) (l_q := L) (st_q := [.int (i32 (to)), .int (i32 (en))]) rfl (jl_iloadn gL_3) ?_
          refine jx_icmp_ge (pc_q := 53) (tg := 93) rfl rfl rfl (Int.le_trans (by decide : (-2147483648 : Int) ≤ -2147483648) rx_en.1) (Int.le_trans rx_en.2 (by decide : (2147483647 : Int) ≤ 2147483647)) (Int.le_trans (by decide : (-2147483648 : Int) ≤ -2147483648) rx_to.1) (Int.le_trans rx_to.2 (by decide : (2147483647 : Int) ≤ 2147483647)) (fun h97 => ?_) (fun h97 => ?_)
          · have _q := h97
            refine jx_ld (pc_q := 94) (l_q := L) (st_q := [.int (i32 (fm))]) rfl (jl_iloadn gL_1) ?_
            refine jx_ld (pc_q := 96) (l_q := jSto1 L 5 (.int (i32 (fm)))) (st_q := []) rfl rfl ?_
            obtain ⟨L98, eL98⟩ : ∃ q, q = jSto1 L 5 (.int (i32 (fm))) := ⟨_, rfl⟩
            rw [← eL98]
            have gL98_0 : jGet L98 0 = some (.ref 66) := eL98 ▸ jg_ne (by decide) gL_0 rfl
            have gL98_1 : jGet L98 1 = some (.int (i32 (fm))) := eL98 ▸ jg_ne (by decide) gL_1 rfl
            have gL98_2 : jGet L98 2 = some (.int (i32 (num))) := eL98 ▸ jg_ne (by decide) gL_2 rfl
            have gL98_3 : jGet L98 3 = some (.int (i32 (to))) := eL98 ▸ jg_ne (by decide) gL_3 rfl
            have gL98_4 : jGet L98 4 = some (.int (i32 (en))) := eL98 ▸ jg_ne (by decide) gL_4 rfl
            have gL98_5 : jGet L98 5 = some (.int (i32 (fm))) := eL98 ▸ jg_eq
            exact at_96 _ L98 Gx Ax (to) (en) (fm) rfl gL98_0 gL98_1 gL98_2 gL98_3 gL98_4 gL98_5 hWx hFx ((fx_3)) (by omega) (by omega) (by omega) (by omega) (by omega) (by omega) (by omega) (pp_LU)
          · have _q := h97
            refine jx_ld (pc_q := 54) (l_q := L) (st_q := [.ref 66]) rfl (jl_aloadn gL_0) ?_
            refine jr_get (pc_q := 57) (i := 1) (v := .ref 67) rfl rfl (by decide) rfl rfl ?_
            refine jx_ld (pc_q := 59) (l_q := L) (st_q := [.int (i32 (en)), .ref 67]) rfl (jl_iload gL_4) ?_
            have b99 : (0 : Int) ≤ A 0 (en).toNat ∧ A 0 (en).toNat ≤ 126 := hW.2 0 _
            refine jr_ldv (pc_q := 60) (i := 0) (m := 3000) (z := en) (y := A 0 (en).toNat) rfl (by decide) rfl (by decide) (by omega) (by omega) rfl (show Ax 0 (en).toNat = A 0 (en).toNat from (congrFun (hFx.2 0 rfl) _)) ?_
            refine jx_ar (pc_q := 62) (st_q := [.int (i32 (45)), .int (i32 (A 0 (en).toNat))]) rfl rfl rfl rfl ?_
            refine jx_icmp_ne (pc_q := 65) (tg := 87) rfl rfl rfl (Int.le_trans (by decide : (-2147483648 : Int) ≤ 0) b99.1) (Int.le_trans b99.2 (by decide : (126 : Int) ≤ 2147483647)) (by decide) (by decide) (fun h100 => ?_) (fun h100 => ?_)
            · have _q := h100
              refine jx_inc (pc_q := 90) (l_q := jSto1 L 4 (.int (i32 ((en + (1)))))) (x := en) rfl gL_4 (by decide) rfl rfl ?_
              obtain ⟨L101, eL101⟩ : ∃ q, q = jSto1 L 4 (.int (i32 ((en + (1))))) := ⟨_, rfl⟩
              rw [← eL101]
              have gL101_0 : jGet L101 0 = some (.ref 66) := eL101 ▸ jg_ne (by decide) gL_0 rfl
              have gL101_1 : jGet L101 1 = some (.int (i32 (fm))) := eL101 ▸ jg_ne (by decide) gL_1 rfl
              have gL101_2 : jGet L101 2 = some (.int (i32 (num))) := eL101 ▸ jg_ne (by decide) gL_2 rfl
              have gL101_3 : jGet L101 3 = some (.int (i32 (to))) := eL101 ▸ jg_ne (by decide) gL_3 rfl
              have gL101_4 : jGet L101 4 = some (.int (i32 ((en + (1))))) := eL101 ▸ jg_eq
              refine jx_go (tg := 47) rfl rfl ?_
              exact ih47 _ (by omega) L101 Gx Ax (to) ((en + (1))) rfl gL101_0 gL101_1 gL101_2 gL101_3 gL101_4 hWx hFx ((fx_3)) (by omega) (by omega) (by omega) (by omega) (by omega) (pp_LU)
            · have _q := h100
              refine jx_ld (pc_q := 67) (l_q := L) (st_q := [.int (i32 (en))]) rfl (jl_iload gL_4) ?_
              refine jx_ar (pc_q := 68) (st_q := [.int (i32 (1)), .int (i32 (en))]) rfl rfl rfl rfl ?_
              refine jx_add (pc_q := 69) rfl rfl ?_
              refine jx_ld (pc_q := 70) (l_q := L) (st_q := [.int (i32 (to)), .int (i32 ((en + 1)))]) rfl (jl_iloadn gL_3) ?_
              refine jx_icmp_ge (pc_q := 73) (tg := 87) rfl rfl rfl (by omega) (by omega) (Int.le_trans (by decide : (-2147483648 : Int) ≤ -2147483648) rx_to.1) (Int.le_trans rx_to.2 (by decide : (2147483647 : Int) ≤ 2147483647)) (fun h102 => ?_) (fun h102 => ?_)
              · have _q := h102
                refine jx_inc (pc_q := 90) (l_q := jSto1 L 4 (.int (i32 ((en + (1)))))) (x := en) rfl gL_4 (by decide) rfl rfl ?_
                obtain ⟨L103, eL103⟩ : ∃ q, q = jSto1 L 4 (.int (i32 ((en + (1))))) := ⟨_, rfl⟩
                rw [← eL103]
                have gL103_0 : jGet L103 0 = some (.ref 66) := eL103 ▸ jg_ne (by decide) gL_0 rfl
                have gL103_1 : jGet L103 1 = some (.int (i32 (fm))) := eL103 ▸ jg_ne (by decide) gL_1 rfl
                have gL103_2 : jGet L103 2 = some (.int (i32 (num))) := eL103 ▸ jg_ne (by decide) gL_2 rfl
                have gL103_3 : jGet L103 3 = some (.int (i32 (to))) := eL103 ▸ jg_ne (by decide) gL_3 rfl
                have gL103_4 : jGet L103 4 = some (.int (i32 ((en + (1))))) := eL103 ▸ jg_eq
                refine jx_go (tg := 47) rfl rfl ?_
                exact ih47 _ (by omega) L103 Gx Ax (to) ((en + (1))) rfl gL103_0 gL103_1 gL103_2 gL103_3 gL103_4 hWx hFx ((fx_3)) (by omega) (by omega) (by omega) (by omega) (by omega) (pp_LU)
              · have _q := h102
                refine jx_ld (pc_q := 74) (l_q := L) (st_q := [.ref 66]) rfl (jl_aloadn gL_0) ?_
                refine jr_get (pc_q := 77) (i := 1) (v := .ref 67) rfl rfl (by decide) rfl rfl ?_
                refine jx_ld (pc_q := 79) (l_q := L) (st_q := [.int (i32 (en)), .ref 67]) rfl (jl_iload gL_4) ?_
                refine jx_ar (pc_q := 80) (st_q := [.int (i32 (1)), .int (i32 (en)), .ref 67]) rfl rfl rfl rfl ?_
                refine jx_add (pc_q := 81) rfl rfl ?_
                have b104 : (0 : Int) ≤ A 0 ((en + 1)).toNat ∧ A 0 ((en + 1)).toNat ≤ 126 := hW.2 0 _
                refine jr_ldv (pc_q := 82) (i := 0) (m := 3000) (z := (en + 1)) (y := A 0 ((en + 1)).toNat) rfl (by decide) rfl (by decide) (by omega) (by omega) rfl (show Ax 0 ((en + 1)).toNat = A 0 ((en + 1)).toNat from (congrFun (hFx.2 0 rfl) _)) ?_
                refine jx_ar (pc_q := 84) (st_q := [.int (i32 (45)), .int (i32 (A 0 ((en + 1)).toNat))]) rfl rfl rfl rfl ?_
                refine jx_icmp_eq (pc_q := 87) (tg := 93) rfl rfl rfl (Int.le_trans (by decide : (-2147483648 : Int) ≤ 0) b104.1) (Int.le_trans b104.2 (by decide : (126 : Int) ≤ 2147483647)) (by decide) (by decide) (fun h105 => ?_) (fun h105 => ?_)
                · have _q := h105
                  refine jx_ld (pc_q := 94) (l_q := L) (st_q := [.int (i32 (fm))]) rfl (jl_iloadn gL_1) ?_
                  refine jx_ld (pc_q := 96) (l_q := jSto1 L 5 (.int (i32 (fm)))) (st_q := []) rfl rfl ?_
                  obtain ⟨L106, eL106⟩ : ∃ q, q = jSto1 L 5 (.int (i32 (fm))) := ⟨_, rfl⟩
                  rw [← eL106]
                  have gL106_0 : jGet L106 0 = some (.ref 66) := eL106 ▸ jg_ne (by decide) gL_0 rfl
                  have gL106_1 : jGet L106 1 = some (.int (i32 (fm))) := eL106 ▸ jg_ne (by decide) gL_1 rfl
                  have gL106_2 : jGet L106 2 = some (.int (i32 (num))) := eL106 ▸ jg_ne (by decide) gL_2 rfl
                  have gL106_3 : jGet L106 3 = some (.int (i32 (to))) := eL106 ▸ jg_ne (by decide) gL_3 rfl
                  have gL106_4 : jGet L106 4 = some (.int (i32 (en))) := eL106 ▸ jg_ne (by decide) gL_4 rfl
                  have gL106_5 : jGet L106 5 = some (.int (i32 (fm))) := eL106 ▸ jg_eq
                  exact at_96 _ L106 Gx Ax (to) (en) (fm) rfl gL106_0 gL106_1 gL106_2 gL106_3 gL106_4 gL106_5 hWx hFx ((fx_3)) (by omega) (by omega) (by omega) (by omega) (by omega) (by omega) (by omega) (pp_LU)
                · have _q := h105
                  refine jx_inc (pc_q := 90) (l_q := jSto1 L 4 (.int (i32 ((en + (1)))))) (x := en) rfl gL_4 (by decide) rfl rfl ?_
                  obtain ⟨L107, eL107⟩ : ∃ q, q = jSto1 L 4 (.int (i32 ((en + (1))))) := ⟨_, rfl⟩
                  rw [← eL107]
                  have gL107_0 : jGet L107 0 = some (.ref 66) := eL107 ▸ jg_ne (by decide) gL_0 rfl
                  have gL107_1 : jGet L107 1 = some (.int (i32 (fm))) := eL107 ▸ jg_ne (by decide) gL_1 rfl
                  have gL107_2 : jGet L107 2 = some (.int (i32 (num))) := eL107 ▸ jg_ne (by decide) gL_2 rfl
                  have gL107_3 : jGet L107 3 = some (.int (i32 (to))) := eL107 ▸ jg_ne (by decide) gL_3 rfl
                  have gL107_4 : jGet L107 4 = some (.int (i32 ((en + (1))))) := eL107 ▸ jg_eq
                  refine jx_go (tg := 47) rfl rfl ?_
                  exact ih47 _ (by omega) L107 Gx Ax (to) ((en + (1))) rfl gL107_0 gL107_1 gL107_2 gL107_3 gL107_4 hWx hFx ((fx_3)) (by omega) (by omega) (by omega) (by omega) (by omega) (pp_LU)
      have at_19 : ∀ (m : Nat) (L : jL) (Gx : Nat → Int) (Ax : Nat → Nat → Int) (to : Int), (sz - to).toNat = m → jGet L 0 = some (.ref 66) → jGet L 1 = some (.int (i32 (fm))) → jGet L 2 = some (.int (i32 (num))) → jGet L 3 = some (.int (i32 to)) → Wk Gx Ax → Fr [3] [1, 2, 3, 4, 5] G A Gx Ax → Gx 3 = li1 → ((-2147483648 : Int) ≤ to ∧ to ≤ 2147483647) → (fm ≤ to ∧ to ≤ sz) → (fm ≤ sz) → LU Gx Ax fm → wj X d jm252 (19, L, [], rV c0 c1 Gx Ax T) (fun o V_q => ∃ (G_q : Nat → Int) (A_q : Nat → Nat → Int), V_q = rV c0 c1 G_q A_q T ∧ o = .inl none ∧ Wk G_q A_q ∧ Fr [3] [1, 2, 3, 4, 5] G A G_q A_q ∧ LT G_q A_q ∧ True) := by
        intro m
        induction m using Nat.strongRecOn with
        | ind m ih19 =>
          intro L Gx Ax to hm gL_0 gL_1 gL_2 gL_3 hWx hFx fx_3 rx_to iv_0 iv_1 pp_LU
          refine jx_ld (pc_q := 20) (l_q := L) (st_q := [.int (i32 (to))]) rfl (jl_iloadn gL_3) ?_
          refine jx_ld (pc_q := 21) (l_q := L) (st_q := [.ref 66, .int (i32 (to))]) rfl (jl_aloadn gL_0) ?_
          refine jr_get (pc_q := 24) (i := 2) (v := .int (i32 (sz))) rfl rfl (by decide) (rFv_eq (by decide) (show Gx 2 = sz from ((hFx.1 2 rfl).trans (e_sz)))) rfl ?_
          refine jx_icmp_ge (pc_q := 27) (tg := 44) rfl rfl rfl (Int.le_trans (by decide : (-2147483648 : Int) ≤ -2147483648) rx_to.1) (Int.le_trans rx_to.2 (by decide : (2147483647 : Int) ≤ 2147483647)) (Int.le_trans (by decide : (-2147483648 : Int) ≤ 0) b_sz.1) (Int.le_trans b_sz.2 (by decide : (3000 : Int) ≤ 2147483647)) (fun h108 => ?_) (fun h108 => ?_)
          · have _q := h108
            refine jx_ld (pc_q := 45) (l_q := L) (st_q := [.int (i32 (fm))]) rfl (jl_iloadn gL_1) ?_
            refine jx_ld (pc_q := 47) (l_q := jSto1 L 4 (.int (i32 (fm)))) (st_q := []) rfl rfl ?_
            obtain ⟨L109, eL109⟩ : ∃ q, q = jSto1 L 4 (.int (i32 (fm))) := ⟨_, rfl⟩
            rw [← eL109]
            have gL109_0 : jGet L109 0 = some (.ref 66) := eL109 ▸ jg_ne (by decide) gL_0 rfl
            have gL109_1 : jGet L109 1 = some (.int (i32 (fm))) := eL109 ▸ jg_ne (by decide) gL_1 rfl
            have gL109_2 : jGet L109 2 = some (.int (i32 (num))) := eL109 ▸ jg_ne (by decide) gL_2 rfl
            have gL109_3 : jGet L109 3 = some (.int (i32 (to))) := eL109 ▸ jg_ne (by decide) gL_3 rfl
            have gL109_4 : jGet L109 4 = some (.int (i32 (fm))) := eL109 ▸ jg_eq
            exact at_47 _ L109 Gx Ax (to) (fm) rfl gL109_0 gL109_1 gL109_2 gL109_3 gL109_4 hWx hFx ((fx_3)) (by omega) (by omega) (by omega) (by omega) (by omega) (pp_LU)
          · have _q := h108
            refine jx_ld (pc_q := 28) (l_q := L) (st_q := [.ref 66]) rfl (jl_aloadn gL_0) ?_
            refine jr_get (pc_q := 31) (i := 1) (v := .ref 67) rfl rfl (by decide) rfl rfl ?_
            refine jx_ld (pc_q := 32) (l_q := L) (st_q := [.int (i32 (to)), .ref 67]) rfl (jl_iloadn gL_3) ?_
            have b110 : (0 : Int) ≤ A 0 (to).toNat ∧ A 0 (to).toNat ≤ 126 := hW.2 0 _
            refine jr_ldv (pc_q := 33) (i := 0) (m := 3000) (z := to) (y := A 0 (to).toNat) rfl (by decide) rfl (by decide) (by omega) (by omega) rfl (show Ax 0 (to).toNat = A 0 (to).toNat from (congrFun (hFx.2 0 rfl) _)) ?_
            refine jx_ar (pc_q := 35) (st_q := [.int (i32 (10)), .int (i32 (A 0 (to).toNat))]) rfl rfl rfl rfl ?_
            refine jx_icmp_eq (pc_q := 38) (tg := 44) rfl rfl rfl (Int.le_trans (by decide : (-2147483648 : Int) ≤ 0) b110.1) (Int.le_trans b110.2 (by decide : (126 : Int) ≤ 2147483647)) (by decide) (by decide) (fun h111 => ?_) (fun h111 => ?_)
            · have _q := h111
              refine jx_ld (pc_q := 45) (l_q := L) (st_q := [.int (i32 (fm))]) rfl (jl_iloadn gL_1) ?_
              refine jx_ld (pc_q := 47) (l_q := jSto1 L 4 (.int (i32 (fm)))) (st_q := []) rfl rfl ?_
              obtain ⟨L112, eL112⟩ : ∃ q, q = jSto1 L 4 (.int (i32 (fm))) := ⟨_, rfl⟩
              rw [← eL112]
              have gL112_0 : jGet L112 0 = some (.ref 66) := eL112 ▸ jg_ne (by decide) gL_0 rfl
              have gL112_1 : jGet L112 1 = some (.int (i32 (fm))) := eL112 ▸ jg_ne (by decide) gL_1 rfl
              have gL112_2 : jGet L112 2 = some (.int (i32 (num))) := eL112 ▸ jg_ne (by decide) gL_2 rfl
              have gL112_3 : jGet L112 3 = some (.int (i32 (to))) := eL112 ▸ jg_ne (by decide) gL_3 rfl
              have gL112_4 : jGet L112 4 = some (.int (i32 (fm))) := eL112 ▸ jg_eq
              exact at_47 _ L112 Gx Ax (to) (fm) rfl gL112_0 gL112_1 gL112_2 gL112_3 gL112_4 hWx hFx ((fx_3)) (by omega) (by omega) (by omega) (by omega) (by omega) (pp_LU)
            · have _q := h111
              refine jx_inc (pc_q := 41) (l_q := jSto1 L 3 (.int (i32 ((to + (1)))))) (x := to) rfl gL_3 (by decide) rfl rfl ?_
              obtain ⟨L113, eL113⟩ : ∃ q, q = jSto1 L 3 (.int (i32 ((to + (1))))) := ⟨_, rfl⟩
              rw [← eL113]
              have gL113_0 : jGet L113 0 = some (.ref 66) := eL113 ▸ jg_ne (by decide) gL_0 rfl
              have gL113_1 : jGet L113 1 = some (.int (i32 (fm))) := eL113 ▸ jg_ne (by decide) gL_1 rfl
              have gL113_2 : jGet L113 2 = some (.int (i32 (num))) := eL113 ▸ jg_ne (by decide) gL_2 rfl
              have gL113_3 : jGet L113 3 = some (.int (i32 ((to + (1))))) := eL113 ▸ jg_eq
              refine jx_go (tg := 19) rfl rfl ?_
              exact ih19 _ (by omega) L113 Gx Ax ((to + (1))) rfl gL113_0 gL113_1 gL113_2 gL113_3 hWx hFx ((fx_3)) (by omega) (by omega) (by omega) (pp_LU)
      refine jx_ld (pc_q := 10) (l_q := L) (st_q := [.int (i32 (fm))]) rfl (jl_iloadn gL_1) ?_
      refine jx_ld (pc_q := 11) (l_q := L) (st_q := [.ref 66, .int (i32 (fm))]) rfl (jl_aloadn gL_0) ?_
      refine jr_get (pc_q := 14) (i := 2) (v := .int (i32 (sz))) rfl rfl (by decide) (rFv_eq (by decide) (show Gx 2 = sz from ((hFx.1 2 rfl).trans (e_sz)))) rfl ?_
      refine jx_icmp_gt (pc_q := 17) (tg := 227) rfl rfl rfl (Int.le_trans (by decide : (-2147483648 : Int) ≤ -2147483648) rx_fm.1) (Int.le_trans rx_fm.2 (by decide : (2147483647 : Int) ≤ 2147483647)) (Int.le_trans (by decide : (-2147483648 : Int) ≤ 0) b_sz.1) (Int.le_trans b_sz.2 (by decide : (3000 : Int) ≤ 2147483647)) (fun h114 => ?_) (fun h114 => ?_)
      · have _q := h114
        refine jx_rt (v := none) rfl rfl rfl rfl rfl rfl ?_
        exact ⟨_, _, rfl, rfl, hWx, hFx, pp_LU.1, trivial⟩
      · have _q := h114
        refine jx_ld (pc_q := 18) (l_q := L) (st_q := [.int (i32 (fm))]) rfl (jl_iloadn gL_1) ?_
        refine jx_ld (pc_q := 19) (l_q := jSto1 L 3 (.int (i32 (fm)))) (st_q := []) rfl rfl ?_
        obtain ⟨L115, eL115⟩ : ∃ q, q = jSto1 L 3 (.int (i32 (fm))) := ⟨_, rfl⟩
        rw [← eL115]
        have gL115_0 : jGet L115 0 = some (.ref 66) := eL115 ▸ jg_ne (by decide) gL_0 rfl
        have gL115_1 : jGet L115 1 = some (.int (i32 (fm))) := eL115 ▸ jg_ne (by decide) gL_1 rfl
        have gL115_2 : jGet L115 2 = some (.int (i32 (num))) := eL115 ▸ jg_ne (by decide) gL_2 rfl
        have gL115_3 : jGet L115 3 = some (.int (i32 (fm))) := eL115 ▸ jg_eq
        exact at_19 _ L115 Gx Ax (fm) rfl gL115_0 gL115_1 gL115_2 gL115_3 hWx hFx ((ex_li1)) (by omega) (by omega) (by omega) (pp_LU)
  refine jx_ld (pc_q := 1) (l_q := [(0, .ref 66)]) (st_q := [.ref 66]) rfl (jl_aloadn rfl) ?_
  refine jx_ar (pc_q := 2) (st_q := [.int (i32 (0)), .ref 66]) rfl rfl rfl rfl ?_
  refine jr_put (pc_q := 5) (i := 3) (z := 0) rfl rfl (by decide) rfl rfl rfl rfl rfl rfl ?_
  have hW116 : Wk (uG G 3 (0)) A := Wk_g hW (show (0 : Int) ≤ 0 by omega) (show 0 ≤ (3000 : Int) by omega)
  have hF117 := Fr_g (z := 0) (i := 3) hF0 (by decide)
  refine jx_ar (pc_q := 6) (st_q := [.int (i32 (0))]) rfl rfl rfl rfl ?_
  refine jx_ld (pc_q := 7) (l_q := jSto1 [(0, .ref 66)] 1 (.int (i32 (0)))) (st_q := []) rfl rfl ?_
  obtain ⟨L118, eL118⟩ : ∃ q, q = jSto1 [(0, .ref 66)] 1 (.int (i32 (0))) := ⟨_, rfl⟩
  rw [← eL118]
  have gL118_0 : jGet L118 0 = some (.ref 66) := eL118 ▸ jg_ne (by decide) (rfl : jGet [(0, .ref 66)] 0 = some (.ref 66)) rfl
  have gL118_1 : jGet L118 1 = some (.int (i32 (0))) := eL118 ▸ jg_eq
  refine jx_ar (pc_q := 8) (st_q := [.int (i32 (0))]) rfl rfl rfl rfl ?_
  refine jx_ld (pc_q := 9) (l_q := jSto1 L118 2 (.int (i32 (0)))) (st_q := []) rfl rfl ?_
  obtain ⟨L119, eL119⟩ : ∃ q, q = jSto1 L118 2 (.int (i32 (0))) := ⟨_, rfl⟩
  rw [← eL119]
  have gL119_0 : jGet L119 0 = some (.ref 66) := eL119 ▸ jg_ne (by decide) gL118_0 rfl
  have gL119_1 : jGet L119 1 = some (.int (i32 (0))) := eL119 ▸ jg_ne (by decide) gL118_1 rfl
  have gL119_2 : jGet L119 2 = some (.int (i32 (0))) := eL119 ▸ jg_eq
  exact at_9 _ L119 (uG G 3 (0)) A (0) (0) (0) rfl gL119_0 gL119_1 gL119_2 hW116 hF117 (rfl) (by omega) (by omega) (by omega) (by omega) (by omega) (LU_0 (if_pos rfl))
