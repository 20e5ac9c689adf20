set_option maxRecDepth 20000 in
set_option maxHeartbeats 4000000 in
theorem c_addUse_x_at_12 {X : jX} {d : Nat} {c0 c1 : jC} {G : Nat → Int} {A : Nat → Nat → Int} {T : jH} {s el al u : Int} {uf us : Int} (hd : 1 ≤ d + 1) (hW : Wk G A) (e_uf : G 62 = uf) (e_us : G 61 = us) (h_s : (-2147483648 : Int) ≤ s ∧ s ≤ 2147483647) (h_el : (-2147483648 : Int) ≤ el ∧ el ≤ 2147483647) (h_al : (0 : Int) ≤ al ∧ al ≤ 1) (h_u : (-2147483648 : Int) ≤ u ∧ u ≤ 2147483647) (p_0 : 0 ≤ uf) (p_1 : uf ≤ us) (p_2 : us ≤ 59999) (p_3 : 0 ≤ u) (p_4 : u ≤ 15) (p_5 : 0 ≤ s) (p_6 : s ≤ 259) (p_7 : 0 ≤ al) (p_8 : (∀ j : Int, 0 ≤ j → j < us → 0 ≤ A 42 (j).toNat ∧ A 42 (j).toNat ≤ 15)) : ∀ (m : Nat) (L : jL) (Gx : Nat → Int) (Ax : Nat → Nat → Int) (i : Int), (us - i).toNat = m → jGet L 0 = some (.ref 66) → jGet L 1 = some (.int (i32 (s))) → jGet L 2 = some (.int (i32 (el))) → jGet L 3 = some (.int (i32 (al))) → jGet L 4 = some (.int (i32 (u))) → jGet L 5 = some (.int (i32 i)) → Wk Gx Ax → Fr [61] [39, 40, 41, 42] G A Gx Ax → Gx 61 = us → ((-2147483648 : Int) ≤ i ∧ i ≤ 2147483647) → (1 ≤ u) → (uf ≤ i) → (i ≤ us) → (Ax = A) → (NF Ax (uf) (i) (s) (al) (el)) → wj X d jm323 (12, L, [], rV c0 c1 Gx Ax T) (fun o V_q => ∃ (G_q : Nat → Int) (A_q : Nat → Nat → Int) (us2 : Int), V_q = rV c0 c1 G_q A_q T ∧ o = .inl none ∧ Wk G_q A_q ∧ Fr [61] [39, 40, 41, 42] G A G_q A_q ∧ G_q 61 = us2 ∧ (((u = 0) ∧ (us2 = us) ∧ (A_q = A)) ∨ ((1 ≤ u) ∧ (us ≤ us2) ∧ (us2 ≤ us + 1) ∧ (adR A A_q (uf) (us) (us2) (s) (al) (el) (u))))) := by
  have hF0 : Fr [61] [39, 40, 41, 42] G A G A := Fr_rf
  have b_uf : (-2147483648 : Int) ≤ uf ∧ uf ≤ 2147483647 := e_uf ▸ hW.1 62
  have b_us : (-2147483648 : Int) ≤ us ∧ us ≤ 2147483647 := e_us ▸ hW.1 61
  intro m
  induction m using Nat.strongRecOn with
  | ind m ih12 =>
    intro L Gx Ax i hm gL_0 gL_1 gL_2 gL_3 gL_4 gL_5 hWx hFx fx_61 rx_i iv_0 iv_1 iv_2 iv_3 iv_4
    refine jx_ld (pc_q := 14) (l_q := L) (st_q := [.int (i32 (i))]) rfl (jl_iload gL_5) ?_
    refine jx_ld (pc_q := 15) (l_q := L) (st_q := [.ref 66, .int (i32 (i))]) rfl (jl_aloadn gL_0) ?_
    refine jr_get (pc_q := 18) (i := 61) (v := .int (i32 (us))) rfl rfl (by decide) (rFv_eq (by decide) (show Gx 61 = us from (fx_61))) rfl ?_
    refine jx_icmp_ge (pc_q := 21) (tg := 82) rfl rfl rfl (Int.le_trans (by decide : (-2147483648 : Int) ≤ -2147483648) rx_i.1) (Int.le_trans rx_i.2 (by decide : (2147483647 : Int) ≤ 2147483647)) (Int.le_trans (by decide : (-2147483648 : Int) ≤ -2147483648) b_us.1) (Int.le_trans b_us.2 (by decide : (2147483647 : Int) ≤ 2147483647)) (fun h1 => ?_) (fun h1 => ?_)
    · have _q := h1
      refine jx_ld (pc_q := 83) (l_q := L) (st_q := [.ref 66]) rfl (jl_aloadn gL_0) ?_
      refine jr_get (pc_q := 86) (i := 63) (v := .ref 106) rfl rfl (by decide) rfl rfl ?_
      refine jx_ld (pc_q := 87) (l_q := L) (st_q := [.ref 66, .ref 106]) rfl (jl_aloadn gL_0) ?_
      refine jr_get (pc_q := 90) (i := 61) (v := .int (i32 (us))) rfl rfl (by decide) (rFv_eq (by decide) (show Gx 61 = us from (fx_61))) rfl ?_
      refine jx_ld (pc_q := 91) (l_q := L) (st_q := [.int (i32 (s)), .int (i32 (us)), .ref 106]) rfl (jl_iloadn gL_1) ?_
      refine jr_st (pc_q := 92) (i := 39) (m := 60000) (z := us) (y := s) rfl (by decide) rfl (by decide) (by omega) (by omega) rfl ?_
      have hW3 : Wk Gx (uA Ax 39 (us).toNat (s)) := Wk_a hWx (show (-2147483648 : Int) ≤ s by omega) (show s ≤ (2147483647 : Int) by omega)
      have hF4 := Fr_a (z := s) (k := 39) (n := (us).toNat) hFx (by decide)
      obtain ⟨A2, eA2⟩ : ∃ q, q = uA Ax 39 (us).toNat (s) := ⟨_, rfl⟩
      rw [← eA2]
      rw [← eA2] at hW3 hF4
      have q5 : A2 39 (us).toNat = s := by rw [eA2]; exact uA_eq
      refine jx_ld (pc_q := 93) (l_q := L) (st_q := [.ref 66]) rfl (jl_aloadn gL_0) ?_
      refine jr_get (pc_q := 96) (i := 64) (v := .ref 107) rfl rfl (by decide) rfl rfl ?_
      refine jx_ld (pc_q := 97) (l_q := L) (st_q := [.ref 66, .ref 107]) rfl (jl_aloadn gL_0) ?_
      refine jr_get (pc_q := 100) (i := 61) (v := .int (i32 (us))) rfl rfl (by decide) (rFv_eq (by decide) (show Gx 61 = us from (fx_61))) rfl ?_
      refine jx_ld (pc_q := 101) (l_q := L) (st_q := [.int (i32 (al)), .int (i32 (us)), .ref 107]) rfl (jl_iloadn gL_3) ?_
      refine jx_if_eq (pc_q := 104) (tg := 108) rfl rfl rfl (Int.le_trans (by decide : (-2147483648 : Int) ≤ 0) h_al.1) (Int.le_trans h_al.2 (by decide : (1 : Int) ≤ 2147483647)) (fun h6 => ?_) (fun h6 => ?_)
      · have _q := h6
        refine jx_ld (pc_q := 109) (l_q := L) (st_q := [.int (i32 (el)), .int (i32 (us)), .ref 107]) rfl (jl_iloadn gL_2) ?_
        refine jr_st (pc_q := 110) (i := 40) (m := 60000) (z := us) (y := el) rfl (by decide) rfl (by decide) (by omega) (by omega) rfl ?_
        have hW8 : Wk Gx (uA A2 40 (us).toNat (el)) := Wk_a hW3 (show (-2147483648 : Int) ≤ el by omega) (show el ≤ (2147483647 : Int) by omega)
        have hF9 := Fr_a (z := el) (k := 40) (n := (us).toNat) hF4 (by decide)
        obtain ⟨A7, eA7⟩ : ∃ q, q = uA A2 40 (us).toNat (el) := ⟨_, rfl⟩
        rw [← eA7]
        rw [← eA7] at hW8 hF9
        have q10 : A7 40 (us).toNat = el := by rw [eA7]; exact uA_eq
        refine jx_ld (pc_q := 111) (l_q := L) (st_q := [.ref 66]) rfl (jl_aloadn gL_0) ?_
        refine jr_get (pc_q := 114) (i := 65) (v := .ref 108) rfl rfl (by decide) rfl rfl ?_
        refine jx_ld (pc_q := 115) (l_q := L) (st_q := [.ref 66, .ref 108]) rfl (jl_aloadn gL_0) ?_
        refine jr_get (pc_q := 118) (i := 61) (v := .int (i32 (us))) rfl rfl (by decide) (rFv_eq (by decide) (show Gx 61 = us from (fx_61))) rfl ?_
        refine jx_ld (pc_q := 119) (l_q := L) (st_q := [.int (i32 (al)), .int (i32 (us)), .ref 108]) rfl (jl_iloadn gL_3) ?_
        refine jr_sb (pc_q := 120) (i := 41) (m := 60000) (z := us) (y := al) rfl (by decide) rfl (by decide) (by omega) (by omega) (by omega) rfl ?_
        have hW12 : Wk Gx (uA A7 41 (us).toNat (al)) := Wk_a hW8 (show (0 : Int) ≤ al by omega) (show al ≤ (1 : Int) by omega)
        have hF13 := Fr_a (z := al) (k := 41) (n := (us).toNat) hF9 (by decide)
        obtain ⟨A11, eA11⟩ : ∃ q, q = uA A7 41 (us).toNat (al) := ⟨_, rfl⟩
        rw [← eA11]
        rw [← eA11] at hW12 hF13
        have q14 : A11 41 (us).toNat = al := by rw [eA11]; exact uA_eq
        refine jx_ld (pc_q := 121) (l_q := L) (st_q := [.ref 66]) rfl (jl_aloadn gL_0) ?_
        refine jr_get (pc_q := 124) (i := 66) (v := .ref 109) rfl rfl (by decide) rfl rfl ?_
        refine jx_ld (pc_q := 125) (l_q := L) (st_q := [.ref 66, .ref 109]) rfl (jl_aloadn gL_0) ?_
        refine jr_get (pc_q := 128) (i := 61) (v := .int (i32 (us))) rfl rfl (by decide) (rFv_eq (by decide) (show Gx 61 = us from (fx_61))) rfl ?_
        refine jx_ld (pc_q := 130) (l_q := L) (st_q := [.int (i32 (u)), .int (i32 (us)), .ref 109]) rfl (jl_iload gL_4) ?_
        refine jr_st (pc_q := 131) (i := 42) (m := 60000) (z := us) (y := u) rfl (by decide) rfl (by decide) (by omega) (by omega) rfl ?_
        have hW16 : Wk Gx (uA A11 42 (us).toNat (u)) := Wk_a hW12 (show (-2147483648 : Int) ≤ u by omega) (show u ≤ (2147483647 : Int) by omega)
        have hF17 := Fr_a (z := u) (k := 42) (n := (us).toNat) hF13 (by decide)
        obtain ⟨A15, eA15⟩ : ∃ q, q = uA A11 42 (us).toNat (u) := ⟨_, rfl⟩
        rw [← eA15]
        rw [← eA15] at hW16 hF17
        have q18 : A15 42 (us).toNat = u := by rw [eA15]; exact uA_eq
        refine jx_ld (pc_q := 132) (l_q := L) (st_q := [.ref 66]) rfl (jl_aloadn gL_0) ?_
        refine jx_ar (pc_q := 133) (st_q := [.ref 66, .ref 66]) rfl rfl rfl rfl ?_
        refine jr_get (pc_q := 136) (i := 61) (v := .int (i32 (us))) rfl rfl (by decide) (rFv_eq (by decide) (show Gx 61 = us from (fx_61))) rfl ?_
        refine jx_ar (pc_q := 137) (st_q := [.int (i32 (1)), .int (i32 (us)), .ref 66]) rfl rfl rfl rfl ?_
        refine jx_add (pc_q := 138) rfl rfl ?_
        refine jr_put (pc_q := 141) (i := 61) (z := (us + 1)) rfl rfl (by decide) rfl rfl rfl rfl rfl rfl ?_
        have hW19 : Wk (uG Gx 61 ((us + 1))) A15 := Wk_g hW16 (show (-2147483648 : Int) ≤ (us + 1) by omega) (show (us + 1) ≤ (2147483647 : Int) by omega)
        have hF20 := Fr_g (z := (us + 1)) (i := 61) hF17 (by decide)
        refine jx_rt (v := none) rfl rfl rfl rfl rfl rfl ?_
        exact ⟨_, _, (us + 1), rfl, rfl, hW19, hF20, rfl, by first | exact Or.inl (⟨by omega, by omega, iv_3⟩) | exact Or.inr ((⟨by omega, by omega, by omega, (adR_a iv_3 eA2 eA7 eA11 eA15 (by omega) (by omega) (NF_e iv_4 (by omega)))⟩))⟩
      · have _q := h6
        refine jx_ar (pc_q := 105) (st_q := [.int (i32 (0)), .int (i32 (us)), .ref 107]) rfl rfl rfl rfl ?_
        refine jx_go (tg := 109) rfl rfl ?_
        refine jr_st (pc_q := 110) (i := 40) (m := 60000) (z := us) (y := 0) rfl (by decide) rfl (by decide) (by omega) (by omega) rfl ?_
        have hW22 : Wk Gx (uA A2 40 (us).toNat (0)) := Wk_a hW3 (show (-2147483648 : Int) ≤ 0 by omega) (show 0 ≤ (2147483647 : Int) by omega)
        have hF23 := Fr_a (z := 0) (k := 40) (n := (us).toNat) hF4 (by decide)
        obtain ⟨A21, eA21⟩ : ∃ q, q = uA A2 40 (us).toNat (0) := ⟨_, rfl⟩
        rw [← eA21]
        rw [← eA21] at hW22 hF23
        have q24 : A21 40 (us).toNat = 0 := by rw [eA21]; exact uA_eq
        refine jx_ld (pc_q := 111) (l_q := L) (st_q := [.ref 66]) rfl (jl_aloadn gL_0) ?_
        refine jr_get (pc_q := 114) (i := 65) (v := .ref 108) rfl rfl (by decide) rfl rfl ?_
        refine jx_ld (pc_q := 115) (l_q := L) (st_q := [.ref 66, .ref 108]) rfl (jl_aloadn gL_0) ?_
        refine jr_get (pc_q := 118) (i := 61) (v := .int (i32 (us))) rfl rfl (by decide) (rFv_eq (by decide) (show Gx 61 = us from (fx_61))) rfl ?_
        refine jx_ld (pc_q := 119) (l_q := L) (st_q := [.int (i32 (al)), .int (i32 (us)), .ref 108]) rfl (jl_iloadn gL_3) ?_
        refine jr_sb (pc_q := 120) (i := 41) (m := 60000) (z := us) (y := al) rfl (by decide) rfl (by decide) (by omega) (by omega) (by omega) rfl ?_
        have hW26 : Wk Gx (uA A21 41 (us).toNat (al)) := Wk_a hW22 (show (0 : Int) ≤ al by omega) (show al ≤ (1 : Int) by omega)
        have hF27 := Fr_a (z := al) (k := 41) (n := (us).toNat) hF23 (by decide)
        obtain ⟨A25, eA25⟩ : ∃ q, q = uA A21 41 (us).toNat (al) := ⟨_, rfl⟩
        rw [← eA25]
        rw [← eA25] at hW26 hF27
        have q28 : A25 41 (us).toNat = al := by rw [eA25]; exact uA_eq
        refine jx_ld (pc_q := 121) (l_q := L) (st_q := [.ref 66]) rfl (jl_aloadn gL_0) ?_
        refine jr_get (pc_q := 124) (i := 66) (v := .ref 109) rfl rfl (by decide) rfl rfl ?_
        refine jx_ld (pc_q := 125) (l_q := L) (st_q := [.ref 66, .ref 109]) rfl (jl_aloadn gL_0) ?_
        refine jr_get (pc_q := 128) (i := 61) (v := .int (i32 (us))) rfl rfl (by decide) (rFv_eq (by decide) (show Gx 61 = us from (fx_61))) rfl ?_
        refine jx_ld (pc_q := 130) (l_q := L) (st_q := [.int (i32 (u)), .int (i32 (us)), .ref 109]) rfl (jl_iload gL_4) ?_
        refine jr_st (pc_q := 131) (i := 42) (m := 60000) (z := us) (y := u) rfl (by decide) rfl (by decide) (by omega) (by omega) rfl ?_
        have hW30 : Wk Gx (uA A25 42 (us).toNat (u)) := Wk_a hW26 (show (-2147483648 : Int) ≤ u by omega) (show u ≤ (2147483647 : Int) by omega)
        have hF31 := Fr_a (z := u) (k := 42) (n := (us).toNat) hF27 (by decide)
        obtain ⟨A29, eA29⟩ : ∃ q, q = uA A25 42 (us).toNat (u) := ⟨_, rfl⟩
        rw [← eA29]
        rw [← eA29] at hW30 hF31
        have q32 : A29 42 (us).toNat = u := by rw [eA29]; exact uA_eq
        refine jx_ld (pc_q := 132) (l_q := L) (st_q := [.ref 66]) rfl (jl_aloadn gL_0) ?_
        refine jx_ar (pc_q := 133) (st_q := [.ref 66, .ref 66]) rfl rfl rfl rfl ?_
        refine jr_get (pc_q := 136) (i := 61) (v := .int (i32 (us))) rfl rfl (by decide) (rFv_eq (by decide) (show Gx 61 = us from (fx_61))) rfl ?_
        refine jx_ar (pc_q := 137) (st_q := [.int (i32 (1)), .int (i32 (us)), .ref 66]) rfl rfl rfl rfl ?_
        refine jx_add (pc_q := 138) rfl rfl ?_
        refine jr_put (pc_q := 141) (i := 61) (z := (us + 1)) rfl rfl (by decide) rfl rfl rfl rfl rfl rfl ?_
        have hW33 : Wk (uG Gx 61 ((us + 1))) A29 := Wk_g hW30 (show (-2147483648 : Int) ≤ (us + 1) by omega) (show (us + 1) ≤ (2147483647 : Int) by omega)
        have hF34 := Fr_g (z := (us + 1)) (i := 61) hF31 (by decide)
        refine jx_rt (v := none) rfl rfl rfl rfl rfl rfl ?_
        exact ⟨_, _, (us + 1), rfl, rfl, hW33, hF34, rfl, by first | exact Or.inl (⟨by omega, by omega, iv_3⟩) | exact Or.inr ((⟨by omega, by omega, by omega, (adR_a iv_3 eA2 eA21 eA25 eA29 (by omega) (by omega) (NF_e iv_4 (by omega)))⟩))⟩
    · have _q := h1
      refine jx_ld (pc_q := 22) (l_q := L) (st_q := [.ref 66]) rfl (jl_aloadn gL_0) ?_
      refine jr_get (pc_q := 25) (i := 63) (v := .ref 106) rfl rfl (by decide) rfl rfl ?_
      refine jx_ld (pc_q := 27) (l_q := L) (st_q := [.int (i32 (i)), .ref 106]) rfl (jl_iload gL_5) ?_
      have b35 : (-2147483648 : Int) ≤ Ax 39 (i).toNat ∧ Ax 39 (i).toNat ≤ 2147483647 := hWx.2 39 _
      refine jr_ldv (pc_q := 28) (i := 39) (m := 60000) (z := i) (y := Ax 39 (i).toNat) rfl (by decide) rfl (by decide) (by omega) (by omega) rfl (show Ax 39 (i).toNat = Ax 39 (i).toNat from rfl) ?_
      refine jx_ld (pc_q := 29) (l_q := L) (st_q := [.int (i32 (s)), .int (i32 (Ax 39 (i).toNat))]) rfl (jl_iloadn gL_1) ?_
      refine jx_icmp_ne (pc_q := 32) (tg := 76) rfl rfl rfl (Int.le_trans (by decide : (-2147483648 : Int) ≤ -2147483648) b35.1) (Int.le_trans b35.2 (by decide : (2147483647 : Int) ≤ 2147483647)) (Int.le_trans (by decide : (-2147483648 : Int) ≤ -2147483648) h_s.1) (Int.le_trans h_s.2 (by decide : (2147483647 : Int) ≤ 2147483647)) (fun h36 => ?_) (fun h36 => ?_)
      · have _q := h36
        refine jx_inc (pc_q := 79) (l_q := jSto1 L 5 (.int (i32 ((i + (1)))))) (x := i) rfl gL_5 (by decide) rfl rfl ?_
        obtain ⟨L37, eL37⟩ : ∃ q, q = jSto1 L 5 (.int (i32 ((i + (1))))) := ⟨_, rfl⟩
        rw [← eL37]
        have gL37_0 : jGet L37 0 = some (.ref 66) := eL37 ▸ jg_ne (by decide) gL_0 rfl
        have gL37_1 : jGet L37 1 = some (.int (i32 (s))) := eL37 ▸ jg_ne (by decide) gL_1 rfl
        have gL37_2 : jGet L37 2 = some (.int (i32 (el))) := eL37 ▸ jg_ne (by decide) gL_2 rfl
        have gL37_3 : jGet L37 3 = some (.int (i32 (al))) := eL37 ▸ jg_ne (by decide) gL_3 rfl
        have gL37_4 : jGet L37 4 = some (.int (i32 (u))) := eL37 ▸ jg_ne (by decide) gL_4 rfl
        have gL37_5 : jGet L37 5 = some (.int (i32 ((i + (1))))) := eL37 ▸ jg_eq
        refine jx_go (tg := 12) rfl rfl ?_
        exact ih12 _ (by omega) L37 Gx Ax ((i + (1))) rfl gL37_0 gL37_1 gL37_2 gL37_3 gL37_4 gL37_5 hWx hFx ((fx_61)) (by omega) (by omega) (by omega) (by omega) (iv_3) ((NF_nx iv_4 (by omega) (fun w => by have w1 := w.1; have w2 := w.2.1; have w3 := w.2.2; omega)))
      · have _q := h36
        refine jx_ld (pc_q := 33) (l_q := L) (st_q := [.ref 66]) rfl (jl_aloadn gL_0) ?_
        refine jr_get (pc_q := 36) (i := 65) (v := .ref 108) rfl rfl (by decide) rfl rfl ?_
        refine jx_ld (pc_q := 38) (l_q := L) (st_q := [.int (i32 (i)), .ref 108]) rfl (jl_iload gL_5) ?_
        have b38 : (0 : Int) ≤ Ax 41 (i).toNat ∧ Ax 41 (i).toNat ≤ 1 := hWx.2 41 _
        refine jr_lbv (pc_q := 39) (i := 41) (m := 60000) (z := i) (y := Ax 41 (i).toNat) rfl (by decide) rfl (by decide) (by omega) (by omega) rfl (show Ax 41 (i).toNat = Ax 41 (i).toNat from rfl) ?_
        refine jx_ld (pc_q := 40) (l_q := L) (st_q := [.int (i32 (al)), .int (i32 (Ax 41 (i).toNat))]) rfl (jl_iloadn gL_3) ?_
        refine jx_icmp_ne (pc_q := 43) (tg := 76) rfl rfl rfl (Int.le_trans (by decide : (-2147483648 : Int) ≤ 0) b38.1) (Int.le_trans b38.2 (by decide : (1 : Int) ≤ 2147483647)) (Int.le_trans (by decide : (-2147483648 : Int) ≤ 0) h_al.1) (Int.le_trans h_al.2 (by decide : (1 : Int) ≤ 2147483647)) (fun h39 => ?_) (fun h39 => ?_)
        · have _q := h39
          refine jx_inc (pc_q := 79) (l_q := jSto1 L 5 (.int (i32 ((i + (1)))))) (x := i) rfl gL_5 (by decide) rfl rfl ?_
          obtain ⟨L40, eL40⟩ : ∃ q, q = jSto1 L 5 (.int (i32 ((i + (1))))) := ⟨_, rfl⟩
          rw [← eL40]
          have gL40_0 : jGet L40 0 = some (.ref 66) := eL40 ▸ jg_ne (by decide) gL_0 rfl
          have gL40_1 : jGet L40 1 = some (.int (i32 (s))) := eL40 ▸ jg_ne (by decide) gL_1 rfl
          have gL40_2 : jGet L40 2 = some (.int (i32 (el))) := eL40 ▸ jg_ne (by decide) gL_2 rfl
          have gL40_3 : jGet L40 3 = some (.int (i32 (al))) := eL40 ▸ jg_ne (by decide) gL_3 rfl
          have gL40_4 : jGet L40 4 = some (.int (i32 (u))) := eL40 ▸ jg_ne (by decide) gL_4 rfl
          have gL40_5 : jGet L40 5 = some (.int (i32 ((i + (1))))) := eL40 ▸ jg_eq
          refine jx_go (tg := 12) rfl rfl ?_
          exact ih12 _ (by omega) L40 Gx Ax ((i + (1))) rfl gL40_0 gL40_1 gL40_2 gL40_3 gL40_4 gL40_5 hWx hFx ((fx_61)) (by omega) (by omega) (by omega) (by omega) (iv_3) ((NF_nx iv_4 (by omega) (fun w => by have w1 := w.1; have w2 := w.2.1; have w3 := w.2.2; omega)))
        · have _q := h39
          refine jx_ld (pc_q := 44) (l_q := L) (st_q := [.int (i32 (al))]) rfl (jl_iloadn gL_3) ?_
          refine jx_if_ne (pc_q := 47) (tg := 58) rfl rfl rfl (Int.le_trans (by decide : (-2147483648 : Int) ≤ 0) h_al.1) (Int.le_trans h_al.2 (by decide : (1 : Int) ≤ 2147483647)) (fun h41 => ?_) (fun h41 => ?_)
          · have _q := h41
            refine jx_ld (pc_q := 59) (l_q := L) (st_q := [.ref 66]) rfl (jl_aloadn gL_0) ?_
            refine jr_get (pc_q := 62) (i := 66) (v := .ref 109) rfl rfl (by decide) rfl rfl ?_
            refine jx_ld (pc_q := 64) (l_q := L) (st_q := [.int (i32 (i)), .ref 109]) rfl (jl_iload gL_5) ?_
            refine jx_ld (pc_q := 65) (l_q := L) (st_q := [.ref 66, .int (i32 (i)), .ref 109]) rfl (jl_aloadn gL_0) ?_
            refine jr_get (pc_q := 68) (i := 66) (v := .ref 109) rfl rfl (by decide) rfl rfl ?_
            refine jx_ld (pc_q := 70) (l_q := L) (st_q := [.int (i32 (i)), .ref 109, .int (i32 (i)), .ref 109]) rfl (jl_iload gL_5) ?_
            have b42 : (-2147483648 : Int) ≤ Ax 42 (i).toNat ∧ Ax 42 (i).toNat ≤ 2147483647 := hWx.2 42 _
            refine jr_ldv (pc_q := 71) (i := 42) (m := 60000) (z := i) (y := Ax 42 (i).toNat) rfl (by decide) rfl (by decide) (by omega) (by omega) rfl (show Ax 42 (i).toNat = Ax 42 (i).toNat from rfl) ?_
            refine jx_ld (pc_q := 73) (l_q := L) (st_q := [.int (i32 (u)), .int (i32 (Ax 42 (i).toNat)), .int (i32 (i)), .ref 109]) rfl (jl_iload gL_4) ?_
            refine jx_or (pc_q := 74) rfl rfl ?_
            obtain ⟨b43, eb43⟩ : ∃ z, z = (i32 (Ax 42 (i).toNat) ||| i32 (u)).toInt := ⟨_, rfl⟩
            rw [← eb43]
            have rb43 : (-2147483648 : Int) ≤ b43 ∧ b43 ≤ 2147483647 := eb43 ▸ i32_rg _
            refine jr_st (pc_q := 75) (i := 42) (m := 60000) (z := i) (y := b43) rfl (by decide) rfl (by decide) (by omega) (by omega) rfl ?_
            have hW45 : Wk Gx (uA Ax 42 (i).toNat (b43)) := Wk_a hWx (show (-2147483648 : Int) ≤ b43 by omega) (show b43 ≤ (2147483647 : Int) by omega)
            have hF46 := Fr_a (z := b43) (k := 42) (n := (i).toNat) hFx (by decide)
            obtain ⟨A44, eA44⟩ : ∃ q, q = uA Ax 42 (i).toNat (b43) := ⟨_, rfl⟩
            rw [← eA44]
            rw [← eA44] at hW45 hF46
            have q47 : A44 42 (i).toNat = b43 := by rw [eA44]; exact uA_eq
            refine jx_rt (v := none) rfl rfl rfl rfl rfl rfl ?_
            exact ⟨_, _, us, rfl, rfl, hW45, hF46, (fx_61), by first | exact Or.inl (⟨by omega, by omega, iv_3⟩) | exact Or.inr ((⟨by omega, by omega, by omega, (adR_m iv_3 eA44 (by omega) (by omega) (by omega) eb43 ⟨by omega, by omega, by omega⟩)⟩))⟩
          · have _q := h41
            refine jx_ld (pc_q := 48) (l_q := L) (st_q := [.ref 66]) rfl (jl_aloadn gL_0) ?_
            refine jr_get (pc_q := 51) (i := 64) (v := .ref 107) rfl rfl (by decide) rfl rfl ?_
            refine jx_ld (pc_q := 53) (l_q := L) (st_q := [.int (i32 (i)), .ref 107]) rfl (jl_iload gL_5) ?_
            have b48 : (-2147483648 : Int) ≤ Ax 40 (i).toNat ∧ Ax 40 (i).toNat ≤ 2147483647 := hWx.2 40 _
            refine jr_ldv (pc_q := 54) (i := 40) (m := 60000) (z := i) (y := Ax 40 (i).toNat) rfl (by decide) rfl (by decide) (by omega) (by omega) rfl (show Ax 40 (i).toNat = Ax 40 (i).toNat from rfl) ?_
            refine jx_ld (pc_q := 55) (l_q := L) (st_q := [.int (i32 (el)), .int (i32 (Ax 40 (i).toNat))]) rfl (jl_iloadn gL_2) ?_
            refine jx_icmp_ne (pc_q := 58) (tg := 76) rfl rfl rfl (Int.le_trans (by decide : (-2147483648 : Int) ≤ -2147483648) b48.1) (Int.le_trans b48.2 (by decide : (2147483647 : Int) ≤ 2147483647)) (Int.le_trans (by decide : (-2147483648 : Int) ≤ -2147483648) h_el.1) (Int.le_trans h_el.2 (by decide : (2147483647 : Int) ≤ 2147483647)) (fun h49 => ?_) (fun h49 => ?_)
            · have _q := h49
              refine jx_inc (pc_q := 79) (l_q := jSto1 L 5 (.int (i32 ((i + (1)))))) (x := i) rfl gL_5 (by decide) rfl rfl ?_
              obtain ⟨L50, eL50⟩ : ∃ q, q = jSto1 L 5 (.int (i32 ((i + (1))))) := ⟨_, rfl⟩
              rw [← eL50]
              have gL50_0 : jGet L50 0 = some (.ref 66) := eL50 ▸ jg_ne (by decide) gL_0 rfl
              have gL50_1 : jGet L50 1 = some (.int (i32 (s))) := eL50 ▸ jg_ne (by decide) gL_1 rfl
              have gL50_2 : jGet L50 2 = some (.int (i32 (el))) := eL50 ▸ jg_ne (by decide) gL_2 rfl
              have gL50_3 : jGet L50 3 = some (.int (i32 (al))) := eL50 ▸ jg_ne (by decide) gL_3 rfl
              have gL50_4 : jGet L50 4 = some (.int (i32 (u))) := eL50 ▸ jg_ne (by decide) gL_4 rfl
              have gL50_5 : jGet L50 5 = some (.int (i32 ((i + (1))))) := eL50 ▸ jg_eq
              refine jx_go (tg := 12) rfl rfl ?_
              exact ih12 _ (by omega) L50 Gx Ax ((i + (1))) rfl gL50_0 gL50_1 gL50_2 gL50_3 gL50_4 gL50_5 hWx hFx ((fx_61)) (by omega) (by omega) (by omega) (by omega) (iv_3) ((NF_nx iv_4 (by omega) (fun w => by have w1 := w.1; have w2 := w.2.1; have w3 := w.2.2; omega)))
            · have _q := h49
              refine jx_ld (pc_q := 59) (l_q := L) (st_q := [.ref 66]) rfl (jl_aloadn gL_0) ?_
              refine jr_get (pc_q := 62) (i := 66) (v := .ref 109) rfl rfl (by decide) rfl rfl ?_
              refine jx_ld (pc_q := 64) (l_q := L) (st_q := [.int (i32 (i)), .ref 109]) rfl (jl_iload gL_5) ?_
              refine jx_ld (pc_q := 65) (l_q := L) (st_q := [.ref 66, .int (i32 (i)), .ref 109]) rfl (jl_aloadn gL_0) ?_
              refine jr_get (pc_q := 68) (i := 66) (v := .ref 109) rfl rfl (by decide) rfl rfl ?_
              refine jx_ld (pc_q := 70) (l_q := L) (st_q := [.int (i32 (i)), .ref 109, .int (i32 (i)), .ref 109]) rfl (jl_iload gL_5) ?_
              have b51 : (-2147483648 : Int) ≤ Ax 42 (i).toNat ∧ Ax 42 (i).toNat ≤ 2147483647 := hWx.2 42 _
              refine jr_ldv (pc_q := 71) (i := 42) (m := 60000) (z := i) (y := Ax 42 (i).toNat) rfl (by decide) rfl (by decide) (by omega) (by omega) rfl (show Ax 42 (i).toNat = Ax 42 (i).toNat from rfl) ?_
              refine jx_ld (pc_q := 73) (l_q := L) (st_q := [.int (i32 (u)), .int (i32 (Ax 42 (i).toNat)), .int (i32 (i)), .ref 109]) rfl (jl_iload gL_4) ?_
              refine jx_or (pc_q := 74) rfl rfl ?_
              obtain ⟨b52, eb52⟩ : ∃ z, z = (i32 (Ax 42 (i).toNat) ||| i32 (u)).toInt := ⟨_, rfl⟩
              rw [← eb52]
              have rb52 : (-2147483648 : Int) ≤ b52 ∧ b52 ≤ 2147483647 := eb52 ▸ i32_rg _
              refine jr_st (pc_q := 75) (i := 42) (m := 60000) (z := i) (y := b52) rfl (by decide) rfl (by decide) (by omega) (by omega) rfl ?_
              have hW54 : Wk Gx (uA Ax 42 (i).toNat (b52)) := Wk_a hWx (show (-2147483648 : Int) ≤ b52 by omega) (show b52 ≤ (2147483647 : Int) by omega)
              have hF55 := Fr_a (z := b52) (k := 42) (n := (i).toNat) hFx (by decide)
              obtain ⟨A53, eA53⟩ : ∃ q, q = uA Ax 42 (i).toNat (b52) := ⟨_, rfl⟩
              rw [← eA53]
              rw [← eA53] at hW54 hF55
              have q56 : A53 42 (i).toNat = b52 := by rw [eA53]; exact uA_eq
              refine jx_rt (v := none) rfl rfl rfl rfl rfl rfl ?_
              exact ⟨_, _, us, rfl, rfl, hW54, hF55, (fx_61), by first | exact Or.inl (⟨by omega, by omega, iv_3⟩) | exact Or.inr ((⟨by omega, by omega, by omega, (adR_m iv_3 eA53 (by omega) (by omega) (by omega) eb52 ⟨by omega, by omega, by omega⟩)⟩))⟩
set_option maxRecDepth 20000 in
set_option maxHeartbeats 4000000 in
theorem c_addUse_x {X : jX} {dd : Nat} {c0 c1 : jC} {G : Nat → Int} {A : Nat → Nat → Int} {T : jH} {s el al u : Int} {uf us : Int} (hd : 1 ≤ dd) (hW : Wk G A) (e_uf : G 62 = uf) (e_us : G 61 = us) (h_s : (-2147483648 : Int) ≤ s ∧ s ≤ 2147483647) (h_el : (-2147483648 : Int) ≤ el ∧ el ≤ 2147483647) (h_al : (0 : Int) ≤ al ∧ al ≤ 1) (h_u : (-2147483648 : Int) ≤ u ∧ u ≤ 2147483647) (p_0 : 0 ≤ uf) (p_1 : uf ≤ us) (p_2 : us ≤ 59999) (p_3 : 0 ≤ u) (p_4 : u ≤ 15) (p_5 : 0 ≤ s) (p_6 : s ≤ 259) (p_7 : 0 ≤ al) (p_8 : (∀ j : Int, 0 ≤ j → j < us → 0 ≤ A 42 (j).toNat ∧ A 42 (j).toNat ≤ 15)) : wk X dd 323 [.ref 66, .int (i32 s), .int (i32 el), .int (i32 al), .int (i32 u)] (rV c0 c1 G A T) (fun o V_q => ∃ (G_q : Nat → Int) (A_q : Nat → Nat → Int) (us2 : Int), V_q = rV c0 c1 G_q A_q T ∧ o = .inl none ∧ Wk G_q A_q ∧ Fr [61] [39, 40, 41, 42] G A G_q A_q ∧ G_q 61 = us2 ∧ (((u = 0) ∧ (us2 = us) ∧ (A_q = A)) ∨ ((1 ≤ u) ∧ (us ≤ us2) ∧ (us2 ≤ us + 1) ∧ (adR A A_q (uf) (us) (us2) (s) (al) (el) (u))))) := by
  obtain ⟨d, rfl⟩ : ∃ d, dd = d + 1 := ⟨dd - 1, by omega⟩
  refine wk_of (e := jm323) rfl (Nat.le_of_ble_eq_true rfl) ?_
  show wj X d jm323 (0, [(0, .ref 66), (1, .int (i32 (s))), (2, .int (i32 (el))), (3, .int (i32 (al))), (4, .int (i32 (u)))], [], rV c0 c1 G A T) _
  have hF0 : Fr [61] [39, 40, 41, 42] G A G A := Fr_rf
  have b_uf : (-2147483648 : Int) ≤ uf ∧ uf ≤ 2147483647 := e_uf ▸ hW.1 62
  have b_us : (-2147483648 : Int) ≤ us ∧ us ≤ 2147483647 := e_us ▸ hW.1 61
  refine jx_ld (pc_q := 2) (l_q := [(0, .ref 66), (1, .int (i32 (s))), (2, .int (i32 (el))), (3, .int (i32 (al))), (4, .int (i32 (u)))]) (st_q := [.int (i32 (u))]) rfl (jl_iload rfl) ?_
  refine jx_if_ne (pc_q := 5) (tg := 6) rfl rfl rfl (Int.le_trans (by decide : (-2147483648 : Int) ≤ -2147483648) h_u.1) (Int.le_trans h_u.2 (by decide : (2147483647 : Int) ≤ 2147483647)) (fun h57 => ?_) (fun h57 => ?_)
  · have _q := h57
    refine jx_ld (pc_q := 7) (l_q := [(0, .ref 66), (1, .int (i32 (s))), (2, .int (i32 (el))), (3, .int (i32 (al))), (4, .int (i32 (u)))]) (st_q := [.ref 66]) rfl (jl_aloadn rfl) ?_
    refine jr_get (pc_q := 10) (i := 62) (v := .int (i32 (uf))) rfl rfl (by decide) (rFv_eq (by decide) (show G 62 = uf from (e_uf))) rfl ?_
    refine jx_ld (pc_q := 12) (l_q := jSto1 [(0, .ref 66), (1, .int (i32 (s))), (2, .int (i32 (el))), (3, .int (i32 (al))), (4, .int (i32 (u)))] 5 (.int (i32 (uf)))) (st_q := []) rfl rfl ?_
    obtain ⟨L58, eL58⟩ : ∃ q, q = jSto1 [(0, .ref 66), (1, .int (i32 (s))), (2, .int (i32 (el))), (3, .int (i32 (al))), (4, .int (i32 (u)))] 5 (.int (i32 (uf))) := ⟨_, rfl⟩
    rw [← eL58]
    have gL58_0 : jGet L58 0 = some (.ref 66) := eL58 ▸ jg_ne (by decide) (rfl : jGet [(0, .ref 66), (1, .int (i32 (s))), (2, .int (i32 (el))), (3, .int (i32 (al))), (4, .int (i32 (u)))] 0 = some (.ref 66)) rfl
    have gL58_1 : jGet L58 1 = some (.int (i32 (s))) := eL58 ▸ jg_ne (by decide) (rfl : jGet [(0, .ref 66), (1, .int (i32 (s))), (2, .int (i32 (el))), (3, .int (i32 (al))), (4, .int (i32 (u)))] 1 = some (.int (i32 (s)))) rfl
    have gL58_2 : jGet L58 2 = some (.int (i32 (el))) := eL58 ▸ jg_ne (by decide) (rfl : jGet [(0, .ref 66), (1, .int (i32 (s))), (2, .int (i32 (el))), (3, .int (i32 (al))), (4, .int (i32 (u)))] 2 = some (.int (i32 (el)))) rfl
    have gL58_3 : jGet L58 3 = some (.int (i32 (al))) := eL58 ▸ jg_ne (by decide) (rfl : jGet [(0, .ref 66), (1, .int (i32 (s))), (2, .int (i32 (el))), (3, .int (i32 (al))), (4, .int (i32 (u)))] 3 = some (.int (i32 (al)))) rfl
    have gL58_4 : jGet L58 4 = some (.int (i32 (u))) := eL58 ▸ jg_ne (by decide) (rfl : jGet [(0, .ref 66), (1, .int (i32 (s))), (2, .int (i32 (el))), (3, .int (i32 (al))), (4, .int (i32 (u)))] 4 = some (.int (i32 (u)))) rfl
    have gL58_5 : jGet L58 5 = some (.int (i32 (uf))) := eL58 ▸ jg_eq
    exact c_addUse_x_at_12 (X := X) (d := d) (c0 := c0) (c1 := c1) (G := G) (A := A) (T := T) (s := s) (el := el) (al := al) (u := u) (uf := uf) (us := us) (hd := hd) (hW := hW) (e_uf := e_uf) (e_us := e_us) (h_s := h_s) (h_el := h_el) (h_al := h_al) (h_u := h_u) (p_0 := p_0) (p_1 := p_1) (p_2 := p_2) (p_3 := p_3) (p_4 := p_4) (p_5 := p_5) (p_6 := p_6) (p_7 := p_7) (p_8 := p_8) _ L58 G A (uf) rfl gL58_0 gL58_1 gL58_2 gL58_3 gL58_4 gL58_5 hW hF0 ((e_us)) (by omega) (by omega) (by omega) (by omega) (rfl) ((NF_0 (by omega)))
  · have _q := h57
    refine jx_rt (v := none) rfl rfl rfl rfl rfl rfl ?_
    exact ⟨_, _, us, rfl, rfl, hW, hF0, (e_us), by first | exact Or.inl (⟨by omega, by omega, rfl⟩)⟩
set_option maxRecDepth 20000 in
set_option maxHeartbeats 4000000 in
theorem c_isArray2 {X : jX} {dd : Nat} {V : jH} {k : Int} (hd : 1 ≤ dd) (h_k : (-2147483648 : Int) ≤ k ∧ k ≤ 2147483647) : wk X dd 282 [.int (i32 k)] V (fun o V_q => ∃ (r : Int), V_q = V ∧ o = .inl (some (.int (i32 r))) ∧ ((0 : Int) ≤ r ∧ r ≤ 1) ∧ ((r = 1 ∧ (k = 2 ∨ k = 7)) ∨ (r = 0 ∧ (k < 2 ∨ 2 < k) ∧ (k < 7 ∨ 7 < k)))) := by
  obtain ⟨d, rfl⟩ : ∃ d, dd = d + 1 := ⟨dd - 1, by omega⟩
  refine wk_of (e := jm282) rfl (Nat.le_of_ble_eq_true rfl) ?_
  show wj X d jm282 (0, [(0, .int (i32 (k)))], [], V) _
  refine jx_ld (pc_q := 1) (l_q := [(0, .int (i32 (k)))]) (st_q := [.int (i32 (k))]) rfl (jl_iloadn rfl) ?_
  refine jx_ar (pc_q := 2) (st_q := [.int (i32 (2)), .int (i32 (k))]) rfl rfl rfl rfl ?_
  refine jx_icmp_eq (pc_q := 5) (tg := 11) rfl rfl rfl (Int.le_trans (by decide : (-2147483648 : Int) ≤ -2147483648) h_k.1) (Int.le_trans h_k.2 (by decide : (2147483647 : Int) ≤ 2147483647)) (by decide) (by decide) (fun h1 => ?_) (fun h1 => ?_)
  · have _q := h1
    refine jx_ar (pc_q := 12) (st_q := [.int (i32 (1))]) rfl rfl rfl rfl ?_
    refine jx_go (tg := 16) rfl rfl ?_
    refine jx_rt (v := some (.int (i32 (1)))) rfl rfl rfl rfl rfl (by first | rfl | exact jRet_b (by omega)) ?_
    exact ⟨_, rfl, rfl, by omega, by first | exact Or.inl (⟨by omega, by omega⟩) | exact Or.inr ((⟨by omega, by omega, by omega⟩))⟩
  · have _q := h1
    refine jx_ld (pc_q := 6) (l_q := [(0, .int (i32 (k)))]) (st_q := [.int (i32 (k))]) rfl (jl_iloadn rfl) ?_
    refine jx_ar (pc_q := 8) (st_q := [.int (i32 (7)), .int (i32 (k))]) rfl rfl rfl rfl ?_
    refine jx_icmp_ne (pc_q := 11) (tg := 15) rfl rfl rfl (Int.le_trans (by decide : (-2147483648 : Int) ≤ -2147483648) h_k.1) (Int.le_trans h_k.2 (by decide : (2147483647 : Int) ≤ 2147483647)) (by decide) (by decide) (fun h2 => ?_) (fun h2 => ?_)
    · have _q := h2
      refine jx_ar (pc_q := 16) (st_q := [.int (i32 (0))]) rfl rfl rfl rfl ?_
      refine jx_rt (v := some (.int (i32 (0)))) rfl rfl rfl rfl rfl (by first | rfl | exact jRet_b (by omega)) ?_
      exact ⟨_, rfl, rfl, by omega, by first | exact Or.inl (⟨by omega, by omega⟩) | exact Or.inr ((⟨by omega, by omega, by omega⟩))⟩
    · have _q := h2
      refine jx_ar (pc_q := 12) (st_q := [.int (i32 (1))]) rfl rfl rfl rfl ?_
      refine jx_go (tg := 16) rfl rfl ?_
      refine jx_rt (v := some (.int (i32 (1)))) rfl rfl rfl rfl rfl (by first | rfl | exact jRet_b (by omega)) ?_
      exact ⟨_, rfl, rfl, by omega, by first | exact Or.inl (⟨by omega, by omega⟩) | exact Or.inr ((⟨by omega, by omega, by omega⟩))⟩
def UE (X : jX) (k : Nat) : Prop := ∀ ⦃dd : Nat⦄ ⦃T0 : Nat → Nat → Int⦄ ⦃Vs : Nat → Prop⦄ ⦃sb M : Int⦄ ⦃Fm : Int → Int → Int → Prop⦄ ⦃c0 c1 : jC⦄ ⦃G : Nat → Int⦄ ⦃A : Nat → Nat → Int⦄ ⦃T : jH⦄ ⦃e : Int⦄ ⦃lo hi : Int⦄ ⦃uf us : Int⦄ (hd : 2 * k + 6 ≤ dd) (hW : Wk G A) (e_uf : G 62 = uf) (e_us : G 61 = us) (h_e : (-2147483648 : Int) ≤ e ∧ e ≤ 2147483647) (p_0 : TA T0 A) (p_1 : 0 ≤ lo) (p_2 : hi ≤ 6999) (p_3 : sb ≤ 202) (p_4 : 0 ≤ uf) (p_5 : uf ≤ us) (p_6 : uf + M ≤ 59999) (p_7 : UI Fm A (uf) (us)) (p_8 : Fbd Fm M) (p_9 : wE T0 Vs sb (k) (e) (lo) (hi)) (p_10 : ((k : Nat) : Int) ≤ 30) (p_11 : eU T0 (A 13) (k) (fun s al e _ => Fm s al e) (e)), wk X dd 328 [.ref 66, .int (i32 e)] (rV c0 c1 G A T) (fun o V_q => ∃ (G_q : Nat → Int) (A_q : Nat → Nat → Int) (us2 : Int), V_q = rV c0 c1 G_q A_q T ∧ o = .inl none ∧ Wk G_q A_q ∧ Fr [61] [39, 40, 41, 42] G A G_q A_q ∧ G_q 61 = us2 ∧ (us ≤ us2) ∧ (UI Fm A_q (uf) (us2)) ∧ (UX A A_q (uf) (us) (us2) (fun Q => eU T0 (A 13) (k) Q (e))) ∧ True)
set_option maxRecDepth 20000 in
set_option maxHeartbeats 4000000 in
theorem c_useReference {X : jX} {k : Nat} (hE : UE X k) {dd : Nat} {T0 : Nat → Nat → Int} {Vs : Nat → Prop} {sb M : Int} {Fm : Int → Int → Int → Prop} {c0 c1 : jC} {G : Nat → Int} {A : Nat → Nat → Int} {T : jH} {x dn : Int} {lo hi : Int} {uf us : Int} (hd : 2 * k + 7 ≤ dd) (hW : Wk G A) (e_uf : G 62 = uf) (e_us : G 61 = us) (h_x : (-2147483648 : Int) ≤ x ∧ x ≤ 2147483647) (h_dn : (-2147483648 : Int) ≤ dn ∧ dn ≤ 2147483647) (p_0 : TA T0 A) (p_1 : 0 ≤ lo) (p_2 : hi ≤ 6999) (p_3 : sb ≤ 202) (p_4 : 0 ≤ uf) (p_5 : uf ≤ us) (p_6 : uf + M ≤ 59999) (p_7 : UI Fm A (uf) (us)) (p_8 : Fbd Fm M) (p_9 : qX T0 Vs sb (k) (x) (lo) (hi)) (p_10 : (k : Int) ≤ 30) (p_11 : 0 ≤ dn) (p_12 : dn ≤ 15) (p_13 : rU T0 (A 13) (eU T0 (A 13) (k)) (fun s al e _ => Fm s al e) (x) (dn)) : wk X dd 327 [.ref 66, .int (i32 x), .int (i32 dn)] (rV c0 c1 G A T) (fun o V_q => ∃ (G_q : Nat → Int) (A_q : Nat → Nat → Int) (us2 : Int), V_q = rV c0 c1 G_q A_q T ∧ o = .inl none ∧ Wk G_q A_q ∧ Fr [61] [39, 40, 41, 42] G A G_q A_q ∧ G_q 61 = us2 ∧ (us ≤ us2) ∧ (UI Fm A_q (uf) (us2)) ∧ (UX A A_q (uf) (us) (us2) (fun Q => rU T0 (A 13) (eU T0 (A 13) (k)) Q (x) (dn))) ∧ True) := by
  obtain ⟨d, rfl⟩ : ∃ d, dd = d + 1 := ⟨dd - 1, by omega⟩
  refine wk_of (e := jm327) rfl (Nat.le_of_ble_eq_true rfl) ?_
  show wj X d jm327 (0, [(0, .ref 66), (1, .int (i32 (x))), (2, .int (i32 (dn)))], [], rV c0 c1 G A T) _
  have hF0 : Fr [61] [39, 40, 41, 42] G A G A := Fr_rf
  have b_uf : (-2147483648 : Int) ≤ uf ∧ uf ≤ 2147483647 := e_uf ▸ hW.1 62
  have b_us : (-2147483648 : Int) ≤ us ∧ us ≤ 2147483647 := e_us ▸ hW.1 61
  have hWT := TA_w hW p_0
  have hq1 := p_9.1; have hq2 := p_9.2.1; have hq3 := p_9.2.2.1.1; have hq4 := p_9.2.2.1.2.1; have hul := UI_le p_7 p_8
  refine jx_ld (pc_q := 1) (l_q := [(0, .ref 66), (1, .int (i32 (x))), (2, .int (i32 (dn)))]) (st_q := [.ref 66]) rfl (jl_aloadn rfl) ?_
  refine jr_get (pc_q := 4) (i := 34) (v := .ref 84) rfl rfl (by decide) rfl rfl ?_
  refine jx_ld (pc_q := 5) (l_q := [(0, .ref 66), (1, .int (i32 (x))), (2, .int (i32 (dn)))]) (st_q := [.int (i32 (x)), .ref 84]) rfl (jl_iloadn rfl) ?_
  have b1 : (-2147483648 : Int) ≤ T0 17 (x).toNat ∧ T0 17 (x).toNat ≤ 2147483647 := hWT.2 17 _
  refine jr_ldv (pc_q := 6) (i := 17) (m := 7000) (z := x) (y := T0 17 (x).toNat) rfl (by decide) rfl (by decide) (by omega) (by omega) rfl (show A 17 (x).toNat = T0 17 (x).toNat from (congrFun (p_0 17 rfl) _)) ?_
  refine jx_ld (pc_q := 7) (l_q := jSto1 [(0, .ref 66), (1, .int (i32 (x))), (2, .int (i32 (dn)))] 3 (.int (i32 (T0 17 (x).toNat)))) (st_q := []) rfl rfl ?_
  obtain ⟨L2, eL2⟩ : ∃ q, q = jSto1 [(0, .ref 66), (1, .int (i32 (x))), (2, .int (i32 (dn)))] 3 (.int (i32 (T0 17 (x).toNat))) := ⟨_, rfl⟩
  rw [← eL2]
  have gL2_0 : jGet L2 0 = some (.ref 66) := eL2 ▸ jg_ne (by decide) (rfl : jGet [(0, .ref 66), (1, .int (i32 (x))), (2, .int (i32 (dn)))] 0 = some (.ref 66)) rfl
  have gL2_1 : jGet L2 1 = some (.int (i32 (x))) := eL2 ▸ jg_ne (by decide) (rfl : jGet [(0, .ref 66), (1, .int (i32 (x))), (2, .int (i32 (dn)))] 1 = some (.int (i32 (x)))) rfl
  have gL2_2 : jGet L2 2 = some (.int (i32 (dn))) := eL2 ▸ jg_ne (by decide) (rfl : jGet [(0, .ref 66), (1, .int (i32 (x))), (2, .int (i32 (dn)))] 2 = some (.int (i32 (dn)))) rfl
  have gL2_3 : jGet L2 3 = some (.int (i32 (T0 17 (x).toNat))) := eL2 ▸ jg_eq
  refine jx_ld (pc_q := 8) (l_q := L2) (st_q := [.ref 66]) rfl (jl_aloadn gL2_0) ?_
  refine jr_get (pc_q := 11) (i := 32) (v := .ref 82) rfl rfl (by decide) rfl rfl ?_
  refine jx_ld (pc_q := 12) (l_q := L2) (st_q := [.int (i32 (x)), .ref 82]) rfl (jl_iloadn gL2_1) ?_
  have b3 : (0 : Int) ≤ T0 15 (x).toNat ∧ T0 15 (x).toNat ≤ 34 := hWT.2 15 _
  refine jr_ldv (pc_q := 13) (i := 15) (m := 7000) (z := x) (y := T0 15 (x).toNat) rfl (by decide) rfl (by decide) (by omega) (by omega) rfl (show A 15 (x).toNat = T0 15 (x).toNat from (congrFun (p_0 15 rfl) _)) ?_
  refine jx_ar (pc_q := 14) (st_q := [.int (i32 (2)), .int (i32 (T0 15 (x).toNat))]) rfl rfl rfl rfl ?_
  refine jx_icmp_ne (pc_q := 17) (tg := 52) rfl rfl rfl (Int.le_trans (by decide : (-2147483648 : Int) ≤ 0) b3.1) (Int.le_trans b3.2 (by decide : (34 : Int) ≤ 2147483647)) (by decide) (by decide) (fun h4 => ?_) (fun h4 => ?_)
  · have _q := h4
    obtain ⟨hqe, hk3⟩ := qX_e p_9 (by omega); have hqi := wE_in hqe
    refine jx_ld (pc_q := 53) (l_q := L2) (st_q := [.ref 66]) rfl (jl_aloadn gL2_0) ?_
    refine jx_ld (pc_q := 54) (l_q := L2) (st_q := [.ref 66, .ref 66]) rfl (jl_aloadn gL2_0) ?_
    refine jr_get (pc_q := 57) (i := 35) (v := .ref 85) rfl rfl (by decide) rfl rfl ?_
    refine jx_ld (pc_q := 58) (l_q := L2) (st_q := [.int (i32 (x)), .ref 85, .ref 66]) rfl (jl_iloadn gL2_1) ?_
    have b5 : (-2147483648 : Int) ≤ T0 18 (x).toNat ∧ T0 18 (x).toNat ≤ 2147483647 := hWT.2 18 _
    refine jr_ldv (pc_q := 59) (i := 18) (m := 7000) (z := x) (y := T0 18 (x).toNat) rfl (by decide) rfl (by decide) (by omega) (by omega) rfl (show A 18 (x).toNat = T0 18 (x).toNat from (congrFun (p_0 18 rfl) _)) ?_
    refine jx_vr (pc_q := 62) (as := [.int (i32 (T0 18 (x).toNat))]) (st := []) rfl rfl rfl rfl ⟨rfl, rfl, Nat.le_of_ble_eq_true rfl⟩ rfl rfl (c_isConstant (dd := d) (hd := by omega) (hW := hW) (e := T0 18 (x).toNat) (k := k) (lo := lo) (hi := x)  (h_e := ⟨(Int.le_trans (by decide : (-2147483648 : Int) ≤ -2147483648) b5.1), (Int.le_trans b5.2 (by decide : (2147483647 : Int) ≤ 2147483647))⟩)  (p_0 := p_0) (p_1 := by omega) (p_2 := by omega) (p_3 := by omega) (p_4 := by omega) (p_5 := hqe)) (fun o V_q hq => ?_)
    obtain ⟨r6, rfl, rfl, b7, q8⟩ := hq
    refine .inr ⟨_, rfl, ?_⟩
    rcases q8 with ⟨rfl, a9⟩ | ⟨rfl, a10⟩
    · have _q : True := trivial
      have _q : True := trivial
      refine jx_ld (pc_q := 64) (l_q := jSto1 L2 4 (.int (i32 (1)))) (st_q := []) rfl rfl ?_
      obtain ⟨L11, eL11⟩ : ∃ q, q = jSto1 L2 4 (.int (i32 (1))) := ⟨_, rfl⟩
      rw [← eL11]
      have gL11_0 : jGet L11 0 = some (.ref 66) := eL11 ▸ jg_ne (by decide) gL2_0 rfl
      have gL11_1 : jGet L11 1 = some (.int (i32 (x))) := eL11 ▸ jg_ne (by decide) gL2_1 rfl
      have gL11_2 : jGet L11 2 = some (.int (i32 (dn))) := eL11 ▸ jg_ne (by decide) gL2_2 rfl
      have gL11_3 : jGet L11 3 = some (.int (i32 (T0 17 (x).toNat))) := eL11 ▸ jg_ne (by decide) gL2_3 rfl
      have gL11_4 : jGet L11 4 = some (.int (i32 (1))) := eL11 ▸ jg_eq
      refine jx_ld (pc_q := 65) (l_q := L11) (st_q := [.ref 66]) rfl (jl_aloadn gL11_0) ?_
      refine jx_ld (pc_q := 66) (l_q := L11) (st_q := [.int (i32 (T0 17 (x).toNat)), .ref 66]) rfl (jl_iloadn gL11_3) ?_
      refine jx_ld (pc_q := 68) (l_q := L11) (st_q := [.int (i32 (1)), .int (i32 (T0 17 (x).toNat)), .ref 66]) rfl (jl_iload gL11_4) ?_
      refine jx_if_eq (pc_q := 71) (tg := 84) rfl rfl rfl (by decide) (by decide) (fun h12 => ?_) (fun h12 => ?_)
      · have _q := h12
        exact absurd h12 (by omega)
      · have _q := h12
        refine jx_ld (pc_q := 72) (l_q := L11) (st_q := [.ref 66, .int (i32 (T0 17 (x).toNat)), .ref 66]) rfl (jl_aloadn gL11_0) ?_
        refine jx_ld (pc_q := 73) (l_q := L11) (st_q := [.ref 66, .ref 66, .int (i32 (T0 17 (x).toNat)), .ref 66]) rfl (jl_aloadn gL11_0) ?_
        refine jr_get (pc_q := 76) (i := 35) (v := .ref 85) rfl rfl (by decide) rfl rfl ?_
        refine jx_ld (pc_q := 77) (l_q := L11) (st_q := [.int (i32 (x)), .ref 85, .ref 66, .int (i32 (T0 17 (x).toNat)), .ref 66]) rfl (jl_iloadn gL11_1) ?_
        refine jr_ldv (pc_q := 78) (i := 18) (m := 7000) (z := x) (y := T0 18 (x).toNat) rfl (by decide) rfl (by decide) (by omega) (by omega) rfl (show A 18 (x).toNat = T0 18 (x).toNat from (congrFun (p_0 18 rfl) _)) ?_
        refine jx_vr (pc_q := 81) (as := [.int (i32 (T0 18 (x).toNat))]) (st := [.int (i32 (T0 17 (x).toNat)), .ref 66]) rfl rfl rfl rfl ⟨rfl, rfl, Nat.le_of_ble_eq_true rfl⟩ rfl rfl (c_constant (dd := d) (hd := by omega) (hW := hW) (e := T0 18 (x).toNat) (k := k) (lo := lo) (hi := x)  (h_e := ⟨(Int.le_trans (by decide : (-2147483648 : Int) ≤ -2147483648) b5.1), (Int.le_trans b5.2 (by decide : (2147483647 : Int) ≤ 2147483647))⟩)  (p_0 := p_0) (p_1 := by omega) (p_2 := by omega) (p_3 := by omega) (p_4 := by omega) (p_5 := hqe) (p_6 := a9)) (fun o V_q hq => ?_)
        obtain ⟨r13, rfl, rfl, b14, p15, -⟩ := hq
        refine .inr ⟨_, rfl, ?_⟩
        have _q : True := trivial
        refine jx_go (tg := 85) rfl rfl ?_
        refine jx_ld (pc_q := 87) (l_q := L11) (st_q := [.int (i32 (1)), .int (i32 (r13)), .int (i32 (T0 17 (x).toNat)), .ref 66]) rfl (jl_iload gL11_4) ?_
        refine jx_if_ne (pc_q := 90) (tg := 94) rfl rfl rfl (by decide) (by decide) (fun h17 => ?_) (fun h17 => ?_)
        · have _q := h17
          refine jx_ar (pc_q := 95) (st_q := [.int (i32 (0)), .int (i32 (r13)), .int (i32 (T0 17 (x).toNat)), .ref 66]) rfl rfl rfl rfl ?_
          refine jx_ld (pc_q := 96) (l_q := L11) (st_q := [.int (i32 (dn)), .int (i32 (0)), .int (i32 (r13)), .int (i32 (T0 17 (x).toNat)), .ref 66]) rfl (jl_iloadn gL11_2) ?_
          refine jx_vr (pc_q := 99) (as := [.int (i32 (T0 17 (x).toNat)), .int (i32 (r13)), .int (i32 (0)), .int (i32 (dn))]) (st := []) rfl rfl rfl rfl ⟨rfl, rfl, Nat.le_of_ble_eq_true rfl⟩ rfl rfl (c_addUse_x (dd := d) (hd := by omega) (hW := hW) (s := T0 17 (x).toNat) (el := r13) (al := 0) (u := dn) (uf := uf) (e_uf := show G 62 = uf from (e_uf)) (us := us) (e_us := show G 61 = us from (e_us))  (h_s := ⟨(Int.le_trans (by decide : (-2147483648 : Int) ≤ -2147483648) b1.1), (Int.le_trans b1.2 (by decide : (2147483647 : Int) ≤ 2147483647))⟩) (h_el := ⟨(Int.le_trans (by decide : (-2147483648 : Int) ≤ -2147483648) b14.1), (Int.le_trans b14.2 (by decide : (2147483647 : Int) ≤ 2147483647))⟩) (h_al := ⟨(by decide), (by decide)⟩) (h_u := ⟨(Int.le_trans (by decide : (-2147483648 : Int) ≤ -2147483648) h_dn.1), (Int.le_trans h_dn.2 (by decide : (2147483647 : Int) ≤ 2147483647))⟩)  (p_0 := by omega) (p_1 := by omega) (p_2 := by omega) (p_3 := by omega) (p_4 := by omega) (p_5 := by omega) (p_6 := by omega) (p_7 := by omega) (p_8 := (p_7.2.2.1))) (fun o V_q hq => ?_)
          obtain ⟨G18, A19, us2_20, rfl, rfl, hW21, hF22, e23, q24⟩ := hq
          have hF25 := Fr_tr hF0 hF22 (Fr_sub (by decide)) (Fr_sub (by decide))
          have bus2_20 : (-2147483648 : Int) ≤ us2_20 ∧ us2_20 ≤ 2147483647 := e23 ▸ hW21.1 61
          refine .inl ⟨rfl, ?_⟩
          rcases q24 with ⟨a26, a27, a28⟩ | ⟨a29, a30, a31, a32⟩
          · have _q : True := trivial
            have hus : us2_20 = us := (by omega); have hu1 : UI Fm A19 uf us2_20 := (by rw [show A19 = A from a28, hus]; exact p_7); have hx1 : UX A A19 uf us us2_20 (fun Q => rU1 T0 (A 13) Q x dn) := (by rw [show A19 = A from a28, hus]; exact ur_el0 (by omega)); have h13 : A19 13 = A 13 := (hF22.2 13 rfl); have hze := (p_13.2 hk3).2
            refine jx_ld (pc_q := 100) (l_q := L11) (st_q := [.ref 66]) rfl (jl_aloadn gL11_0) ?_
            refine jx_ld (pc_q := 101) (l_q := L11) (st_q := [.ref 66, .ref 66]) rfl (jl_aloadn gL11_0) ?_
            refine jr_get (pc_q := 104) (i := 35) (v := .ref 85) rfl rfl (by decide) rfl rfl ?_
            refine jx_ld (pc_q := 105) (l_q := L11) (st_q := [.int (i32 (x)), .ref 85, .ref 66]) rfl (jl_iloadn gL11_1) ?_
            refine jr_ldv (pc_q := 106) (i := 18) (m := 7000) (z := x) (y := T0 18 (x).toNat) rfl (by decide) rfl (by decide) (by omega) (by omega) rfl (show A19 18 (x).toNat = T0 18 (x).toNat from (congrFun ((hF22.2 18 rfl).trans (p_0 18 rfl)) _)) ?_
            refine jx_vr (pc_q := 109) (as := [.int (i32 (T0 18 (x).toNat))]) (st := []) rfl rfl rfl rfl ⟨rfl, rfl, Nat.le_of_ble_eq_true rfl⟩ rfl rfl (hE (dd := d) (hd := by omega) (hW := hW21) (e := T0 18 (x).toNat) (lo := lo) (hi := x) (uf := uf) (e_uf := show G18 62 = uf from ((hF22.1 62 rfl).trans (e_uf))) (us := us2_20) (e_us := show G18 61 = us2_20 from (e23))  (h_e := ⟨(Int.le_trans (by decide : (-2147483648 : Int) ≤ -2147483648) b5.1), (Int.le_trans b5.2 (by decide : (2147483647 : Int) ≤ 2147483647))⟩)  (p_0 := (TA_fr hF25 (by decide) p_0)) (p_1 := by omega) (p_2 := by omega) (p_3 := by omega) (p_4 := by omega) (p_5 := by omega) (p_6 := by omega) (p_7 := hu1) (p_8 := p_8) (p_9 := hqe) (p_10 := by omega) (p_11 := (by rw [h13]; exact hze))) (fun o V_q hq => ?_)
            obtain ⟨G33, A34, us2_35, rfl, rfl, hW36, hF37, e38, p39, p40, p41, -⟩ := hq
            have hF43 := Fr_tr hF25 hF37 (Fr_sub (by decide)) (Fr_sub (by decide))
            have bus2_35 : (-2147483648 : Int) ≤ us2_35 ∧ us2_35 ≤ 2147483647 := e38 ▸ hW36.1 61
            refine .inl ⟨rfl, ?_⟩
            refine jx_rt (v := none) rfl rfl rfl rfl rfl rfl ?_
            exact ⟨_, _, us2_35, rfl, rfl, hW36, hF43, (e38), by omega, p40, (ur_ix (E := eU T0 (A 13) k) (by omega) hk3 hx1 (by rw [h13] at p41; exact p41)), trivial⟩
          · have _q : True := trivial
            obtain ⟨hu1, hx1⟩ := ur_el (R := A 13) p_7 rfl hk3 (by omega) (Or.inl ⟨a9, by omega, by omega⟩) p_13 a32; have h13 : A19 13 = A 13 := (hF22.2 13 rfl); have hze := (p_13.2 hk3).2
            refine jx_ld (pc_q := 100) (l_q := L11) (st_q := [.ref 66]) rfl (jl_aloadn gL11_0) ?_
            refine jx_ld (pc_q := 101) (l_q := L11) (st_q := [.ref 66, .ref 66]) rfl (jl_aloadn gL11_0) ?_
            refine jr_get (pc_q := 104) (i := 35) (v := .ref 85) rfl rfl (by decide) rfl rfl ?_
            refine jx_ld (pc_q := 105) (l_q := L11) (st_q := [.int (i32 (x)), .ref 85, .ref 66]) rfl (jl_iloadn gL11_1) ?_
            refine jr_ldv (pc_q := 106) (i := 18) (m := 7000) (z := x) (y := T0 18 (x).toNat) rfl (by decide) rfl (by decide) (by omega) (by omega) rfl (show A19 18 (x).toNat = T0 18 (x).toNat from (congrFun ((hF22.2 18 rfl).trans (p_0 18 rfl)) _)) ?_
            refine jx_vr (pc_q := 109) (as := [.int (i32 (T0 18 (x).toNat))]) (st := []) rfl rfl rfl rfl ⟨rfl, rfl, Nat.le_of_ble_eq_true rfl⟩ rfl rfl (hE (dd := d) (hd := by omega) (hW := hW21) (e := T0 18 (x).toNat) (lo := lo) (hi := x) (uf := uf) (e_uf := show G18 62 = uf from ((hF22.1 62 rfl).trans (e_uf))) (us := us2_20) (e_us := show G18 61 = us2_20 from (e23))  (h_e := ⟨(Int.le_trans (by decide : (-2147483648 : Int) ≤ -2147483648) b5.1), (Int.le_trans b5.2 (by decide : (2147483647 : Int) ≤ 2147483647))⟩)  (p_0 := (TA_fr hF25 (by decide) p_0)) (p_1 := by omega) (p_2 := by omega) (p_3 := by omega) (p_4 := by omega) (p_5 := by omega) (p_6 := by omega) (p_7 := hu1) (p_8 := p_8) (p_9 := hqe) (p_10 := by omega) (p_11 := (by rw [h13]; exact hze))) (fun o V_q hq => ?_)
            obtain ⟨G44, A45, us2_46, rfl, rfl, hW47, hF48, e49, p50, p51, p52, -⟩ := hq
            have hF54 := Fr_tr hF25 hF48 (Fr_sub (by decide)) (Fr_sub (by decide))
            have bus2_46 : (-2147483648 : Int) ≤ us2_46 ∧ us2_46 ≤ 2147483647 := e49 ▸ hW47.1 61
            refine .inl ⟨rfl, ?_⟩
            refine jx_rt (v := none) rfl rfl rfl rfl rfl rfl ?_
            exact ⟨_, _, us2_46, rfl, rfl, hW47, hF54, (e49), by omega, p51, (ur_ix (E := eU T0 (A 13) k) (by omega) hk3 hx1 (by rw [h13] at p52; exact p52)), trivial⟩
        · have _q := h17
          exact absurd h17 (by omega)
    · have _q : True := trivial
      have _q : True := trivial
      refine jx_ld (pc_q := 64) (l_q := jSto1 L2 4 (.int (i32 (0)))) (st_q := []) rfl rfl ?_
      obtain ⟨L55, eL55⟩ : ∃ q, q = jSto1 L2 4 (.int (i32 (0))) := ⟨_, rfl⟩
      rw [← eL55]
      have gL55_0 : jGet L55 0 = some (.ref 66) := eL55 ▸ jg_ne (by decide) gL2_0 rfl
      have gL55_1 : jGet L55 1 = some (.int (i32 (x))) := eL55 ▸ jg_ne (by decide) gL2_1 rfl
      have gL55_2 : jGet L55 2 = some (.int (i32 (dn))) := eL55 ▸ jg_ne (by decide) gL2_2 rfl
      have gL55_3 : jGet L55 3 = some (.int (i32 (T0 17 (x).toNat))) := eL55 ▸ jg_ne (by decide) gL2_3 rfl
      have gL55_4 : jGet L55 4 = some (.int (i32 (0))) := eL55 ▸ jg_eq
      refine jx_ld (pc_q := 65) (l_q := L55) (st_q := [.ref 66]) rfl (jl_aloadn gL55_0) ?_
      refine jx_ld (pc_q := 66) (l_q := L55) (st_q := [.int (i32 (T0 17 (x).toNat)), .ref 66]) rfl (jl_iloadn gL55_3) ?_
      refine jx_ld (pc_q := 68) (l_q := L55) (st_q := [.int (i32 (0)), .int (i32 (T0 17 (x).toNat)), .ref 66]) rfl (jl_iload gL55_4) ?_
      refine jx_if_eq (pc_q := 71) (tg := 84) rfl rfl rfl (by decide) (by decide) (fun h56 => ?_) (fun h56 => ?_)
      · have _q := h56
        refine jx_ar (pc_q := 85) (st_q := [.int (i32 (0)), .int (i32 (T0 17 (x).toNat)), .ref 66]) rfl rfl rfl rfl ?_
        refine jx_ld (pc_q := 87) (l_q := L55) (st_q := [.int (i32 (0)), .int (i32 (0)), .int (i32 (T0 17 (x).toNat)), .ref 66]) rfl (jl_iload gL55_4) ?_
        refine jx_if_ne (pc_q := 90) (tg := 94) rfl rfl rfl (by decide) (by decide) (fun h57 => ?_) (fun h57 => ?_)
        · have _q := h57
          exact absurd h57 (by omega)
        · have _q := h57
          refine jx_ar (pc_q := 91) (st_q := [.int (i32 (1)), .int (i32 (0)), .int (i32 (T0 17 (x).toNat)), .ref 66]) rfl rfl rfl rfl ?_
          refine jx_go (tg := 95) rfl rfl ?_
          refine jx_ld (pc_q := 96) (l_q := L55) (st_q := [.int (i32 (dn)), .int (i32 (1)), .int (i32 (0)), .int (i32 (T0 17 (x).toNat)), .ref 66]) rfl (jl_iloadn gL55_2) ?_
          refine jx_vr (pc_q := 99) (as := [.int (i32 (T0 17 (x).toNat)), .int (i32 (0)), .int (i32 (1)), .int (i32 (dn))]) (st := []) rfl rfl rfl rfl ⟨rfl, rfl, Nat.le_of_ble_eq_true rfl⟩ rfl rfl (c_addUse_x (dd := d) (hd := by omega) (hW := hW) (s := T0 17 (x).toNat) (el := 0) (al := 1) (u := dn) (uf := uf) (e_uf := show G 62 = uf from (e_uf)) (us := us) (e_us := show G 61 = us from (e_us))  (h_s := ⟨(Int.le_trans (by decide : (-2147483648 : Int) ≤ -2147483648) b1.1), (Int.le_trans b1.2 (by decide : (2147483647 : Int) ≤ 2147483647))⟩) (h_el := ⟨(by decide), (by decide)⟩) (h_al := ⟨(by decide), (by decide)⟩) (h_u := ⟨(Int.le_trans (by decide : (-2147483648 : Int) ≤ -2147483648) h_dn.1), (Int.le_trans h_dn.2 (by decide : (2147483647 : Int) ≤ 2147483647))⟩)  (p_0 := by omega) (p_1 := by omega) (p_2 := by omega) (p_3 := by omega) (p_4 := by omega) (p_5 := by omega) (p_6 := by omega) (p_7 := by omega) (p_8 := (p_7.2.2.1))) (fun o V_q hq => ?_)
          obtain ⟨G58, A59, us2_60, rfl, rfl, hW61, hF62, e63, q64⟩ := hq
          have hF65 := Fr_tr hF0 hF62 (Fr_sub (by decide)) (Fr_sub (by decide))
          have bus2_60 : (-2147483648 : Int) ≤ us2_60 ∧ us2_60 ≤ 2147483647 := e63 ▸ hW61.1 61
          refine .inl ⟨rfl, ?_⟩
          rcases q64 with ⟨a66, a67, a68⟩ | ⟨a69, a70, a71, a72⟩
          · have _q : True := trivial
            have hus : us2_60 = us := (by omega); have hu1 : UI Fm A59 uf us2_60 := (by rw [show A59 = A from a68, hus]; exact p_7); have hx1 : UX A A59 uf us us2_60 (fun Q => rU1 T0 (A 13) Q x dn) := (by rw [show A59 = A from a68, hus]; exact ur_el0 (by omega)); have h13 : A59 13 = A 13 := (hF62.2 13 rfl); have hze := (p_13.2 hk3).2
            refine jx_ld (pc_q := 100) (l_q := L55) (st_q := [.ref 66]) rfl (jl_aloadn gL55_0) ?_
            refine jx_ld (pc_q := 101) (l_q := L55) (st_q := [.ref 66, .ref 66]) rfl (jl_aloadn gL55_0) ?_
            refine jr_get (pc_q := 104) (i := 35) (v := .ref 85) rfl rfl (by decide) rfl rfl ?_
            refine jx_ld (pc_q := 105) (l_q := L55) (st_q := [.int (i32 (x)), .ref 85, .ref 66]) rfl (jl_iloadn gL55_1) ?_
            refine jr_ldv (pc_q := 106) (i := 18) (m := 7000) (z := x) (y := T0 18 (x).toNat) rfl (by decide) rfl (by decide) (by omega) (by omega) rfl (show A59 18 (x).toNat = T0 18 (x).toNat from (congrFun ((hF62.2 18 rfl).trans (p_0 18 rfl)) _)) ?_
            refine jx_vr (pc_q := 109) (as := [.int (i32 (T0 18 (x).toNat))]) (st := []) rfl rfl rfl rfl ⟨rfl, rfl, Nat.le_of_ble_eq_true rfl⟩ rfl rfl (hE (dd := d) (hd := by omega) (hW := hW61) (e := T0 18 (x).toNat) (lo := lo) (hi := x) (uf := uf) (e_uf := show G58 62 = uf from ((hF62.1 62 rfl).trans (e_uf))) (us := us2_60) (e_us := show G58 61 = us2_60 from (e63))  (h_e := ⟨(Int.le_trans (by decide : (-2147483648 : Int) ≤ -2147483648) b5.1), (Int.le_trans b5.2 (by decide : (2147483647 : Int) ≤ 2147483647))⟩)  (p_0 := (TA_fr hF65 (by decide) p_0)) (p_1 := by omega) (p_2 := by omega) (p_3 := by omega) (p_4 := by omega) (p_5 := by omega) (p_6 := by omega) (p_7 := hu1) (p_8 := p_8) (p_9 := hqe) (p_10 := by omega) (p_11 := (by rw [h13]; exact hze))) (fun o V_q hq => ?_)
            obtain ⟨G73, A74, us2_75, rfl, rfl, hW76, hF77, e78, p79, p80, p81, -⟩ := hq
            have hF83 := Fr_tr hF65 hF77 (Fr_sub (by decide)) (Fr_sub (by decide))
            have bus2_75 : (-2147483648 : Int) ≤ us2_75 ∧ us2_75 ≤ 2147483647 := e78 ▸ hW76.1 61
            refine .inl ⟨rfl, ?_⟩
            refine jx_rt (v := none) rfl rfl rfl rfl rfl rfl ?_
            exact ⟨_, _, us2_75, rfl, rfl, hW76, hF83, (e78), by omega, p80, (ur_ix (E := eU T0 (A 13) k) (by omega) hk3 hx1 (by rw [h13] at p81; exact p81)), trivial⟩
          · have _q : True := trivial
            obtain ⟨hu1, hx1⟩ := ur_el (R := A 13) p_7 rfl hk3 (by omega) (Or.inr ⟨a10, by omega⟩) p_13 a72; have h13 : A59 13 = A 13 := (hF62.2 13 rfl); have hze := (p_13.2 hk3).2
            refine jx_ld (pc_q := 100) (l_q := L55) (st_q := [.ref 66]) rfl (jl_aloadn gL55_0) ?_
            refine jx_ld (pc_q := 101) (l_q := L55) (st_q := [.ref 66, .ref 66]) rfl (jl_aloadn gL55_0) ?_
            refine jr_get (pc_q := 104) (i := 35) (v := .ref 85) rfl rfl (by decide) rfl rfl ?_
            refine jx_ld (pc_q := 105) (l_q := L55) (st_q := [.int (i32 (x)), .ref 85, .ref 66]) rfl (jl_iloadn gL55_1) ?_
            refine jr_ldv (pc_q := 106) (i := 18) (m := 7000) (z := x) (y := T0 18 (x).toNat) rfl (by decide) rfl (by decide) (by omega) (by omega) rfl (show A59 18 (x).toNat = T0 18 (x).toNat from (congrFun ((hF62.2 18 rfl).trans (p_0 18 rfl)) _)) ?_
            refine jx_vr (pc_q := 109) (as := [.int (i32 (T0 18 (x).toNat))]) (st := []) rfl rfl rfl rfl ⟨rfl, rfl, Nat.le_of_ble_eq_true rfl⟩ rfl rfl (hE (dd := d) (hd := by omega) (hW := hW61) (e := T0 18 (x).toNat) (lo := lo) (hi := x) (uf := uf) (e_uf := show G58 62 = uf from ((hF62.1 62 rfl).trans (e_uf))) (us := us2_60) (e_us := show G58 61 = us2_60 from (e63))  (h_e := ⟨(Int.le_trans (by decide : (-2147483648 : Int) ≤ -2147483648) b5.1), (Int.le_trans b5.2 (by decide : (2147483647 : Int) ≤ 2147483647))⟩)  (p_0 := (TA_fr hF65 (by decide) p_0)) (p_1 := by omega) (p_2 := by omega) (p_3 := by omega) (p_4 := by omega) (p_5 := by omega) (p_6 := by omega) (p_7 := hu1) (p_8 := p_8) (p_9 := hqe) (p_10 := by omega) (p_11 := (by rw [h13]; exact hze))) (fun o V_q hq => ?_)
            obtain ⟨G84, A85, us2_86, rfl, rfl, hW87, hF88, e89, p90, p91, p92, -⟩ := hq
            have hF94 := Fr_tr hF65 hF88 (Fr_sub (by decide)) (Fr_sub (by decide))
            have bus2_86 : (-2147483648 : Int) ≤ us2_86 ∧ us2_86 ≤ 2147483647 := e89 ▸ hW87.1 61
            refine .inl ⟨rfl, ?_⟩
            refine jx_rt (v := none) rfl rfl rfl rfl rfl rfl ?_
            exact ⟨_, _, us2_86, rfl, rfl, hW87, hF94, (e89), by omega, p91, (ur_ix (E := eU T0 (A 13) k) (by omega) hk3 hx1 (by rw [h13] at p92; exact p92)), trivial⟩
      · have _q := h56
        exact absurd h56 (by omega)
  · have _q := h4
    refine jx_ld (pc_q := 18) (l_q := L2) (st_q := [.ref 66]) rfl (jl_aloadn gL2_0) ?_
    refine jx_ld (pc_q := 19) (l_q := L2) (st_q := [.int (i32 (T0 17 (x).toNat)), .ref 66]) rfl (jl_iloadn gL2_3) ?_
    refine jx_ar (pc_q := 20) (st_q := [.int (i32 (0)), .int (i32 (T0 17 (x).toNat)), .ref 66]) rfl rfl rfl rfl ?_
    refine jx_ld (pc_q := 21) (l_q := L2) (st_q := [.ref 66, .int (i32 (0)), .int (i32 (T0 17 (x).toNat)), .ref 66]) rfl (jl_aloadn gL2_0) ?_
    refine jr_get (pc_q := 24) (i := 21) (v := .ref 74) rfl rfl (by decide) rfl rfl ?_
    refine jx_ld (pc_q := 25) (l_q := L2) (st_q := [.int (i32 (T0 17 (x).toNat)), .ref 74, .int (i32 (0)), .int (i32 (T0 17 (x).toNat)), .ref 66]) rfl (jl_iloadn gL2_3) ?_
    have b95 : (0 : Int) ≤ T0 7 (T0 17 (x).toNat).toNat ∧ T0 7 (T0 17 (x).toNat).toNat ≤ 14 := hWT.2 7 _
    refine jr_ldv (pc_q := 26) (i := 7) (m := 260) (z := T0 17 (x).toNat) (y := T0 7 (T0 17 (x).toNat).toNat) rfl (by decide) rfl (by decide) (by omega) (by omega) rfl (show A 7 (T0 17 (x).toNat).toNat = T0 7 (T0 17 (x).toNat).toNat from (congrFun (p_0 7 rfl) _)) ?_
    refine jx_st (pc_q := 29) (as := [.int (i32 (T0 7 (T0 17 (x).toNat).toNat))]) (st := [.int (i32 (0)), .int (i32 (T0 17 (x).toNat)), .ref 66]) rfl rfl ⟨rfl, Nat.le_of_ble_eq_true rfl⟩ rfl rfl rfl (c_isArray2 (dd := d) (hd := by omega) (k := T0 7 (T0 17 (x).toNat).toNat)   (h_k := ⟨(Int.le_trans (by decide : (-2147483648 : Int) ≤ 0) b95.1), (Int.le_trans b95.2 (by decide : (14 : Int) ≤ 2147483647))⟩)  ) (fun o V_q hq => ?_)
    obtain ⟨r96, rfl, rfl, b97, q98⟩ := hq
    refine .inr ⟨_, rfl, ?_⟩
    rcases q98 with ⟨rfl, a99⟩ | ⟨rfl, a100, a101⟩
    · have _q : True := trivial
      refine jx_if_ne (pc_q := 32) (tg := 42) rfl rfl rfl (by decide) (by decide) (fun h102 => ?_) (fun h102 => ?_)
      · have _q := h102
        refine jx_ar (pc_q := 43) (st_q := [.int (i32 (1)), .int (i32 (0)), .int (i32 (T0 17 (x).toNat)), .ref 66]) rfl rfl rfl rfl ?_
        refine jx_go (tg := 47) rfl rfl ?_
        have hal : 1 = ar1 (T0 7 (T0 17 (x).toNat).toNat) := (by unfold ar1; split <;> omega)
        refine jx_ld (pc_q := 48) (l_q := L2) (st_q := [.int (i32 (dn)), .int (i32 (1)), .int (i32 (0)), .int (i32 (T0 17 (x).toNat)), .ref 66]) rfl (jl_iloadn gL2_2) ?_
        refine jx_vr (pc_q := 51) (as := [.int (i32 (T0 17 (x).toNat)), .int (i32 (0)), .int (i32 (1)), .int (i32 (dn))]) (st := []) rfl rfl rfl rfl ⟨rfl, rfl, Nat.le_of_ble_eq_true rfl⟩ rfl rfl (c_addUse_x (dd := d) (hd := by omega) (hW := hW) (s := T0 17 (x).toNat) (el := 0) (al := 1) (u := dn) (uf := uf) (e_uf := show G 62 = uf from (e_uf)) (us := us) (e_us := show G 61 = us from (e_us))  (h_s := ⟨(Int.le_trans (by decide : (-2147483648 : Int) ≤ -2147483648) b1.1), (Int.le_trans b1.2 (by decide : (2147483647 : Int) ≤ 2147483647))⟩) (h_el := ⟨(by decide), (by decide)⟩) (h_al := ⟨(by decide), (by decide)⟩) (h_u := ⟨(Int.le_trans (by decide : (-2147483648 : Int) ≤ -2147483648) h_dn.1), (Int.le_trans h_dn.2 (by decide : (2147483647 : Int) ≤ 2147483647))⟩)  (p_0 := by omega) (p_1 := by omega) (p_2 := by omega) (p_3 := by omega) (p_4 := by omega) (p_5 := by omega) (p_6 := by omega) (p_7 := by omega) (p_8 := (p_7.2.2.1))) (fun o V_q hq => ?_)
        obtain ⟨G103, A104, us2_105, rfl, rfl, hW106, hF107, e108, q109⟩ := hq
        have hF110 := Fr_tr hF0 hF107 (Fr_sub (by decide)) (Fr_sub (by decide))
        have bus2_105 : (-2147483648 : Int) ≤ us2_105 ∧ us2_105 ≤ 2147483647 := e108 ▸ hW106.1 61
        refine .inl ⟨rfl, ?_⟩
        rcases q109 with ⟨a111, a112, a113⟩ | ⟨a114, a115, a116, a117⟩
        · have _q : True := trivial
          have hus : us2_105 = us := (by omega); have hu1 : UI Fm A104 uf us2_105 := (by rw [show A104 = A from a113, hus]; exact p_7); have hx1 : UX A A104 uf us us2_105 (fun Q => rU T0 (A 13) (eU T0 (A 13) k) Q x dn) := (by rw [show A104 = A from a113, hus]; exact ur_var0 (by omega) (by omega))
          refine jx_rt (v := none) rfl rfl rfl rfl rfl rfl ?_
          exact ⟨_, _, us2_105, rfl, rfl, hW106, hF110, (e108), by omega, hu1, hx1, trivial⟩
        · have _q : True := trivial
          obtain ⟨hu1, hx1⟩ := ur_var p_7 rfl (by omega) (by omega) hal p_13 a117
          refine jx_rt (v := none) rfl rfl rfl rfl rfl rfl ?_
          exact ⟨_, _, us2_105, rfl, rfl, hW106, hF110, (e108), by omega, hu1, hx1, trivial⟩
      · have _q := h102
        exact absurd h102 (by omega)
    · have _q : True := trivial
      refine jx_if_ne (pc_q := 32) (tg := 42) rfl rfl rfl (by decide) (by decide) (fun h118 => ?_) (fun h118 => ?_)
      · have _q := h118
        exact absurd h118 (by omega)
      · have _q := h118
        refine jx_ld (pc_q := 33) (l_q := L2) (st_q := [.ref 66, .int (i32 (0)), .int (i32 (T0 17 (x).toNat)), .ref 66]) rfl (jl_aloadn gL2_0) ?_
        refine jr_get (pc_q := 36) (i := 21) (v := .ref 74) rfl rfl (by decide) rfl rfl ?_
        refine jx_ld (pc_q := 37) (l_q := L2) (st_q := [.int (i32 (T0 17 (x).toNat)), .ref 74, .int (i32 (0)), .int (i32 (T0 17 (x).toNat)), .ref 66]) rfl (jl_iloadn gL2_3) ?_
        refine jr_ldv (pc_q := 38) (i := 7) (m := 260) (z := T0 17 (x).toNat) (y := T0 7 (T0 17 (x).toNat).toNat) rfl (by decide) rfl (by decide) (by omega) (by omega) rfl (show A 7 (T0 17 (x).toNat).toNat = T0 7 (T0 17 (x).toNat).toNat from (congrFun (p_0 7 rfl) _)) ?_
        refine jx_ar (pc_q := 39) (st_q := [.int (i32 (4)), .int (i32 (T0 7 (T0 17 (x).toNat).toNat)), .int (i32 (0)), .int (i32 (T0 17 (x).toNat)), .ref 66]) rfl rfl rfl rfl ?_
        refine jx_icmp_ne (pc_q := 42) (tg := 46) rfl rfl rfl (Int.le_trans (by decide : (-2147483648 : Int) ≤ 0) b95.1) (Int.le_trans b95.2 (by decide : (14 : Int) ≤ 2147483647)) (by decide) (by decide) (fun h119 => ?_) (fun h119 => ?_)
        · have _q := h119
          refine jx_ar (pc_q := 47) (st_q := [.int (i32 (0)), .int (i32 (0)), .int (i32 (T0 17 (x).toNat)), .ref 66]) rfl rfl rfl rfl ?_
          have hal : 0 = ar1 (T0 7 (T0 17 (x).toNat).toNat) := (by unfold ar1; split <;> omega)
          refine jx_ld (pc_q := 48) (l_q := L2) (st_q := [.int (i32 (dn)), .int (i32 (0)), .int (i32 (0)), .int (i32 (T0 17 (x).toNat)), .ref 66]) rfl (jl_iloadn gL2_2) ?_
          refine jx_vr (pc_q := 51) (as := [.int (i32 (T0 17 (x).toNat)), .int (i32 (0)), .int (i32 (0)), .int (i32 (dn))]) (st := []) rfl rfl rfl rfl ⟨rfl, rfl, Nat.le_of_ble_eq_true rfl⟩ rfl rfl (c_addUse_x (dd := d) (hd := by omega) (hW := hW) (s := T0 17 (x).toNat) (el := 0) (al := 0) (u := dn) (uf := uf) (e_uf := show G 62 = uf from (e_uf)) (us := us) (e_us := show G 61 = us from (e_us))  (h_s := ⟨(Int.le_trans (by decide : (-2147483648 : Int) ≤ -2147483648) b1.1), (Int.le_trans b1.2 (by decide : (2147483647 : Int) ≤ 2147483647))⟩) (h_el := ⟨(by decide), (by decide)⟩) (h_al := ⟨(by decide), (by decide)⟩) (h_u := ⟨(Int.le_trans (by decide : (-2147483648 : Int) ≤ -2147483648) h_dn.1), (Int.le_trans h_dn.2 (by decide : (2147483647 : Int) ≤ 2147483647))⟩)  (p_0 := by omega) (p_1 := by omega) (p_2 := by omega) (p_3 := by omega) (p_4 := by omega) (p_5 := by omega) (p_6 := by omega) (p_7 := by omega) (p_8 := (p_7.2.2.1))) (fun o V_q hq => ?_)
          obtain ⟨G120, A121, us2_122, rfl, rfl, hW123, hF124, e125, q126⟩ := hq
          have hF127 := Fr_tr hF0 hF124 (Fr_sub (by decide)) (Fr_sub (by decide))
          have bus2_122 : (-2147483648 : Int) ≤ us2_122 ∧ us2_122 ≤ 2147483647 := e125 ▸ hW123.1 61
          refine .inl ⟨rfl, ?_⟩
          rcases q126 with ⟨a128, a129, a130⟩ | ⟨a131, a132, a133, a134⟩
          · have _q : True := trivial
            have hus : us2_122 = us := (by omega); have hu1 : UI Fm A121 uf us2_122 := (by rw [show A121 = A from a130, hus]; exact p_7); have hx1 : UX A A121 uf us us2_122 (fun Q => rU T0 (A 13) (eU T0 (A 13) k) Q x dn) := (by rw [show A121 = A from a130, hus]; exact ur_var0 (by omega) (by omega))
            refine jx_rt (v := none) rfl rfl rfl rfl rfl rfl ?_
            exact ⟨_, _, us2_122, rfl, rfl, hW123, hF127, (e125), by omega, hu1, hx1, trivial⟩
          · have _q : True := trivial
            obtain ⟨hu1, hx1⟩ := ur_var p_7 rfl (by omega) (by omega) hal p_13 a134
            refine jx_rt (v := none) rfl rfl rfl rfl rfl rfl ?_
            exact ⟨_, _, us2_122, rfl, rfl, hW123, hF127, (e125), by omega, hu1, hx1, trivial⟩
        · have _q := h119
          refine jx_ar (pc_q := 43) (st_q := [.int (i32 (1)), .int (i32 (0)), .int (i32 (T0 17 (x).toNat)), .ref 66]) rfl rfl rfl rfl ?_
          refine jx_go (tg := 47) rfl rfl ?_
          have hal : 1 = ar1 (T0 7 (T0 17 (x).toNat).toNat) := (by unfold ar1; split <;> omega)
          refine jx_ld (pc_q := 48) (l_q := L2) (st_q := [.int (i32 (dn)), .int (i32 (1)), .int (i32 (0)), .int (i32 (T0 17 (x).toNat)), .ref 66]) rfl (jl_iloadn gL2_2) ?_
          refine jx_vr (pc_q := 51) (as := [.int (i32 (T0 17 (x).toNat)), .int (i32 (0)), .int (i32 (1)), .int (i32 (dn))]) (st := []) rfl rfl rfl rfl ⟨rfl, rfl, Nat.le_of_ble_eq_true rfl⟩ rfl rfl (c_addUse_x (dd := d) (hd := by omega) (hW := hW) (s := T0 17 (x).toNat) (el := 0) (al := 1) (u := dn) (uf := uf) (e_uf := show G 62 = uf from (e_uf)) (us := us) (e_us := show G 61 = us from (e_us))  (h_s := ⟨(Int.le_trans (by decide : (-2147483648 : Int) ≤ -2147483648) b1.1), (Int.le_trans b1.2 (by decide : (2147483647 : Int) ≤ 2147483647))⟩) (h_el := ⟨(by decide), (by decide)⟩) (h_al := ⟨(by decide), (by decide)⟩) (h_u := ⟨(Int.le_trans (by decide : (-2147483648 : Int) ≤ -2147483648) h_dn.1), (Int.le_trans h_dn.2 (by decide : (2147483647 : Int) ≤ 2147483647))⟩)  (p_0 := by omega) (p_1 := by omega) (p_2 := by omega) (p_3 := by omega) (p_4 := by omega) (p_5 := by omega) (p_6 := by omega) (p_7 := by omega) (p_8 := (p_7.2.2.1))) (fun o V_q hq => ?_)
          obtain ⟨G135, A136, us2_137, rfl, rfl, hW138, hF139, e140, q141⟩ := hq
          have hF142 := Fr_tr hF0 hF139 (Fr_sub (by decide)) (Fr_sub (by decide))
          have bus2_137 : (-2147483648 : Int) ≤ us2_137 ∧ us2_137 ≤ 2147483647 := e140 ▸ hW138.1 61
          refine .inl ⟨rfl, ?_⟩
          rcases q141 with ⟨a143, a144, a145⟩ | ⟨a146, a147, a148, a149⟩
          · have _q : True := trivial
            have hus : us2_137 = us := (by omega); have hu1 : UI Fm A136 uf us2_137 := (by rw [show A136 = A from a145, hus]; exact p_7); have hx1 : UX A A136 uf us us2_137 (fun Q => rU T0 (A 13) (eU T0 (A 13) k) Q x dn) := (by rw [show A136 = A from a145, hus]; exact ur_var0 (by omega) (by omega))
            refine jx_rt (v := none) rfl rfl rfl rfl rfl rfl ?_
            exact ⟨_, _, us2_137, rfl, rfl, hW138, hF142, (e140), by omega, hu1, hx1, trivial⟩
          · have _q : True := trivial
            obtain ⟨hu1, hx1⟩ := ur_var p_7 rfl (by omega) (by omega) hal p_13 a149
            refine jx_rt (v := none) rfl rfl rfl rfl rfl rfl ?_
            exact ⟨_, _, us2_137, rfl, rfl, hW138, hF142, (e140), by omega, hu1, hx1, trivial⟩
set_option maxRecDepth 20000 in
set_option maxHeartbeats 4000000 in
theorem c_useE_s {X : jX} {k : Nat} (hE : UE X k) {dd : Nat} {T0 : Nat → Nat → Int} {Vs : Nat → Prop} {sb M : Int} {Fm : Int → Int → Int → Prop} {c0 c1 : jC} {G : Nat → Int} {A : Nat → Nat → Int} {T : jH} {e : Int} {lo hi : Int} {uf us : Int} (hd : 2 * (k + 1) + 6 ≤ dd) (hW : Wk G A) (e_uf : G 62 = uf) (e_us : G 61 = us) (h_e : (-2147483648 : Int) ≤ e ∧ e ≤ 2147483647) (p_0 : TA T0 A) (p_1 : 0 ≤ lo) (p_2 : hi ≤ 6999) (p_3 : sb ≤ 202) (p_4 : 0 ≤ uf) (p_5 : uf ≤ us) (p_6 : uf + M ≤ 59999) (p_7 : UI Fm A (uf) (us)) (p_8 : Fbd Fm M) (p_9 : wE T0 Vs sb (k + 1) (e) (lo) (hi)) (p_10 : ((k + 1 : Nat) : Int) ≤ 30) (p_11 : eU T0 (A 13) (k + 1) (fun s al e _ => Fm s al e) (e)) : wk X dd 328 [.ref 66, .int (i32 e)] (rV c0 c1 G A T) (fun o V_q => ∃ (G_q : Nat → Int) (A_q : Nat → Nat → Int) (us2 : Int), V_q = rV c0 c1 G_q A_q T ∧ o = .inl none ∧ Wk G_q A_q ∧ Fr [61] [39, 40, 41, 42] G A G_q A_q ∧ G_q 61 = us2 ∧ (us ≤ us2) ∧ (UI Fm A_q (uf) (us2)) ∧ (UX A A_q (uf) (us) (us2) (fun Q => eU T0 (A 13) (k + 1) Q (e))) ∧ True) := by
  obtain ⟨d, rfl⟩ : ∃ d, dd = d + 1 := ⟨dd - 1, by omega⟩
  refine wk_of (e := jm328) rfl (Nat.le_of_ble_eq_true rfl) ?_
  show wj X d jm328 (0, [(0, .ref 66), (1, .int (i32 (e)))], [], rV c0 c1 G A T) _
  have hF0 : Fr [61] [39, 40, 41, 42] G A G A := Fr_rf
  have b_uf : (-2147483648 : Int) ≤ uf ∧ uf ≤ 2147483647 := e_uf ▸ hW.1 62
  have b_us : (-2147483648 : Int) ≤ us ∧ us ≤ 2147483647 := e_us ▸ hW.1 61
  have hWT := TA_w hW p_0
  have hkd := wE_kd p_9
  refine jx_ld (pc_q := 1) (l_q := [(0, .ref 66), (1, .int (i32 (e)))]) (st_q := [.ref 66]) rfl (jl_aloadn rfl) ?_
  refine jr_get (pc_q := 4) (i := 32) (v := .ref 82) rfl rfl (by decide) rfl rfl ?_
  refine jx_ld (pc_q := 5) (l_q := [(0, .ref 66), (1, .int (i32 (e)))]) (st_q := [.int (i32 (e)), .ref 82]) rfl (jl_iloadn rfl) ?_
  have b1 : (0 : Int) ≤ T0 15 (e).toNat ∧ T0 15 (e).toNat ≤ 34 := hWT.2 15 _
  refine jr_ldv (pc_q := 6) (i := 15) (m := 7000) (z := e) (y := T0 15 (e).toNat) rfl (by decide) rfl (by decide) (by omega) (by omega) rfl (show A 15 (e).toNat = T0 15 (e).toNat from (congrFun (p_0 15 rfl) _)) ?_
  rcases (by omega : T0 15 (e).toNat = 2 ∨ T0 15 (e).toNat = 3 ∨ T0 15 (e).toNat = 4 ∨ T0 15 (e).toNat = 5 ∨ T0 15 (e).toNat = 6 ∨ T0 15 (e).toNat = 7 ∨ (T0 15 (e).toNat < 2 ∨ 7 < T0 15 (e).toNat)) with h2 | h2 | h2 | h2 | h2 | h2 | h2
  · refine jx_swe (z := 2) (tg := 44) h2 rfl rfl rfl rfl ?_
    have hqx := qX_wE p_9 (by omega); have hzr := (p_11).1 (by omega)
    refine jx_ld (pc_q := 45) (l_q := [(0, .ref 66), (1, .int (i32 (e)))]) (st_q := [.ref 66]) rfl (jl_aloadn rfl) ?_
    refine jx_ld (pc_q := 46) (l_q := [(0, .ref 66), (1, .int (i32 (e)))]) (st_q := [.int (i32 (e)), .ref 66]) rfl (jl_iloadn rfl) ?_
    refine jx_ar (pc_q := 47) (st_q := [.int (i32 (1)), .int (i32 (e)), .ref 66]) rfl rfl rfl rfl ?_
    refine jx_vr (pc_q := 50) (as := [.int (i32 (e)), .int (i32 (1))]) (st := []) rfl rfl rfl rfl ⟨rfl, rfl, Nat.le_of_ble_eq_true rfl⟩ rfl rfl (c_useReference (dd := d) (hE := hE) (hd := by omega) (hW := hW) (x := e) (dn := 1) (lo := lo) (hi := hi) (uf := uf) (e_uf := show G 62 = uf from (e_uf)) (us := us) (e_us := show G 61 = us from (e_us))  (h_x := ⟨(Int.le_trans (by decide : (-2147483648 : Int) ≤ -2147483648) h_e.1), (Int.le_trans h_e.2 (by decide : (2147483647 : Int) ≤ 2147483647))⟩) (h_dn := ⟨(by decide), (by decide)⟩)  (p_0 := p_0) (p_1 := by omega) (p_2 := by omega) (p_3 := by omega) (p_4 := by omega) (p_5 := by omega) (p_6 := by omega) (p_7 := p_7) (p_8 := p_8) (p_9 := hqx) (p_10 := by omega) (p_11 := by omega) (p_12 := by omega) (p_13 := hzr)) (fun o V_q hq => ?_)
    obtain ⟨G3, A4, us2_5, rfl, rfl, hW6, hF7, e8, p9, p10, p11, -⟩ := hq
    have hF13 := Fr_tr hF0 hF7 (Fr_sub (by decide)) (Fr_sub (by decide))
    have bus2_5 : (-2147483648 : Int) ≤ us2_5 ∧ us2_5 ≤ 2147483647 := e8 ▸ hW6.1 61
    refine .inl ⟨rfl, ?_⟩
    refine jx_go (tg := 89) rfl rfl ?_
    refine jx_rt (v := none) rfl rfl rfl rfl rfl rfl ?_
    exact ⟨_, _, us2_5, rfl, rfl, hW6, hF13, (e8), by omega, p10, (ue_r (by omega) p11), trivial⟩
  · refine jx_swe (z := 3) (tg := 44) h2 rfl rfl rfl rfl ?_
    have hqx := qX_wE p_9 (by omega); have hzr := (p_11).1 (by omega)
    refine jx_ld (pc_q := 45) (l_q := [(0, .ref 66), (1, .int (i32 (e)))]) (st_q := [.ref 66]) rfl (jl_aloadn rfl) ?_
    refine jx_ld (pc_q := 46) (l_q := [(0, .ref 66), (1, .int (i32 (e)))]) (st_q := [.int (i32 (e)), .ref 66]) rfl (jl_iloadn rfl) ?_
    refine jx_ar (pc_q := 47) (st_q := [.int (i32 (1)), .int (i32 (e)), .ref 66]) rfl rfl rfl rfl ?_
    refine jx_vr (pc_q := 50) (as := [.int (i32 (e)), .int (i32 (1))]) (st := []) rfl rfl rfl rfl ⟨rfl, rfl, Nat.le_of_ble_eq_true rfl⟩ rfl rfl (c_useReference (dd := d) (hE := hE) (hd := by omega) (hW := hW) (x := e) (dn := 1) (lo := lo) (hi := hi) (uf := uf) (e_uf := show G 62 = uf from (e_uf)) (us := us) (e_us := show G 61 = us from (e_us))  (h_x := ⟨(Int.le_trans (by decide : (-2147483648 : Int) ≤ -2147483648) h_e.1), (Int.le_trans h_e.2 (by decide : (2147483647 : Int) ≤ 2147483647))⟩) (h_dn := ⟨(by decide), (by decide)⟩)  (p_0 := p_0) (p_1 := by omega) (p_2 := by omega) (p_3 := by omega) (p_4 := by omega) (p_5 := by omega) (p_6 := by omega) (p_7 := p_7) (p_8 := p_8) (p_9 := hqx) (p_10 := by omega) (p_11 := by omega) (p_12 := by omega) (p_13 := hzr)) (fun o V_q hq => ?_)
    obtain ⟨G14, A15, us2_16, rfl, rfl, hW17, hF18, e19, p20, p21, p22, -⟩ := hq
    have hF24 := Fr_tr hF0 hF18 (Fr_sub (by decide)) (Fr_sub (by decide))
    have bus2_16 : (-2147483648 : Int) ≤ us2_16 ∧ us2_16 ≤ 2147483647 := e19 ▸ hW17.1 61
    refine .inl ⟨rfl, ?_⟩
    refine jx_go (tg := 89) rfl rfl ?_
    refine jx_rt (v := none) rfl rfl rfl rfl rfl rfl ?_
    exact ⟨_, _, us2_16, rfl, rfl, hW17, hF24, (e19), by omega, p21, (ue_r (by omega) p22), trivial⟩
  · refine jx_swe (z := 4) (tg := 53) h2 rfl rfl rfl rfl ?_
    obtain ⟨m4, g1, g2, g3, g4⟩ := wE_i4 p_9 (by omega); have hze := (p_11).2.1 (by omega)
    refine jx_ld (pc_q := 54) (l_q := [(0, .ref 66), (1, .int (i32 (e)))]) (st_q := [.ref 66]) rfl (jl_aloadn rfl) ?_
    refine jx_ld (pc_q := 55) (l_q := [(0, .ref 66), (1, .int (i32 (e)))]) (st_q := [.ref 66, .ref 66]) rfl (jl_aloadn rfl) ?_
    refine jr_get (pc_q := 58) (i := 35) (v := .ref 85) rfl rfl (by decide) rfl rfl ?_
    refine jx_ld (pc_q := 59) (l_q := [(0, .ref 66), (1, .int (i32 (e)))]) (st_q := [.int (i32 (e)), .ref 85, .ref 66]) rfl (jl_iloadn rfl) ?_
    have b25 : (-2147483648 : Int) ≤ T0 18 (e).toNat ∧ T0 18 (e).toNat ≤ 2147483647 := hWT.2 18 _
    refine jr_ldv (pc_q := 60) (i := 18) (m := 7000) (z := e) (y := T0 18 (e).toNat) rfl (by decide) rfl (by decide) (by omega) (by omega) rfl (show A 18 (e).toNat = T0 18 (e).toNat from (congrFun (p_0 18 rfl) _)) ?_
    refine jx_vr (pc_q := 63) (as := [.int (i32 (T0 18 (e).toNat))]) (st := []) rfl rfl rfl rfl ⟨rfl, rfl, Nat.le_of_ble_eq_true rfl⟩ rfl rfl (hE (dd := d) (hd := by omega) (hW := hW) (e := T0 18 (e).toNat) (lo := lo) (hi := m4) (uf := uf) (e_uf := show G 62 = uf from (e_uf)) (us := us) (e_us := show G 61 = us from (e_us))  (h_e := ⟨(Int.le_trans (by decide : (-2147483648 : Int) ≤ -2147483648) b25.1), (Int.le_trans b25.2 (by decide : (2147483647 : Int) ≤ 2147483647))⟩)  (p_0 := p_0) (p_1 := by omega) (p_2 := by omega) (p_3 := by omega) (p_4 := by omega) (p_5 := by omega) (p_6 := by omega) (p_7 := p_7) (p_8 := p_8) (p_9 := g3) (p_10 := by omega) (p_11 := hze.1)) (fun o V_q hq => ?_)
    obtain ⟨G26, A27, us2_28, rfl, rfl, hW29, hF30, e31, p32, p33, p34, -⟩ := hq
    have hF36 := Fr_tr hF0 hF30 (Fr_sub (by decide)) (Fr_sub (by decide))
    have bus2_28 : (-2147483648 : Int) ≤ us2_28 ∧ us2_28 ≤ 2147483647 := e31 ▸ hW29.1 61
    refine .inl ⟨rfl, ?_⟩
    have h13 : A27 13 = A 13 := (hF30.2 13 rfl)
    refine jx_ld (pc_q := 64) (l_q := [(0, .ref 66), (1, .int (i32 (e)))]) (st_q := [.ref 66]) rfl (jl_aloadn rfl) ?_
    refine jx_ld (pc_q := 65) (l_q := [(0, .ref 66), (1, .int (i32 (e)))]) (st_q := [.ref 66, .ref 66]) rfl (jl_aloadn rfl) ?_
    refine jr_get (pc_q := 68) (i := 36) (v := .ref 86) rfl rfl (by decide) rfl rfl ?_
    refine jx_ld (pc_q := 69) (l_q := [(0, .ref 66), (1, .int (i32 (e)))]) (st_q := [.int (i32 (e)), .ref 86, .ref 66]) rfl (jl_iloadn rfl) ?_
    have b37 : (-2147483648 : Int) ≤ T0 19 (e).toNat ∧ T0 19 (e).toNat ≤ 2147483647 := hWT.2 19 _
    refine jr_ldv (pc_q := 70) (i := 19) (m := 7000) (z := e) (y := T0 19 (e).toNat) rfl (by decide) rfl (by decide) (by omega) (by omega) rfl (show A27 19 (e).toNat = T0 19 (e).toNat from (congrFun ((hF30.2 19 rfl).trans (p_0 19 rfl)) _)) ?_
    refine jx_vr (pc_q := 73) (as := [.int (i32 (T0 19 (e).toNat))]) (st := []) rfl rfl rfl rfl ⟨rfl, rfl, Nat.le_of_ble_eq_true rfl⟩ rfl rfl (hE (dd := d) (hd := by omega) (hW := hW29) (e := T0 19 (e).toNat) (lo := m4) (hi := e) (uf := uf) (e_uf := show G26 62 = uf from ((hF30.1 62 rfl).trans (e_uf))) (us := us2_28) (e_us := show G26 61 = us2_28 from (e31))  (h_e := ⟨(Int.le_trans (by decide : (-2147483648 : Int) ≤ -2147483648) b37.1), (Int.le_trans b37.2 (by decide : (2147483647 : Int) ≤ 2147483647))⟩)  (p_0 := (TA_fr hF36 (by decide) p_0)) (p_1 := by omega) (p_2 := by omega) (p_3 := by omega) (p_4 := by omega) (p_5 := by omega) (p_6 := by omega) (p_7 := p33) (p_8 := p_8) (p_9 := g4) (p_10 := by omega) (p_11 := (by rw [h13]; exact hze.2))) (fun o V_q hq => ?_)
    obtain ⟨G38, A39, us2_40, rfl, rfl, hW41, hF42, e43, p44, p45, p46, -⟩ := hq
    have hF48 := Fr_tr hF36 hF42 (Fr_sub (by decide)) (Fr_sub (by decide))
    have bus2_40 : (-2147483648 : Int) ≤ us2_40 ∧ us2_40 ≤ 2147483647 := e43 ▸ hW41.1 61
    refine .inl ⟨rfl, ?_⟩
    refine jx_go (tg := 89) rfl rfl ?_
    refine jx_rt (v := none) rfl rfl rfl rfl rfl rfl ?_
    exact ⟨_, _, us2_40, rfl, rfl, hW41, hF48, (e43), by omega, p45, (ue_2 (by omega) (by omega) p34 (by rw [h13] at p46; exact p46)), trivial⟩
  · refine jx_swe (z := 5) (tg := 76) h2 rfl rfl rfl rfl ?_
    have g5 := wE_i5 p_9 (by omega); have hze := (p_11).2.2 (by omega)
    refine jx_ld (pc_q := 77) (l_q := [(0, .ref 66), (1, .int (i32 (e)))]) (st_q := [.ref 66]) rfl (jl_aloadn rfl) ?_
    refine jx_ld (pc_q := 78) (l_q := [(0, .ref 66), (1, .int (i32 (e)))]) (st_q := [.ref 66, .ref 66]) rfl (jl_aloadn rfl) ?_
    refine jr_get (pc_q := 81) (i := 34) (v := .ref 84) rfl rfl (by decide) rfl rfl ?_
    refine jx_ld (pc_q := 82) (l_q := [(0, .ref 66), (1, .int (i32 (e)))]) (st_q := [.int (i32 (e)), .ref 84, .ref 66]) rfl (jl_iloadn rfl) ?_
    have b49 : (-2147483648 : Int) ≤ T0 17 (e).toNat ∧ T0 17 (e).toNat ≤ 2147483647 := hWT.2 17 _
    refine jr_ldv (pc_q := 83) (i := 17) (m := 7000) (z := e) (y := T0 17 (e).toNat) rfl (by decide) rfl (by decide) (by omega) (by omega) rfl (show A 17 (e).toNat = T0 17 (e).toNat from (congrFun (p_0 17 rfl) _)) ?_
    refine jx_vr (pc_q := 86) (as := [.int (i32 (T0 17 (e).toNat))]) (st := []) rfl rfl rfl rfl ⟨rfl, rfl, Nat.le_of_ble_eq_true rfl⟩ rfl rfl (hE (dd := d) (hd := by omega) (hW := hW) (e := T0 17 (e).toNat) (lo := lo) (hi := e) (uf := uf) (e_uf := show G 62 = uf from (e_uf)) (us := us) (e_us := show G 61 = us from (e_us))  (h_e := ⟨(Int.le_trans (by decide : (-2147483648 : Int) ≤ -2147483648) b49.1), (Int.le_trans b49.2 (by decide : (2147483647 : Int) ≤ 2147483647))⟩)  (p_0 := p_0) (p_1 := by omega) (p_2 := by omega) (p_3 := by omega) (p_4 := by omega) (p_5 := by omega) (p_6 := by omega) (p_7 := p_7) (p_8 := p_8) (p_9 := g5) (p_10 := by omega) (p_11 := hze)) (fun o V_q hq => ?_)
    obtain ⟨G50, A51, us2_52, rfl, rfl, hW53, hF54, e55, p56, p57, p58, -⟩ := hq
    have hF60 := Fr_tr hF0 hF54 (Fr_sub (by decide)) (Fr_sub (by decide))
    have bus2_52 : (-2147483648 : Int) ≤ us2_52 ∧ us2_52 ≤ 2147483647 := e55 ▸ hW53.1 61
    refine .inl ⟨rfl, ?_⟩
    refine jx_go (tg := 89) rfl rfl ?_
    refine jx_rt (v := none) rfl rfl rfl rfl rfl rfl ?_
    exact ⟨_, _, us2_52, rfl, rfl, hW53, hF60, (e55), by omega, p57, (ue_5 (by omega) p58), trivial⟩
  · refine jx_swe (z := 6) (tg := 76) h2 rfl rfl rfl rfl ?_
    have g5 := wE_i5 p_9 (by omega); have hze := (p_11).2.2 (by omega)
    refine jx_ld (pc_q := 77) (l_q := [(0, .ref 66), (1, .int (i32 (e)))]) (st_q := [.ref 66]) rfl (jl_aloadn rfl) ?_
    refine jx_ld (pc_q := 78) (l_q := [(0, .ref 66), (1, .int (i32 (e)))]) (st_q := [.ref 66, .ref 66]) rfl (jl_aloadn rfl) ?_
    refine jr_get (pc_q := 81) (i := 34) (v := .ref 84) rfl rfl (by decide) rfl rfl ?_
    refine jx_ld (pc_q := 82) (l_q := [(0, .ref 66), (1, .int (i32 (e)))]) (st_q := [.int (i32 (e)), .ref 84, .ref 66]) rfl (jl_iloadn rfl) ?_
    have b61 : (-2147483648 : Int) ≤ T0 17 (e).toNat ∧ T0 17 (e).toNat ≤ 2147483647 := hWT.2 17 _
    refine jr_ldv (pc_q := 83) (i := 17) (m := 7000) (z := e) (y := T0 17 (e).toNat) rfl (by decide) rfl (by decide) (by omega) (by omega) rfl (show A 17 (e).toNat = T0 17 (e).toNat from (congrFun (p_0 17 rfl) _)) ?_
    refine jx_vr (pc_q := 86) (as := [.int (i32 (T0 17 (e).toNat))]) (st := []) rfl rfl rfl rfl ⟨rfl, rfl, Nat.le_of_ble_eq_true rfl⟩ rfl rfl (hE (dd := d) (hd := by omega) (hW := hW) (e := T0 17 (e).toNat) (lo := lo) (hi := e) (uf := uf) (e_uf := show G 62 = uf from (e_uf)) (us := us) (e_us := show G 61 = us from (e_us))  (h_e := ⟨(Int.le_trans (by decide : (-2147483648 : Int) ≤ -2147483648) b61.1), (Int.le_trans b61.2 (by decide : (2147483647 : Int) ≤ 2147483647))⟩)  (p_0 := p_0) (p_1 := by omega) (p_2 := by omega) (p_3 := by omega) (p_4 := by omega) (p_5 := by omega) (p_6 := by omega) (p_7 := p_7) (p_8 := p_8) (p_9 := g5) (p_10 := by omega) (p_11 := hze)) (fun o V_q hq => ?_)
    obtain ⟨G62, A63, us2_64, rfl, rfl, hW65, hF66, e67, p68, p69, p70, -⟩ := hq
    have hF72 := Fr_tr hF0 hF66 (Fr_sub (by decide)) (Fr_sub (by decide))
    have bus2_64 : (-2147483648 : Int) ≤ us2_64 ∧ us2_64 ≤ 2147483647 := e67 ▸ hW65.1 61
    refine .inl ⟨rfl, ?_⟩
    refine jx_go (tg := 89) rfl rfl ?_
    refine jx_rt (v := none) rfl rfl rfl rfl rfl rfl ?_
    exact ⟨_, _, us2_64, rfl, rfl, hW65, hF72, (e67), by omega, p69, (ue_5 (by omega) p70), trivial⟩
  · refine jx_swe (z := 7) (tg := 76) h2 rfl rfl rfl rfl ?_
    have g5 := wE_i5 p_9 (by omega); have hze := (p_11).2.2 (by omega)
    refine jx_ld (pc_q := 77) (l_q := [(0, .ref 66), (1, .int (i32 (e)))]) (st_q := [.ref 66]) rfl (jl_aloadn rfl) ?_
    refine jx_ld (pc_q := 78) (l_q := [(0, .ref 66), (1, .int (i32 (e)))]) (st_q := [.ref 66, .ref 66]) rfl (jl_aloadn rfl) ?_
    refine jr_get (pc_q := 81) (i := 34) (v := .ref 84) rfl rfl (by decide) rfl rfl ?_
    refine jx_ld (pc_q := 82) (l_q := [(0, .ref 66), (1, .int (i32 (e)))]) (st_q := [.int (i32 (e)), .ref 84, .ref 66]) rfl (jl_iloadn rfl) ?_
    have b73 : (-2147483648 : Int) ≤ T0 17 (e).toNat ∧ T0 17 (e).toNat ≤ 2147483647 := hWT.2 17 _
    refine jr_ldv (pc_q := 83) (i := 17) (m := 7000) (z := e) (y := T0 17 (e).toNat) rfl (by decide) rfl (by decide) (by omega) (by omega) rfl (show A 17 (e).toNat = T0 17 (e).toNat from (congrFun (p_0 17 rfl) _)) ?_
    refine jx_vr (pc_q := 86) (as := [.int (i32 (T0 17 (e).toNat))]) (st := []) rfl rfl rfl rfl ⟨rfl, rfl, Nat.le_of_ble_eq_true rfl⟩ rfl rfl (hE (dd := d) (hd := by omega) (hW := hW) (e := T0 17 (e).toNat) (lo := lo) (hi := e) (uf := uf) (e_uf := show G 62 = uf from (e_uf)) (us := us) (e_us := show G 61 = us from (e_us))  (h_e := ⟨(Int.le_trans (by decide : (-2147483648 : Int) ≤ -2147483648) b73.1), (Int.le_trans b73.2 (by decide : (2147483647 : Int) ≤ 2147483647))⟩)  (p_0 := p_0) (p_1 := by omega) (p_2 := by omega) (p_3 := by omega) (p_4 := by omega) (p_5 := by omega) (p_6 := by omega) (p_7 := p_7) (p_8 := p_8) (p_9 := g5) (p_10 := by omega) (p_11 := hze)) (fun o V_q hq => ?_)
    obtain ⟨G74, A75, us2_76, rfl, rfl, hW77, hF78, e79, p80, p81, p82, -⟩ := hq
    have hF84 := Fr_tr hF0 hF78 (Fr_sub (by decide)) (Fr_sub (by decide))
    have bus2_76 : (-2147483648 : Int) ≤ us2_76 ∧ us2_76 ≤ 2147483647 := e79 ▸ hW77.1 61
    refine .inl ⟨rfl, ?_⟩
    refine jx_go (tg := 89) rfl rfl ?_
    refine jx_rt (v := none) rfl rfl rfl rfl rfl rfl ?_
    exact ⟨_, _, us2_76, rfl, rfl, hW77, hF84, (e79), by omega, p81, (ue_5 (by omega) p82), trivial⟩
  · refine jx_swt (tg := 89) (by omega) (by omega) rfl h2 rfl ?_
    refine jx_rt (v := none) rfl rfl rfl rfl rfl rfl ?_
    exact ⟨_, _, us, rfl, rfl, hW, hF0, (e_us), by omega, p_7, (ue_1 (by omega)), trivial⟩
theorem c_useE_0 {X : jX} {dd : Nat} {T0 : Nat → Nat → Int} {Vs : Nat → Prop} {sb M : Int} {Fm : Int → Int → Int → Prop} {c0 c1 : jC} {G : Nat → Int} {A : Nat → Nat → Int} {T : jH} {e : Int} {lo hi : Int} {uf us : Int} (hd : 2 * 0 + 6 ≤ dd) (hW : Wk G A) (e_uf : G 62 = uf) (e_us : G 61 = us) (h_e : (-2147483648 : Int) ≤ e ∧ e ≤ 2147483647) (p_0 : TA T0 A) (p_1 : 0 ≤ lo) (p_2 : hi ≤ 6999) (p_3 : sb ≤ 202) (p_4 : 0 ≤ uf) (p_5 : uf ≤ us) (p_6 : uf + M ≤ 59999) (p_7 : UI Fm A (uf) (us)) (p_8 : Fbd Fm M) (p_9 : wE T0 Vs sb (0) (e) (lo) (hi)) (p_10 : ((0 : Nat) : Int) ≤ 30) (p_11 : eU T0 (A 13) (0) (fun s al e _ => Fm s al e) (e)) : wk X dd 328 [.ref 66, .int (i32 e)] (rV c0 c1 G A T) (fun o V_q => ∃ (G_q : Nat → Int) (A_q : Nat → Nat → Int) (us2 : Int), V_q = rV c0 c1 G_q A_q T ∧ o = .inl none ∧ Wk G_q A_q ∧ Fr [61] [39, 40, 41, 42] G A G_q A_q ∧ G_q 61 = us2 ∧ (us ≤ us2) ∧ (UI Fm A_q (uf) (us2)) ∧ (UX A A_q (uf) (us) (us2) (fun Q => eU T0 (A 13) (0) Q (e))) ∧ True) := by
  exact False.elim p_9
theorem UE_all (X : jX) : ∀ k, UE X k
  | 0 => @c_useE_0 X
  | k + 1 => @c_useE_s X k (UE_all X k)
