set_option maxRecDepth 20000 in
set_option maxHeartbeats 4000000 in
theorem k_LUses_blame {X : jX} {dd : Nat} {R : Nat → jC} {m : Nat} {tg ln : Int → Int} {F : Int → Int → Int} {me l : Int} (hd : 2 ≤ dd) (hC : HC 0 m tg ln F) (o_me : own m me) (t_me : tg me = 12) (h_l : (-2147483648 : Int) ≤ l ∧ l ≤ 2147483647) : wk X dd 227 [rv me, .int (i32 l)] (cV R m tg ln F) (fun o V_q => ∃ (F_q : Int → Int → Int), V_q = cV R m tg ln F_q ∧ o = .inl none ∧ HC 0 m tg ln F_q ∧ Fq 0 [(12, 4)] m tg F F_q ∧ True) := by
  obtain ⟨d, rfl⟩ : ∃ d, dd = d + 1 := ⟨dd - 1, by omega⟩
  refine wk_of (e := jm227) rfl (by rw [jS_r, jS_i, jS_0]; exact Nat.le_of_ble_eq_true rfl) ?_
  rw [la_r, la_i, la_0]
  show wj X d jm227 (0, [(0, rv (me)), (1, .int (i32 (l)))], [], cV R m tg ln F) _
  have hM0 : Fq 0 [(12, 4)] m tg F F := Fq_r
  obtain ⟨L0, eL0⟩ : ∃ q : jL, q = [(0, rv (me)), (1, .int (i32 (l)))] := ⟨_, rfl⟩
  rw [← eL0]
  have g1 : jGet L0 0 = some (rv (me)) := eL0 ▸ (rfl : jGet [(0, rv (me)), (1, .int (i32 (l)))] 0 = some (rv (me)))
  have g2 : jGet L0 1 = some (.int (i32 (l))) := eL0 ▸ (rfl : jGet [(0, rv (me)), (1, .int (i32 (l)))] 1 = some (.int (i32 (l))))
  clear eL0
  refine jx_ld (pc_q := 1) (l_q := L0) (st_q := [rv (me)]) rfl (jl_rvn g1) ?_
  refine jx_ld (pc_q := 2) (l_q := L0) (st_q := [rv (me), rv (me)]) rfl (jl_rvn g1) ?_
  refine cx_gi (pc_q := 5) (c := 11) (q := 4) (v := F (me) (4 : Int)) rfl rfl (by decide) (by decide) (Or.inl rfl) rfl o_me t_me rfl ?_
  have b3 : (-2147483648 : Int) ≤ F (me) (4 : Int) ∧ F (me) (4 : Int) ≤ 2147483647 := by have z := HC_i (c := 11) (q := 4) hC o_me t_me (by decide) rfl; rw [show F (me) ((4 : Nat) : Int) = F (me) (4 : Int) from rfl] at z; exact z
  refine jx_ar (pc_q := 6) (st_q := [.int (i32 (-1)), .int (i32 (F (me) (4 : Int))), rv (me)]) rfl rfl rfl rfl ?_
  refine jx_icmp_ne (pc_q := 9) (tg := 13) rfl rfl rfl (by omega) (by omega) (by decide) (by decide) (fun h4 => ?_) (fun h4 => ?_)
  · have _q := h4
    refine jx_ld (pc_q := 14) (l_q := L0) (st_q := [rv (me), rv (me)]) rfl (jl_rvn g1) ?_
    refine cx_gi (pc_q := 17) (c := 11) (q := 4) (v := F (me) (4 : Int)) rfl rfl (by decide) (by decide) (Or.inl rfl) rfl o_me t_me rfl ?_
    refine jx_ld (pc_q := 18) (l_q := L0) (st_q := [.int (i32 (l)), .int (i32 (F (me) (4 : Int))), rv (me)]) rfl (jl_iloadn g2) ?_
    refine cx_st (st := [rv (me)]) (as := [.int (i32 (F (me) (4 : Int))), .int (i32 (l))]) rfl rfl rfl ⟨rfl, (by rw [jS_r, jS_0]; exact Nat.le_of_ble_eq_true rfl)⟩ rfl (k_java_lang_Math_min (dd := d) (R := R) (u := 0) (m := m) (tg := tg) (ln := ln) (F := F) (a := F (me) (4 : Int)) (b := l) (hd := by omega) (hC := hC) (h_a := by omega) (h_b := by omega)) (fun o V_q hq => ?_)
    obtain ⟨r5, rfl, rfl, b6, p7, p8, p9, -⟩ := hq
    refine Or.inr (Or.inl ⟨_, rfl, ?_⟩)
    refine cx_pi (pc_q := 24) (c := 11) (q := 4) (qi := (4 : Int)) (z := r5) rfl rfl (by decide) (by decide) rfl rfl rfl (by decide) rfl o_me t_me rfl ?_
    obtain ⟨F10, eF10⟩ : ∃ q, q = uF F (me) (4 : Int) (r5) := ⟨_, rfl⟩
    rw [← eF10]
    have hC11 : HC 0 m tg ln F10 := by rw [eF10]; exact HC_fi (c := 11) (q := 4) hC t_me (by decide) rfl (by omega) (by omega) ⟨fun w => absurd w (by decide), fun w => absurd w (by decide)⟩
    have hM12 : Fq 0 [(12, 4)] m tg F F10 := by rw [eF10]; exact Fq_p hM0 t_me (fun _ => rfl) rfl
    refine jx_rt (v := none) rfl rfl rfl rfl rfl rfl ?_
    exact ⟨F10, rfl, rfl, hC11, hM12, trivial⟩
  · have _q := h4
    refine jx_ld (pc_q := 10) (l_q := L0) (st_q := [.int (i32 (l)), rv (me)]) rfl (jl_iloadn g2) ?_
    refine jx_go (tg := 21) rfl rfl ?_
    refine cx_pi (pc_q := 24) (c := 11) (q := 4) (qi := (4 : Int)) (z := l) rfl rfl (by decide) (by decide) rfl rfl rfl (by decide) rfl o_me t_me rfl ?_
    obtain ⟨F13, eF13⟩ : ∃ q, q = uF F (me) (4 : Int) (l) := ⟨_, rfl⟩
    rw [← eF13]
    have hC14 : HC 0 m tg ln F13 := by rw [eF13]; exact HC_fi (c := 11) (q := 4) hC t_me (by decide) rfl (by omega) (by omega) ⟨fun w => absurd w (by decide), fun w => absurd w (by decide)⟩
    have hM15 : Fq 0 [(12, 4)] m tg F F13 := by rw [eF13]; exact Fq_p hM0 t_me (fun _ => rfl) rfl
    refine jx_rt (v := none) rfl rfl rfl rfl rfl rfl ?_
    exact ⟨F13, rfl, rfl, hC14, hM15, trivial⟩
set_option maxRecDepth 20000 in
set_option maxHeartbeats 4000000 in
theorem k_LUses_clash_at_30 {X : jX} {d : Nat} {R : Nat → jC} {m : Nat} {tg ln : Int → Int} {F : Int → Int → Int} {a b : Int} (hd : 1 ≤ d + 1) (hC : HC 0 m tg ln F) (h_a : (-2147483648 : Int) ≤ a ∧ a ≤ 2147483647) (h_b : (-2147483648 : Int) ≤ b ∧ b ≤ 2147483647) : ∀ (L : jL) (wr : Int), jGet L 0 = some (.int (i32 (a))) → jGet L 1 = some (.int (i32 (b))) → jGet L 2 = some (.int (i32 wr)) → ((-2147483648 : Int) ≤ wr ∧ wr ≤ 2147483647) → (0 ≤ wr) → (wr ≤ 1) → wj X d jm236 (30, L, [], cV R m tg ln F) (fun o V_q => ∃ (r : Int), V_q = cV R m tg ln F ∧ o = .inl (some (.int (i32 r))) ∧ (0 ≤ r ∧ r ≤ 1) ∧ True) := by
  intro L wr gL_0 gL_1 gL_2 rx_wr iv_0 iv_1
  refine jx_ld (pc_q := 31) (l_q := L) (st_q := [.int (i32 (wr))]) rfl (jl_iloadn gL_2) ?_
  refine jx_if_ne (pc_q := 34) (tg := 43) rfl rfl rfl (by omega) (by omega) (fun h1 => ?_) (fun h1 => ?_)
  · have _q := h1
    refine jx_ar (pc_q := 44) (st_q := [.int (i32 (1))]) rfl rfl rfl rfl ?_
    refine jx_go (tg := 48) rfl rfl ?_
    refine jx_rt (v := some (.int (i32 (1)))) rfl rfl rfl rfl rfl (by first | rfl | exact jRet_b (by omega)) ?_
    exact ⟨(1), rfl, rfl, by omega, trivial⟩
  · have _q := h1
    refine jx_ld (pc_q := 35) (l_q := L) (st_q := [.int (i32 (a))]) rfl (jl_iloadn gL_0) ?_
    refine jx_ld (pc_q := 36) (l_q := L) (st_q := [.int (i32 (b)), .int (i32 (a))]) rfl (jl_iloadn gL_1) ?_
    refine jx_and (pc_q := 37) rfl rfl ?_
    obtain ⟨z2, ez2⟩ : ∃ q, q = (i32 (a) &&& i32 (b)).toInt := ⟨_, rfl⟩
    rw [← ez2]
    have bz2 : (-2147483648 : Int) ≤ z2 ∧ z2 ≤ 2147483647 := ez2 ▸ i32_rg _
    clear ez2
    refine jx_ar (pc_q := 39) (st_q := [.int (i32 (12)), .int (i32 (z2))]) rfl rfl rfl rfl ?_
    refine jx_and (pc_q := 40) rfl rfl ?_
    obtain ⟨z3, ez3⟩ : ∃ q, q = (i32 (z2) &&& i32 (12)).toInt := ⟨_, rfl⟩
    rw [← ez3]
    have bz3 : (-2147483648 : Int) ≤ z3 ∧ z3 ≤ 2147483647 := ez3 ▸ i32_rg _
    have cz3 : 0 ≤ z3 ∧ z3 ≤ 12 := ez3 ▸ and_le (by decide) (by decide)
    clear ez3
    refine jx_if_eq (pc_q := 43) (tg := 47) rfl rfl rfl (by omega) (by omega) (fun h4 => ?_) (fun h4 => ?_)
    · have _q := h4
      refine jx_ar (pc_q := 48) (st_q := [.int (i32 (0))]) rfl rfl rfl rfl ?_
      refine jx_rt (v := some (.int (i32 (0)))) rfl rfl rfl rfl rfl (by first | rfl | exact jRet_b (by omega)) ?_
      exact ⟨(0), rfl, rfl, by omega, trivial⟩
    · have _q := h4
      refine jx_ar (pc_q := 44) (st_q := [.int (i32 (1))]) rfl rfl rfl rfl ?_
      refine jx_go (tg := 48) rfl rfl ?_
      refine jx_rt (v := some (.int (i32 (1)))) rfl rfl rfl rfl rfl (by first | rfl | exact jRet_b (by omega)) ?_
      exact ⟨(1), rfl, rfl, by omega, trivial⟩
set_option maxRecDepth 20000 in
set_option maxHeartbeats 4000000 in
theorem k_LUses_clash {X : jX} {dd : Nat} {R : Nat → jC} {m : Nat} {tg ln : Int → Int} {F : Int → Int → Int} {a b : Int} (hd : 1 ≤ dd) (hC : HC 0 m tg ln F) (h_a : (-2147483648 : Int) ≤ a ∧ a ≤ 2147483647) (h_b : (-2147483648 : Int) ≤ b ∧ b ≤ 2147483647) : wk X dd 236 [.int (i32 a), .int (i32 b)] (cV R m tg ln F) (fun o V_q => ∃ (r : Int), V_q = cV R m tg ln F ∧ o = .inl (some (.int (i32 r))) ∧ (0 ≤ r ∧ r ≤ 1) ∧ True) := by
  obtain ⟨d, rfl⟩ : ∃ d, dd = d + 1 := ⟨dd - 1, by omega⟩
  refine wk_of (e := jm236) rfl (by rw [jS_i, jS_i, jS_0]; exact Nat.le_of_ble_eq_true rfl) ?_
  rw [la_i, la_i, la_0]
  show wj X d jm236 (0, [(0, .int (i32 (a))), (1, .int (i32 (b)))], [], cV R m tg ln F) _
  obtain ⟨L0, eL0⟩ : ∃ q : jL, q = [(0, .int (i32 (a))), (1, .int (i32 (b)))] := ⟨_, rfl⟩
  rw [← eL0]
  have g5 : jGet L0 0 = some (.int (i32 (a))) := eL0 ▸ (rfl : jGet [(0, .int (i32 (a))), (1, .int (i32 (b)))] 0 = some (.int (i32 (a))))
  have g6 : jGet L0 1 = some (.int (i32 (b))) := eL0 ▸ (rfl : jGet [(0, .int (i32 (a))), (1, .int (i32 (b)))] 1 = some (.int (i32 (b))))
  clear eL0
  refine jx_ld (pc_q := 1) (l_q := L0) (st_q := [.int (i32 (a))]) rfl (jl_iloadn g5) ?_
  refine jx_ar (pc_q := 2) (st_q := [.int (i32 (2)), .int (i32 (a))]) rfl rfl rfl rfl ?_
  refine jx_and (pc_q := 3) rfl rfl ?_
  obtain ⟨z7, ez7⟩ : ∃ q, q = (i32 (a) &&& i32 (2)).toInt := ⟨_, rfl⟩
  rw [← ez7]
  have bz7 : (-2147483648 : Int) ≤ z7 ∧ z7 ≤ 2147483647 := ez7 ▸ i32_rg _
  have cz7 : 0 ≤ z7 ∧ z7 ≤ 2 := ez7 ▸ and_le (by decide) (by decide)
  clear ez7
  refine jx_if_eq (pc_q := 6) (tg := 12) rfl rfl rfl (by omega) (by omega) (fun h8 => ?_) (fun h8 => ?_)
  · have _q := h8
    refine jx_ld (pc_q := 13) (l_q := L0) (st_q := [.int (i32 (b))]) rfl (jl_iloadn g6) ?_
    refine jx_ar (pc_q := 14) (st_q := [.int (i32 (2)), .int (i32 (b))]) rfl rfl rfl rfl ?_
    refine jx_and (pc_q := 15) rfl rfl ?_
    obtain ⟨z9, ez9⟩ : ∃ q, q = (i32 (b) &&& i32 (2)).toInt := ⟨_, rfl⟩
    rw [← ez9]
    have bz9 : (-2147483648 : Int) ≤ z9 ∧ z9 ≤ 2147483647 := ez9 ▸ i32_rg _
    have cz9 : 0 ≤ z9 ∧ z9 ≤ 2 := ez9 ▸ and_le (by decide) (by decide)
    clear ez9
    refine jx_if_eq (pc_q := 18) (tg := 28) rfl rfl rfl (by omega) (by omega) (fun h10 => ?_) (fun h10 => ?_)
    · have _q := h10
      refine jx_ar (pc_q := 29) (st_q := [.int (i32 (0))]) rfl rfl rfl rfl ?_
      refine jx_ld (pc_q := 30) (l_q := jSto1 L0 2 (.int (i32 (0)))) (st_q := []) rfl rfl ?_
      obtain ⟨L11, eL11⟩ : ∃ q : jL, q = jSto1 L0 2 (.int (i32 (0))) := ⟨_, rfl⟩
      rw [← eL11]
      have g12 : jGet L11 0 = some (.int (i32 (a))) := eL11 ▸ jg_ne (by decide) g5 rfl
      have g13 : jGet L11 1 = some (.int (i32 (b))) := eL11 ▸ jg_ne (by decide) g6 rfl
      have g14 : jGet L11 2 = some (.int (i32 (0))) := eL11 ▸ jg_eq
      clear eL11
      exact k_LUses_clash_at_30 (X := X) (d := d) (R := R) (m := m) (tg := tg) (ln := ln) (F := F) (a := a) (b := b) (hd := hd) (hC := hC) (h_a := h_a) (h_b := h_b) L11 (0) g12 g13 g14 (by omega) (by omega) (by omega)
    · have _q := h10
      refine jx_ld (pc_q := 19) (l_q := L0) (st_q := [.int (i32 (a))]) rfl (jl_iloadn g5) ?_
      refine jx_ar (pc_q := 20) (st_q := [.int (i32 (3)), .int (i32 (a))]) rfl rfl rfl rfl ?_
      refine jx_and (pc_q := 21) rfl rfl ?_
      obtain ⟨z15, ez15⟩ : ∃ q, q = (i32 (a) &&& i32 (3)).toInt := ⟨_, rfl⟩
      rw [← ez15]
      have bz15 : (-2147483648 : Int) ≤ z15 ∧ z15 ≤ 2147483647 := ez15 ▸ i32_rg _
      have cz15 : 0 ≤ z15 ∧ z15 ≤ 3 := ez15 ▸ and_le (by decide) (by decide)
      clear ez15
      refine jx_if_eq (pc_q := 24) (tg := 28) rfl rfl rfl (by omega) (by omega) (fun h16 => ?_) (fun h16 => ?_)
      · have _q := h16
        refine jx_ar (pc_q := 29) (st_q := [.int (i32 (0))]) rfl rfl rfl rfl ?_
        refine jx_ld (pc_q := 30) (l_q := jSto1 L0 2 (.int (i32 (0)))) (st_q := []) rfl rfl ?_
        obtain ⟨L17, eL17⟩ : ∃ q : jL, q = jSto1 L0 2 (.int (i32 (0))) := ⟨_, rfl⟩
        rw [← eL17]
        have g18 : jGet L17 0 = some (.int (i32 (a))) := eL17 ▸ jg_ne (by decide) g5 rfl
        have g19 : jGet L17 1 = some (.int (i32 (b))) := eL17 ▸ jg_ne (by decide) g6 rfl
        have g20 : jGet L17 2 = some (.int (i32 (0))) := eL17 ▸ jg_eq
        clear eL17
        exact k_LUses_clash_at_30 (X := X) (d := d) (R := R) (m := m) (tg := tg) (ln := ln) (F := F) (a := a) (b := b) (hd := hd) (hC := hC) (h_a := h_a) (h_b := h_b) L17 (0) g18 g19 g20 (by omega) (by omega) (by omega)
      · have _q := h16
        refine jx_ar (pc_q := 25) (st_q := [.int (i32 (1))]) rfl rfl rfl rfl ?_
        refine jx_go (tg := 29) rfl rfl ?_
        refine jx_ld (pc_q := 30) (l_q := jSto1 L0 2 (.int (i32 (1)))) (st_q := []) rfl rfl ?_
        obtain ⟨L21, eL21⟩ : ∃ q : jL, q = jSto1 L0 2 (.int (i32 (1))) := ⟨_, rfl⟩
        rw [← eL21]
        have g22 : jGet L21 0 = some (.int (i32 (a))) := eL21 ▸ jg_ne (by decide) g5 rfl
        have g23 : jGet L21 1 = some (.int (i32 (b))) := eL21 ▸ jg_ne (by decide) g6 rfl
        have g24 : jGet L21 2 = some (.int (i32 (1))) := eL21 ▸ jg_eq
        clear eL21
        exact k_LUses_clash_at_30 (X := X) (d := d) (R := R) (m := m) (tg := tg) (ln := ln) (F := F) (a := a) (b := b) (hd := hd) (hC := hC) (h_a := h_a) (h_b := h_b) L21 (1) g22 g23 g24 (by omega) (by omega) (by omega)
  · have _q := h8
    refine jx_ld (pc_q := 7) (l_q := L0) (st_q := [.int (i32 (b))]) rfl (jl_iloadn g6) ?_
    refine jx_ar (pc_q := 8) (st_q := [.int (i32 (3)), .int (i32 (b))]) rfl rfl rfl rfl ?_
    refine jx_and (pc_q := 9) rfl rfl ?_
    obtain ⟨z25, ez25⟩ : ∃ q, q = (i32 (b) &&& i32 (3)).toInt := ⟨_, rfl⟩
    rw [← ez25]
    have bz25 : (-2147483648 : Int) ≤ z25 ∧ z25 ≤ 2147483647 := ez25 ▸ i32_rg _
    have cz25 : 0 ≤ z25 ∧ z25 ≤ 3 := ez25 ▸ and_le (by decide) (by decide)
    clear ez25
    refine jx_if_ne (pc_q := 12) (tg := 24) rfl rfl rfl (by omega) (by omega) (fun h26 => ?_) (fun h26 => ?_)
    · have _q := h26
      refine jx_ar (pc_q := 25) (st_q := [.int (i32 (1))]) rfl rfl rfl rfl ?_
      refine jx_go (tg := 29) rfl rfl ?_
      refine jx_ld (pc_q := 30) (l_q := jSto1 L0 2 (.int (i32 (1)))) (st_q := []) rfl rfl ?_
      obtain ⟨L27, eL27⟩ : ∃ q : jL, q = jSto1 L0 2 (.int (i32 (1))) := ⟨_, rfl⟩
      rw [← eL27]
      have g28 : jGet L27 0 = some (.int (i32 (a))) := eL27 ▸ jg_ne (by decide) g5 rfl
      have g29 : jGet L27 1 = some (.int (i32 (b))) := eL27 ▸ jg_ne (by decide) g6 rfl
      have g30 : jGet L27 2 = some (.int (i32 (1))) := eL27 ▸ jg_eq
      clear eL27
      exact k_LUses_clash_at_30 (X := X) (d := d) (R := R) (m := m) (tg := tg) (ln := ln) (F := F) (a := a) (b := b) (hd := hd) (hC := hC) (h_a := h_a) (h_b := h_b) L27 (1) g28 g29 g30 (by omega) (by omega) (by omega)
    · have _q := h26
      refine jx_ld (pc_q := 13) (l_q := L0) (st_q := [.int (i32 (b))]) rfl (jl_iloadn g6) ?_
      refine jx_ar (pc_q := 14) (st_q := [.int (i32 (2)), .int (i32 (b))]) rfl rfl rfl rfl ?_
      refine jx_and (pc_q := 15) rfl rfl ?_
      obtain ⟨z31, ez31⟩ : ∃ q, q = (i32 (b) &&& i32 (2)).toInt := ⟨_, rfl⟩
      rw [← ez31]
      have bz31 : (-2147483648 : Int) ≤ z31 ∧ z31 ≤ 2147483647 := ez31 ▸ i32_rg _
      have cz31 : 0 ≤ z31 ∧ z31 ≤ 2 := ez31 ▸ and_le (by decide) (by decide)
      clear ez31
      refine jx_if_eq (pc_q := 18) (tg := 28) rfl rfl rfl (by omega) (by omega) (fun h32 => ?_) (fun h32 => ?_)
      · have _q := h32
        refine jx_ar (pc_q := 29) (st_q := [.int (i32 (0))]) rfl rfl rfl rfl ?_
        refine jx_ld (pc_q := 30) (l_q := jSto1 L0 2 (.int (i32 (0)))) (st_q := []) rfl rfl ?_
        obtain ⟨L33, eL33⟩ : ∃ q : jL, q = jSto1 L0 2 (.int (i32 (0))) := ⟨_, rfl⟩
        rw [← eL33]
        have g34 : jGet L33 0 = some (.int (i32 (a))) := eL33 ▸ jg_ne (by decide) g5 rfl
        have g35 : jGet L33 1 = some (.int (i32 (b))) := eL33 ▸ jg_ne (by decide) g6 rfl
        have g36 : jGet L33 2 = some (.int (i32 (0))) := eL33 ▸ jg_eq
        clear eL33
        exact k_LUses_clash_at_30 (X := X) (d := d) (R := R) (m := m) (tg := tg) (ln := ln) (F := F) (a := a) (b := b) (hd := hd) (hC := hC) (h_a := h_a) (h_b := h_b) L33 (0) g34 g35 g36 (by omega) (by omega) (by omega)
      · have _q := h32
        refine jx_ld (pc_q := 19) (l_q := L0) (st_q := [.int (i32 (a))]) rfl (jl_iloadn g5) ?_
        refine jx_ar (pc_q := 20) (st_q := [.int (i32 (3)), .int (i32 (a))]) rfl rfl rfl rfl ?_
        refine jx_and (pc_q := 21) rfl rfl ?_
        obtain ⟨z37, ez37⟩ : ∃ q, q = (i32 (a) &&& i32 (3)).toInt := ⟨_, rfl⟩
        rw [← ez37]
        have bz37 : (-2147483648 : Int) ≤ z37 ∧ z37 ≤ 2147483647 := ez37 ▸ i32_rg _
        have cz37 : 0 ≤ z37 ∧ z37 ≤ 3 := ez37 ▸ and_le (by decide) (by decide)
        clear ez37
        refine jx_if_eq (pc_q := 24) (tg := 28) rfl rfl rfl (by omega) (by omega) (fun h38 => ?_) (fun h38 => ?_)
        · have _q := h38
          refine jx_ar (pc_q := 29) (st_q := [.int (i32 (0))]) rfl rfl rfl rfl ?_
          refine jx_ld (pc_q := 30) (l_q := jSto1 L0 2 (.int (i32 (0)))) (st_q := []) rfl rfl ?_
          obtain ⟨L39, eL39⟩ : ∃ q : jL, q = jSto1 L0 2 (.int (i32 (0))) := ⟨_, rfl⟩
          rw [← eL39]
          have g40 : jGet L39 0 = some (.int (i32 (a))) := eL39 ▸ jg_ne (by decide) g5 rfl
          have g41 : jGet L39 1 = some (.int (i32 (b))) := eL39 ▸ jg_ne (by decide) g6 rfl
          have g42 : jGet L39 2 = some (.int (i32 (0))) := eL39 ▸ jg_eq
          clear eL39
          exact k_LUses_clash_at_30 (X := X) (d := d) (R := R) (m := m) (tg := tg) (ln := ln) (F := F) (a := a) (b := b) (hd := hd) (hC := hC) (h_a := h_a) (h_b := h_b) L39 (0) g40 g41 g42 (by omega) (by omega) (by omega)
        · have _q := h38
          refine jx_ar (pc_q := 25) (st_q := [.int (i32 (1))]) rfl rfl rfl rfl ?_
          refine jx_go (tg := 29) rfl rfl ?_
          refine jx_ld (pc_q := 30) (l_q := jSto1 L0 2 (.int (i32 (1)))) (st_q := []) rfl rfl ?_
          obtain ⟨L43, eL43⟩ : ∃ q : jL, q = jSto1 L0 2 (.int (i32 (1))) := ⟨_, rfl⟩
          rw [← eL43]
          have g44 : jGet L43 0 = some (.int (i32 (a))) := eL43 ▸ jg_ne (by decide) g5 rfl
          have g45 : jGet L43 1 = some (.int (i32 (b))) := eL43 ▸ jg_ne (by decide) g6 rfl
          have g46 : jGet L43 2 = some (.int (i32 (1))) := eL43 ▸ jg_eq
          clear eL43
          exact k_LUses_clash_at_30 (X := X) (d := d) (R := R) (m := m) (tg := tg) (ln := ln) (F := F) (a := a) (b := b) (hd := hd) (hC := hC) (h_a := h_a) (h_b := h_b) L43 (1) g44 g45 g46 (by omega) (by omega) (by omega)
set_option maxRecDepth 20000 in
set_option maxHeartbeats 4000000 in
theorem k_LUses_elementOf {X : jX} {dd : Nat} {R : Nat → jC} {m : Nat} {tg ln : Int → Int} {F : Int → Int → Int} {p k : Int} (hd : 1 ≤ dd) (hC : HC 0 m tg ln F) (o_p : own m p) (t_p : tg p = 8) (h_k : (-2147483648 : Int) ≤ k ∧ k ≤ 2147483647) : wk X dd 242 [rv p, .int (i32 k)] (cV R m tg ln F) (fun o V_q => ∃ (r : Int), V_q = cV R m tg ln F ∧ o = .inl (some (.int (i32 r))) ∧ (-2147483648 ≤ r ∧ r ≤ 2147483647) ∧ True) := by
  obtain ⟨d, rfl⟩ : ∃ d, dd = d + 1 := ⟨dd - 1, by omega⟩
  refine wk_of (e := jm242) rfl (by rw [jS_r, jS_i, jS_0]; exact Nat.le_of_ble_eq_true rfl) ?_
  rw [la_r, la_i, la_0]
  show wj X d jm242 (0, [(0, rv (p)), (1, .int (i32 (k)))], [], cV R m tg ln F) _
  obtain ⟨L0, eL0⟩ : ∃ q : jL, q = [(0, rv (p)), (1, .int (i32 (k)))] := ⟨_, rfl⟩
  rw [← eL0]
  have g1 : jGet L0 0 = some (rv (p)) := eL0 ▸ (rfl : jGet [(0, rv (p)), (1, .int (i32 (k)))] 0 = some (rv (p)))
  have g2 : jGet L0 1 = some (.int (i32 (k))) := eL0 ▸ (rfl : jGet [(0, rv (p)), (1, .int (i32 (k)))] 1 = some (.int (i32 (k))))
  clear eL0
  refine jx_ld (pc_q := 1) (l_q := L0) (st_q := [rv (p)]) rfl (jl_rvn g1) ?_
  refine cx_gr (pc_q := 4) (c := 7) (q := 17) (v := F (p) (17 : Int)) rfl rfl (by decide) (by decide) rfl rfl o_p t_p rfl ?_
  have y3 : F (p) (17 : Int) = 0 ∨ (own m (F (p) (17 : Int)) ∧ tg (F (p) (17 : Int)) = 7) := by have z := HC_r (c := 7) (q := 17) hC o_p t_p (by decide) rfl; rw [show F (p) ((17 : Nat) : Int) = F (p) (17 : Int) from rfl] at z; exact z
  refine cx_non (pc_q := 7) (tg_q := 14) rfl rfl rfl (fun h4 => ?_) (fun h4 => ?_)
  · have _q := h4
    have ho5 : own m (F (p) (17 : Int)) ∧ tg (F (p) (17 : Int)) = 7 := y3.resolve_left h4
    refine jx_ld (pc_q := 15) (l_q := L0) (st_q := [rv (p)]) rfl (jl_rvn g1) ?_
    refine cx_gr (pc_q := 18) (c := 7) (q := 17) (v := F (p) (17 : Int)) rfl rfl (by decide) (by decide) rfl rfl o_p t_p rfl ?_
    refine cx_gi (pc_q := 21) (c := 6) (q := 7) (v := F (F (p) (17 : Int)) (7 : Int)) rfl rfl (by decide) (by decide) (Or.inl rfl) rfl ho5.1 ho5.2 rfl ?_
    have b6 : (-2147483648 : Int) ≤ F (F (p) (17 : Int)) (7 : Int) ∧ F (F (p) (17 : Int)) (7 : Int) ≤ 2147483647 := by have z := HC_i (c := 6) (q := 7) hC ho5.1 ho5.2 (by decide) rfl; rw [show F (F (p) (17 : Int)) ((7 : Nat) : Int) = F (F (p) (17 : Int)) (7 : Int) from rfl] at z; exact z
    refine jx_ld (pc_q := 22) (l_q := L0) (st_q := [.int (i32 (k)), .int (i32 (F (F (p) (17 : Int)) (7 : Int)))]) rfl (jl_iloadn g2) ?_
    refine jx_add (pc_q := 23) rfl rfl ?_
    obtain ⟨z7, ez7⟩ : ∃ q, q = (i32 ((F (F (p) (17 : Int)) (7 : Int) + k))).toInt := ⟨_, rfl⟩
    have bz7 : (-2147483648 : Int) ≤ z7 ∧ z7 ≤ 2147483647 := ez7 ▸ i32_rg _
    rw [show i32 ((F (F (p) (17 : Int)) (7 : Int) + k)) = i32 z7 by rw [ez7, i32_of]]
    clear ez7
    refine jx_ld (pc_q := 24) (l_q := L0) (st_q := [rv (p), .int (i32 (z7))]) rfl (jl_rvn g1) ?_
    refine cx_gi (pc_q := 27) (c := 7) (q := 18) (v := F (p) (18 : Int)) rfl rfl (by decide) (by decide) (Or.inl rfl) rfl o_p t_p rfl ?_
    have b8 : (-2147483648 : Int) ≤ F (p) (18 : Int) ∧ F (p) (18 : Int) ≤ 2147483647 := by have z := HC_i (c := 7) (q := 18) hC o_p t_p (by decide) rfl; rw [show F (p) ((18 : Nat) : Int) = F (p) (18 : Int) from rfl] at z; exact z
    refine jx_add (pc_q := 28) rfl rfl ?_
    obtain ⟨z9, ez9⟩ : ∃ q, q = (i32 ((z7 + F (p) (18 : Int)))).toInt := ⟨_, rfl⟩
    have bz9 : (-2147483648 : Int) ≤ z9 ∧ z9 ≤ 2147483647 := ez9 ▸ i32_rg _
    rw [show i32 ((z7 + F (p) (18 : Int))) = i32 z9 by rw [ez9, i32_of]]
    clear ez9
    refine jx_rt (v := some (.int (i32 (z9)))) rfl rfl rfl rfl rfl rfl ?_
    exact ⟨(z9), rfl, rfl, by omega, trivial⟩
  · have _q := h4
    refine jx_ld (pc_q := 8) (l_q := L0) (st_q := [rv (p)]) rfl (jl_rvn g1) ?_
    refine cx_gi (pc_q := 11) (c := 7) (q := 18) (v := F (p) (18 : Int)) rfl rfl (by decide) (by decide) (Or.inl rfl) rfl o_p t_p rfl ?_
    have b10 : (-2147483648 : Int) ≤ F (p) (18 : Int) ∧ F (p) (18 : Int) ≤ 2147483647 := by have z := HC_i (c := 7) (q := 18) hC o_p t_p (by decide) rfl; rw [show F (p) ((18 : Nat) : Int) = F (p) (18 : Int) from rfl] at z; exact z
    refine jx_go (tg := 28) rfl rfl ?_
    refine jx_rt (v := some (.int (i32 (F (p) (18 : Int))))) rfl rfl rfl rfl rfl rfl ?_
    exact ⟨(F (p) (18 : Int)), rfl, rfl, by omega, trivial⟩
set_option maxRecDepth 20000 in
set_option maxHeartbeats 4000000 in
theorem k_LUses_atOnce {X : jX} {dd : Nat} {R : Nat → jC} {m : Nat} {tg ln : Int → Int} {F : Int → Int → Int} {by_ k j ix : Int} (hd : 1 ≤ dd) (hC : HC 0 m tg ln F) (o_by_ : own m by_) (t_by_ : tg by_ = 7) (h_k : (-2147483648 : Int) ≤ k ∧ k ≤ 2147483647) (h_j : (-2147483648 : Int) ≤ j ∧ j ≤ 2147483647) (y_ix : ix = 0 ∨ (own m ix ∧ tg ix = 7)) : wk X dd 241 [rv by_, .int (i32 k), .int (i32 j), rv ix] (cV R m tg ln F) (fun o V_q => ∃ (r : Int), V_q = cV R m tg ln F ∧ o = .inl (some (.int (i32 r))) ∧ (0 ≤ r ∧ r ≤ 1) ∧ True) := by
  obtain ⟨d, rfl⟩ : ∃ d, dd = d + 1 := ⟨dd - 1, by omega⟩
  refine wk_of (e := jm241) rfl (by rw [jS_r, jS_i, jS_i, jS_r, jS_0]; exact Nat.le_of_ble_eq_true rfl) ?_
  rw [la_r, la_i, la_i, la_r, la_0]
  show wj X d jm241 (0, [(0, rv (by_)), (1, .int (i32 (k))), (2, .int (i32 (j))), (3, rv (ix))], [], cV R m tg ln F) _
  obtain ⟨L0, eL0⟩ : ∃ q : jL, q = [(0, rv (by_)), (1, .int (i32 (k))), (2, .int (i32 (j))), (3, rv (ix))] := ⟨_, rfl⟩
  rw [← eL0]
  have g1 : jGet L0 0 = some (rv (by_)) := eL0 ▸ (rfl : jGet [(0, rv (by_)), (1, .int (i32 (k))), (2, .int (i32 (j))), (3, rv (ix))] 0 = some (rv (by_)))
  have g2 : jGet L0 1 = some (.int (i32 (k))) := eL0 ▸ (rfl : jGet [(0, rv (by_)), (1, .int (i32 (k))), (2, .int (i32 (j))), (3, rv (ix))] 1 = some (.int (i32 (k))))
  have g3 : jGet L0 2 = some (.int (i32 (j))) := eL0 ▸ (rfl : jGet [(0, rv (by_)), (1, .int (i32 (k))), (2, .int (i32 (j))), (3, rv (ix))] 2 = some (.int (i32 (j))))
  have g4 : jGet L0 3 = some (rv (ix)) := eL0 ▸ (rfl : jGet [(0, rv (by_)), (1, .int (i32 (k))), (2, .int (i32 (j))), (3, rv (ix))] 3 = some (rv (ix)))
  clear eL0
  refine jx_ld (pc_q := 1) (l_q := L0) (st_q := [rv (ix)]) rfl (jl_rvn g4) ?_
  refine cx_nul (pc_q := 4) (tg_q := 15) rfl rfl rfl (fun h5 => ?_) (fun h5 => ?_)
  · have _q := h5
    refine jx_ld (pc_q := 16) (l_q := L0) (st_q := [.int (i32 (k))]) rfl (jl_iloadn g2) ?_
    refine jx_ld (pc_q := 17) (l_q := L0) (st_q := [.int (i32 (j)), .int (i32 (k))]) rfl (jl_iloadn g3) ?_
    refine jx_icmp_ne (pc_q := 20) (tg := 24) rfl rfl rfl (by omega) (by omega) (by omega) (by omega) (fun h6 => ?_) (fun h6 => ?_)
    · have _q := h6
      refine jx_ar (pc_q := 25) (st_q := [.int (i32 (0))]) rfl rfl rfl rfl ?_
      refine jx_rt (v := some (.int (i32 (0)))) rfl rfl rfl rfl rfl (by first | rfl | exact jRet_b (by omega)) ?_
      exact ⟨(0), rfl, rfl, by omega, trivial⟩
    · have _q := h6
      refine jx_ar (pc_q := 21) (st_q := [.int (i32 (1))]) rfl rfl rfl rfl ?_
      refine jx_go (tg := 25) rfl rfl ?_
      refine jx_rt (v := some (.int (i32 (1)))) rfl rfl rfl rfl rfl (by first | rfl | exact jRet_b (by omega)) ?_
      exact ⟨(1), rfl, rfl, by omega, trivial⟩
  · have _q := h5
    have ho7 : own m (ix) ∧ tg (ix) = 7 := y_ix.resolve_left h5
    refine jx_ld (pc_q := 5) (l_q := L0) (st_q := [rv (by_)]) rfl (jl_rvn g1) ?_
    refine cx_gi (pc_q := 8) (c := 6) (q := 2) (v := F (by_) (2 : Int)) rfl rfl (by decide) (by decide) (Or.inl rfl) rfl o_by_ t_by_ rfl ?_
    have b8 : (-2147483648 : Int) ≤ F (by_) (2 : Int) ∧ F (by_) (2 : Int) ≤ 2147483647 := by have z := HC_i (c := 6) (q := 2) hC o_by_ t_by_ (by decide) rfl; rw [show F (by_) ((2 : Nat) : Int) = F (by_) (2 : Int) from rfl] at z; exact z
    refine jx_ld (pc_q := 9) (l_q := L0) (st_q := [rv (ix), .int (i32 (F (by_) (2 : Int)))]) rfl (jl_rvn g4) ?_
    refine cx_gi (pc_q := 12) (c := 6) (q := 2) (v := F (ix) (2 : Int)) rfl rfl (by decide) (by decide) (Or.inl rfl) rfl ho7.1 ho7.2 rfl ?_
    have b9 : (-2147483648 : Int) ≤ F (ix) (2 : Int) ∧ F (ix) (2 : Int) ≤ 2147483647 := by have z := HC_i (c := 6) (q := 2) hC ho7.1 ho7.2 (by decide) rfl; rw [show F (ix) ((2 : Nat) : Int) = F (ix) (2 : Int) from rfl] at z; exact z
    refine jx_icmp_ge (pc_q := 15) (tg := 26) rfl rfl rfl (by omega) (by omega) (by omega) (by omega) (fun h10 => ?_) (fun h10 => ?_)
    · have _q := h10
      refine jx_ld (pc_q := 27) (l_q := L0) (st_q := [rv (by_)]) rfl (jl_rvn g1) ?_
      refine jx_ld (pc_q := 28) (l_q := L0) (st_q := [rv (ix), rv (by_)]) rfl (jl_rvn g4) ?_
      refine cx_ane (pc_q := 31) (tg_q := 36) rfl rfl rfl (Or.inr ho7.1.1) (Or.inr o_by_.1) (fun h11 => ?_) (fun h11 => ?_)
      · have _q := h11
        refine jx_ar (pc_q := 37) (st_q := [.int (i32 (1))]) rfl rfl rfl rfl ?_
        refine jx_go (tg := 41) rfl rfl ?_
        refine jx_rt (v := some (.int (i32 (1)))) rfl rfl rfl rfl rfl (by first | rfl | exact jRet_b (by omega)) ?_
        exact ⟨(1), rfl, rfl, by omega, trivial⟩
      · have _q := h11
        refine jx_ld (pc_q := 32) (l_q := L0) (st_q := [.int (i32 (k))]) rfl (jl_iloadn g2) ?_
        refine jx_ld (pc_q := 33) (l_q := L0) (st_q := [.int (i32 (j)), .int (i32 (k))]) rfl (jl_iloadn g3) ?_
        refine jx_icmp_eq (pc_q := 36) (tg := 40) rfl rfl rfl (by omega) (by omega) (by omega) (by omega) (fun h12 => ?_) (fun h12 => ?_)
        · have _q := h12
          refine jx_ar (pc_q := 41) (st_q := [.int (i32 (0))]) rfl rfl rfl rfl ?_
          refine jx_rt (v := some (.int (i32 (0)))) rfl rfl rfl rfl rfl (by first | rfl | exact jRet_b (by omega)) ?_
          exact ⟨(0), rfl, rfl, by omega, trivial⟩
        · have _q := h12
          refine jx_ar (pc_q := 37) (st_q := [.int (i32 (1))]) rfl rfl rfl rfl ?_
          refine jx_go (tg := 41) rfl rfl ?_
          refine jx_rt (v := some (.int (i32 (1)))) rfl rfl rfl rfl rfl (by first | rfl | exact jRet_b (by omega)) ?_
          exact ⟨(1), rfl, rfl, by omega, trivial⟩
    · have _q := h10
      refine jx_ld (pc_q := 16) (l_q := L0) (st_q := [.int (i32 (k))]) rfl (jl_iloadn g2) ?_
      refine jx_ld (pc_q := 17) (l_q := L0) (st_q := [.int (i32 (j)), .int (i32 (k))]) rfl (jl_iloadn g3) ?_
      refine jx_icmp_ne (pc_q := 20) (tg := 24) rfl rfl rfl (by omega) (by omega) (by omega) (by omega) (fun h13 => ?_) (fun h13 => ?_)
      · have _q := h13
        refine jx_ar (pc_q := 25) (st_q := [.int (i32 (0))]) rfl rfl rfl rfl ?_
        refine jx_rt (v := some (.int (i32 (0)))) rfl rfl rfl rfl rfl (by first | rfl | exact jRet_b (by omega)) ?_
        exact ⟨(0), rfl, rfl, by omega, trivial⟩
      · have _q := h13
        refine jx_ar (pc_q := 21) (st_q := [.int (i32 (1))]) rfl rfl rfl rfl ?_
        refine jx_go (tg := 25) rfl rfl ?_
        refine jx_rt (v := some (.int (i32 (1)))) rfl rfl rfl rfl rfl (by first | rfl | exact jRet_b (by omega)) ?_
        exact ⟨(1), rfl, rfl, by omega, trivial⟩
set_option maxRecDepth 20000 in
set_option maxHeartbeats 4000000 in
theorem k_LUses_meets_at_58 {X : jX} {d : Nat} {R : Nat → jC} {m : Nat} {tg ln : Int → Int} {F : Int → Int → Int} {p o ix : Int} (hd : 2 ≤ d + 1) (hC : HC 0 m tg ln F) (o_p : own m p) (t_p : tg p = 8) (o_o : own m o) (t_o : tg o = 8) (y_ix : ix = 0 ∨ (own m ix ∧ tg ix = 7)) : ∀ (mm : Nat) (L : jL) (mn mr k : Int), (mn - k).toNat = mm → jGet L 0 = some (rv (p)) → jGet L 1 = some (rv (o)) → jGet L 2 = some (rv (ix)) → jGet L 3 = some (.int (i32 mn)) → jGet L 4 = some (.int (i32 mr)) → jGet L 5 = some (.int (i32 k)) → ((-2147483648 : Int) ≤ mn ∧ mn ≤ 2147483647) → ((-2147483648 : Int) ≤ mr ∧ mr ≤ 2147483647) → ((-2147483648 : Int) ≤ k ∧ k ≤ 2147483647) → (0 ≤ k) → wj X d jm240 (58, L, [], cV R m tg ln F) (fun o V_q => ∃ (r : Int), V_q = cV R m tg ln F ∧ o = .inl (some (.int (i32 r))) ∧ (0 ≤ r ∧ r ≤ 1) ∧ True) := by
  intro mm
  induction mm using Nat.strongRecOn with
  | ind mm ih =>
    intro L mn mr k hmm gL_0 gL_1 gL_2 gL_3 gL_4 gL_5 rx_mn rx_mr rx_k iv_0
    refine jx_ld (pc_q := 60) (l_q := L) (st_q := [.int (i32 (k))]) rfl (jl_iload gL_5) ?_
    refine jx_ld (pc_q := 61) (l_q := L) (st_q := [.int (i32 (mn)), .int (i32 (k))]) rfl (jl_iloadn gL_3) ?_
    refine jx_icmp_ge (pc_q := 64) (tg := 148) rfl rfl rfl (by omega) (by omega) (by omega) (by omega) (fun h1 => ?_) (fun h1 => ?_)
    · have _q := h1
      refine jx_ar (pc_q := 149) (st_q := [.int (i32 (0))]) rfl rfl rfl rfl ?_
      refine jx_rt (v := some (.int (i32 (0)))) rfl rfl rfl rfl rfl (by first | rfl | exact jRet_b (by omega)) ?_
      exact ⟨(0), rfl, rfl, by omega, trivial⟩
    · have _q := h1
      refine jx_ar (pc_q := 65) (st_q := [.int (i32 (0))]) rfl rfl rfl rfl ?_
      refine jx_ld (pc_q := 67) (l_q := jSto1 L 6 (.int (i32 (0)))) (st_q := []) rfl rfl ?_
      obtain ⟨L2, eL2⟩ : ∃ q : jL, q = jSto1 L 6 (.int (i32 (0))) := ⟨_, rfl⟩
      rw [← eL2]
      have g3 : jGet L2 0 = some (rv (p)) := eL2 ▸ jg_nr (by decide) gL_0
      have g4 : jGet L2 1 = some (rv (o)) := eL2 ▸ jg_nr (by decide) gL_1
      have g5 : jGet L2 2 = some (rv (ix)) := eL2 ▸ jg_nr (by decide) gL_2
      have g6 : jGet L2 3 = some (.int (i32 (mn))) := eL2 ▸ jg_ne (by decide) gL_3 rfl
      have g7 : jGet L2 4 = some (.int (i32 (mr))) := eL2 ▸ jg_ne (by decide) gL_4 rfl
      have g8 : jGet L2 5 = some (.int (i32 (k))) := eL2 ▸ jg_ne (by decide) gL_5 rfl
      have g9 : jGet L2 6 = some (.int (i32 (0))) := eL2 ▸ jg_eq
      clear eL2
      have hin : ∀ (mm2 : Nat) (L2 : jL) (j : Int), (mr - j).toNat = mm2 → jGet L2 0 = some (rv (p)) → jGet L2 1 = some (rv (o)) → jGet L2 2 = some (rv (ix)) → jGet L2 3 = some (.int (i32 (mn))) → jGet L2 4 = some (.int (i32 (mr))) → jGet L2 5 = some (.int (i32 (k))) → jGet L2 6 = some (.int (i32 j)) → ((-2147483648 : Int) ≤ j ∧ j ≤ 2147483647) → (0 ≤ j) → wj X d jm240 (67, L2, [], cV R m tg ln F) (fun o V_q => ∃ (r : Int), V_q = cV R m tg ln F ∧ o = .inl (some (.int (i32 r))) ∧ (0 ≤ r ∧ r ≤ 1) ∧ True) := by
        intro mm2
        induction mm2 using Nat.strongRecOn with
        | ind mm2 ih2 =>
          intro L2 j hmm2 gL2_0 gL2_1 gL2_2 gL2_3 gL2_4 gL2_5 gL2_6 rx2_j iv2_0
          refine jx_ld (pc_q := 69) (l_q := L2) (st_q := [.int (i32 (j))]) rfl (jl_iload gL2_6) ?_
          refine jx_ld (pc_q := 71) (l_q := L2) (st_q := [.int (i32 (mr)), .int (i32 (j))]) rfl (jl_iload gL2_4) ?_
          refine jx_icmp_ge (pc_q := 74) (tg := 142) rfl rfl rfl (by omega) (by omega) (by omega) (by omega) (fun h10 => ?_) (fun h10 => ?_)
          · have _q := h10
            refine jx_inc (pc_q := 145) (l_q := jSto1 L2 5 (.int (i32 (k + (1))))) (x := k) rfl gL2_5 (by decide) rfl rfl ?_
            obtain ⟨L11, eL11⟩ : ∃ q : jL, q = jSto1 L2 5 (.int (i32 ((k + (1))))) := ⟨_, rfl⟩
            rw [← eL11]
            have g12 : jGet L11 0 = some (rv (p)) := eL11 ▸ jg_nr (by decide) gL2_0
            have g13 : jGet L11 1 = some (rv (o)) := eL11 ▸ jg_nr (by decide) gL2_1
            have g14 : jGet L11 2 = some (rv (ix)) := eL11 ▸ jg_nr (by decide) gL2_2
            have g15 : jGet L11 3 = some (.int (i32 (mn))) := eL11 ▸ jg_ne (by decide) gL2_3 rfl
            have g16 : jGet L11 4 = some (.int (i32 (mr))) := eL11 ▸ jg_ne (by decide) gL2_4 rfl
            have g17 : jGet L11 6 = some (.int (i32 (j))) := eL11 ▸ jg_ne (by decide) gL2_6 rfl
            have g18 : jGet L11 5 = some (.int (i32 ((k + (1))))) := eL11 ▸ jg_eq
            clear eL11
            refine jx_go (tg := 58) rfl rfl ?_
            exact ih _ (by omega) L11 (mn) (mr) ((k + (1))) rfl g12 g13 g14 g15 g16 g18 (by omega) (by omega) (by omega) (by omega)
          · have _q := h10
            refine jx_ld (pc_q := 75) (l_q := L2) (st_q := [rv (p)]) rfl (jl_rvn gL2_0) ?_
            refine cx_gr (pc_q := 78) (c := 7) (q := 17) (v := F (p) (17 : Int)) rfl rfl (by decide) (by decide) rfl rfl o_p t_p rfl ?_
            have y19 : F (p) (17 : Int) = 0 ∨ (own m (F (p) (17 : Int)) ∧ tg (F (p) (17 : Int)) = 7) := by have z := HC_r (c := 7) (q := 17) hC o_p t_p (by decide) rfl; rw [show F (p) ((17 : Nat) : Int) = F (p) (17 : Int) from rfl] at z; exact z
            refine jx_ld (pc_q := 79) (l_q := L2) (st_q := [rv (o), rv (F (p) (17 : Int))]) rfl (jl_rvn gL2_1) ?_
            refine cx_gr (pc_q := 82) (c := 7) (q := 17) (v := F (o) (17 : Int)) rfl rfl (by decide) (by decide) rfl rfl o_o t_o rfl ?_
            have y20 : F (o) (17 : Int) = 0 ∨ (own m (F (o) (17 : Int)) ∧ tg (F (o) (17 : Int)) = 7) := by have z := HC_r (c := 7) (q := 17) hC o_o t_o (by decide) rfl; rw [show F (o) ((17 : Nat) : Int) = F (o) (17 : Int) from rfl] at z; exact z
            refine cx_ane (pc_q := 85) (tg_q := 107) rfl rfl rfl (y20.imp_right (fun h => h.1.1)) (y19.imp_right (fun h => h.1.1)) (fun h21 => ?_) (fun h21 => ?_)
            · have _q := h21
              refine jx_ar (pc_q := 108) (st_q := [.int (i32 (1))]) rfl rfl rfl rfl ?_
              refine jx_go (tg := 112) rfl rfl ?_
              refine jx_ld (pc_q := 114) (l_q := jSto1 L2 7 (.int (i32 (1)))) (st_q := []) rfl rfl ?_
              obtain ⟨L22, eL22⟩ : ∃ q : jL, q = jSto1 L2 7 (.int (i32 (1))) := ⟨_, rfl⟩
              rw [← eL22]
              have g23 : jGet L22 0 = some (rv (p)) := eL22 ▸ jg_nr (by decide) gL2_0
              have g24 : jGet L22 1 = some (rv (o)) := eL22 ▸ jg_nr (by decide) gL2_1
              have g25 : jGet L22 2 = some (rv (ix)) := eL22 ▸ jg_nr (by decide) gL2_2
              have g26 : jGet L22 3 = some (.int (i32 (mn))) := eL22 ▸ jg_ne (by decide) gL2_3 rfl
              have g27 : jGet L22 4 = some (.int (i32 (mr))) := eL22 ▸ jg_ne (by decide) gL2_4 rfl
              have g28 : jGet L22 5 = some (.int (i32 (k))) := eL22 ▸ jg_ne (by decide) gL2_5 rfl
              have g29 : jGet L22 6 = some (.int (i32 (j))) := eL22 ▸ jg_ne (by decide) gL2_6 rfl
              have g30 : jGet L22 7 = some (.int (i32 (1))) := eL22 ▸ jg_eq
              clear eL22
              refine jx_ld (pc_q := 116) (l_q := L22) (st_q := [.int (i32 (1))]) rfl (jl_iload g30) ?_
              refine jx_if_eq (pc_q := 119) (tg := 136) rfl rfl rfl (by decide) (by decide) (fun h31 => ?_) (fun h31 => ?_)
              · have _q := h31
                exact absurd h31 (by omega)
              · have _q := h31
                refine jx_ld (pc_q := 120) (l_q := L22) (st_q := [rv (p)]) rfl (jl_rvn g23) ?_
                refine jx_ld (pc_q := 122) (l_q := L22) (st_q := [.int (i32 (k)), rv (p)]) rfl (jl_iload g28) ?_
                refine cx_st (st := []) (as := [rv (p), .int (i32 (k))]) rfl rfl rfl ⟨rfl, (Nat.le_of_ble_eq_true rfl)⟩ rfl (k_LUses_elementOf (dd := d) (R := R) (m := m) (tg := tg) (ln := ln) (F := F) (p := p) (k := k) (hd := by omega) (hC := hC) (o_p := o_p) (t_p := t_p) (h_k := by omega)) (fun o V_q hq => ?_)
                obtain ⟨r32, rfl, rfl, b33, -⟩ := hq
                refine Or.inr (Or.inl ⟨_, rfl, ?_⟩)
                refine jx_ld (pc_q := 126) (l_q := L22) (st_q := [rv (o), .int (i32 (r32))]) rfl (jl_rvn g24) ?_
                refine jx_ld (pc_q := 128) (l_q := L22) (st_q := [.int (i32 (j)), rv (o), .int (i32 (r32))]) rfl (jl_iload g29) ?_
                refine cx_st (st := [.int (i32 (r32))]) (as := [rv (o), .int (i32 (j))]) rfl rfl rfl ⟨rfl, (by rw [jS_i, jS_0]; exact Nat.le_of_ble_eq_true rfl)⟩ rfl (k_LUses_elementOf (dd := d) (R := R) (m := m) (tg := tg) (ln := ln) (F := F) (p := o) (k := j) (hd := by omega) (hC := hC) (o_p := o_o) (t_p := t_o) (h_k := by omega)) (fun o V_q hq => ?_)
                obtain ⟨r34, rfl, rfl, b35, -⟩ := hq
                refine Or.inr (Or.inl ⟨_, rfl, ?_⟩)
                refine jx_icmp_ne (pc_q := 134) (tg := 136) rfl rfl rfl (by omega) (by omega) (by omega) (by omega) (fun h36 => ?_) (fun h36 => ?_)
                · have _q := h36
                  refine jx_inc (pc_q := 139) (l_q := jSto1 L22 6 (.int (i32 (j + (1))))) (x := j) rfl g29 (by decide) rfl rfl ?_
                  obtain ⟨L37, eL37⟩ : ∃ q : jL, q = jSto1 L22 6 (.int (i32 ((j + (1))))) := ⟨_, rfl⟩
                  rw [← eL37]
                  have g38 : jGet L37 0 = some (rv (p)) := eL37 ▸ jg_nr (by decide) g23
                  have g39 : jGet L37 1 = some (rv (o)) := eL37 ▸ jg_nr (by decide) g24
                  have g40 : jGet L37 2 = some (rv (ix)) := eL37 ▸ jg_nr (by decide) g25
                  have g41 : jGet L37 3 = some (.int (i32 (mn))) := eL37 ▸ jg_ne (by decide) g26 rfl
                  have g42 : jGet L37 4 = some (.int (i32 (mr))) := eL37 ▸ jg_ne (by decide) g27 rfl
                  have g43 : jGet L37 5 = some (.int (i32 (k))) := eL37 ▸ jg_ne (by decide) g28 rfl
                  have g44 : jGet L37 7 = some (.int (i32 (1))) := eL37 ▸ jg_ne (by decide) g30 rfl
                  have g45 : jGet L37 6 = some (.int (i32 ((j + (1))))) := eL37 ▸ jg_eq
                  clear eL37
                  refine jx_go (tg := 67) rfl rfl ?_
                  exact ih2 _ (by omega) L37 ((j + (1))) rfl g38 g39 g40 g41 g42 g43 g45 (by omega) (by omega)
                · have _q := h36
                  refine jx_ar (pc_q := 135) (st_q := [.int (i32 (1))]) rfl rfl rfl rfl ?_
                  refine jx_rt (v := some (.int (i32 (1)))) rfl rfl rfl rfl rfl (by first | rfl | exact jRet_b (by omega)) ?_
                  exact ⟨(1), rfl, rfl, by omega, trivial⟩
            · have _q := h21
              refine jx_ld (pc_q := 86) (l_q := L2) (st_q := [rv (p)]) rfl (jl_rvn gL2_0) ?_
              refine cx_gr (pc_q := 89) (c := 7) (q := 17) (v := F (p) (17 : Int)) rfl rfl (by decide) (by decide) rfl rfl o_p t_p rfl ?_
              refine cx_nul (pc_q := 92) (tg_q := 107) rfl rfl rfl (fun h46 => ?_) (fun h46 => ?_)
              · have _q := h46
                refine jx_ar (pc_q := 108) (st_q := [.int (i32 (1))]) rfl rfl rfl rfl ?_
                refine jx_go (tg := 112) rfl rfl ?_
                refine jx_ld (pc_q := 114) (l_q := jSto1 L2 7 (.int (i32 (1)))) (st_q := []) rfl rfl ?_
                obtain ⟨L47, eL47⟩ : ∃ q : jL, q = jSto1 L2 7 (.int (i32 (1))) := ⟨_, rfl⟩
                rw [← eL47]
                have g48 : jGet L47 0 = some (rv (p)) := eL47 ▸ jg_nr (by decide) gL2_0
                have g49 : jGet L47 1 = some (rv (o)) := eL47 ▸ jg_nr (by decide) gL2_1
                have g50 : jGet L47 2 = some (rv (ix)) := eL47 ▸ jg_nr (by decide) gL2_2
                have g51 : jGet L47 3 = some (.int (i32 (mn))) := eL47 ▸ jg_ne (by decide) gL2_3 rfl
                have g52 : jGet L47 4 = some (.int (i32 (mr))) := eL47 ▸ jg_ne (by decide) gL2_4 rfl
                have g53 : jGet L47 5 = some (.int (i32 (k))) := eL47 ▸ jg_ne (by decide) gL2_5 rfl
                have g54 : jGet L47 6 = some (.int (i32 (j))) := eL47 ▸ jg_ne (by decide) gL2_6 rfl
                have g55 : jGet L47 7 = some (.int (i32 (1))) := eL47 ▸ jg_eq
                clear eL47
                refine jx_ld (pc_q := 116) (l_q := L47) (st_q := [.int (i32 (1))]) rfl (jl_iload g55) ?_
                refine jx_if_eq (pc_q := 119) (tg := 136) rfl rfl rfl (by decide) (by decide) (fun h56 => ?_) (fun h56 => ?_)
                · have _q := h56
                  exact absurd h56 (by omega)
                · have _q := h56
                  refine jx_ld (pc_q := 120) (l_q := L47) (st_q := [rv (p)]) rfl (jl_rvn g48) ?_
                  refine jx_ld (pc_q := 122) (l_q := L47) (st_q := [.int (i32 (k)), rv (p)]) rfl (jl_iload g53) ?_
                  refine cx_st (st := []) (as := [rv (p), .int (i32 (k))]) rfl rfl rfl ⟨rfl, (Nat.le_of_ble_eq_true rfl)⟩ rfl (k_LUses_elementOf (dd := d) (R := R) (m := m) (tg := tg) (ln := ln) (F := F) (p := p) (k := k) (hd := by omega) (hC := hC) (o_p := o_p) (t_p := t_p) (h_k := by omega)) (fun o V_q hq => ?_)
                  obtain ⟨r57, rfl, rfl, b58, -⟩ := hq
                  refine Or.inr (Or.inl ⟨_, rfl, ?_⟩)
                  refine jx_ld (pc_q := 126) (l_q := L47) (st_q := [rv (o), .int (i32 (r57))]) rfl (jl_rvn g49) ?_
                  refine jx_ld (pc_q := 128) (l_q := L47) (st_q := [.int (i32 (j)), rv (o), .int (i32 (r57))]) rfl (jl_iload g54) ?_
                  refine cx_st (st := [.int (i32 (r57))]) (as := [rv (o), .int (i32 (j))]) rfl rfl rfl ⟨rfl, (by rw [jS_i, jS_0]; exact Nat.le_of_ble_eq_true rfl)⟩ rfl (k_LUses_elementOf (dd := d) (R := R) (m := m) (tg := tg) (ln := ln) (F := F) (p := o) (k := j) (hd := by omega) (hC := hC) (o_p := o_o) (t_p := t_o) (h_k := by omega)) (fun o V_q hq => ?_)
                  obtain ⟨r59, rfl, rfl, b60, -⟩ := hq
                  refine Or.inr (Or.inl ⟨_, rfl, ?_⟩)
                  refine jx_icmp_ne (pc_q := 134) (tg := 136) rfl rfl rfl (by omega) (by omega) (by omega) (by omega) (fun h61 => ?_) (fun h61 => ?_)
                  · have _q := h61
                    refine jx_inc (pc_q := 139) (l_q := jSto1 L47 6 (.int (i32 (j + (1))))) (x := j) rfl g54 (by decide) rfl rfl ?_
                    obtain ⟨L62, eL62⟩ : ∃ q : jL, q = jSto1 L47 6 (.int (i32 ((j + (1))))) := ⟨_, rfl⟩
                    rw [← eL62]
                    have g63 : jGet L62 0 = some (rv (p)) := eL62 ▸ jg_nr (by decide) g48
                    have g64 : jGet L62 1 = some (rv (o)) := eL62 ▸ jg_nr (by decide) g49
                    have g65 : jGet L62 2 = some (rv (ix)) := eL62 ▸ jg_nr (by decide) g50
                    have g66 : jGet L62 3 = some (.int (i32 (mn))) := eL62 ▸ jg_ne (by decide) g51 rfl
                    have g67 : jGet L62 4 = some (.int (i32 (mr))) := eL62 ▸ jg_ne (by decide) g52 rfl
                    have g68 : jGet L62 5 = some (.int (i32 (k))) := eL62 ▸ jg_ne (by decide) g53 rfl
                    have g69 : jGet L62 7 = some (.int (i32 (1))) := eL62 ▸ jg_ne (by decide) g55 rfl
                    have g70 : jGet L62 6 = some (.int (i32 ((j + (1))))) := eL62 ▸ jg_eq
                    clear eL62
                    refine jx_go (tg := 67) rfl rfl ?_
                    exact ih2 _ (by omega) L62 ((j + (1))) rfl g63 g64 g65 g66 g67 g68 g70 (by omega) (by omega)
                  · have _q := h61
                    refine jx_ar (pc_q := 135) (st_q := [.int (i32 (1))]) rfl rfl rfl rfl ?_
                    refine jx_rt (v := some (.int (i32 (1)))) rfl rfl rfl rfl rfl (by first | rfl | exact jRet_b (by omega)) ?_
                    exact ⟨(1), rfl, rfl, by omega, trivial⟩
              · have _q := h46
                have ho71 : own m (F (p) (17 : Int)) ∧ tg (F (p) (17 : Int)) = 7 := y19.resolve_left h46
                refine jx_ld (pc_q := 93) (l_q := L2) (st_q := [rv (p)]) rfl (jl_rvn gL2_0) ?_
                refine cx_gr (pc_q := 96) (c := 7) (q := 17) (v := F (p) (17 : Int)) rfl rfl (by decide) (by decide) rfl rfl o_p t_p rfl ?_
                refine jx_ld (pc_q := 98) (l_q := L2) (st_q := [.int (i32 (k)), rv (F (p) (17 : Int))]) rfl (jl_iload gL2_5) ?_
                refine jx_ld (pc_q := 100) (l_q := L2) (st_q := [.int (i32 (j)), .int (i32 (k)), rv (F (p) (17 : Int))]) rfl (jl_iload gL2_6) ?_
                refine jx_ld (pc_q := 101) (l_q := L2) (st_q := [rv (ix), .int (i32 (j)), .int (i32 (k)), rv (F (p) (17 : Int))]) rfl (jl_rvn gL2_2) ?_
                refine cx_st (st := []) (as := [rv (F (p) (17 : Int)), .int (i32 (k)), .int (i32 (j)), rv (ix)]) rfl rfl rfl ⟨rfl, (Nat.le_of_ble_eq_true rfl)⟩ rfl (k_LUses_atOnce (dd := d) (R := R) (m := m) (tg := tg) (ln := ln) (F := F) (by_ := F (p) (17 : Int)) (k := k) (j := j) (ix := ix) (hd := by omega) (hC := hC) (o_by_ := ho71.1) (t_by_ := ho71.2) (h_k := by omega) (h_j := by omega) (y_ix := y_ix)) (fun o V_q hq => ?_)
                obtain ⟨r72, rfl, rfl, b73, -⟩ := hq
                refine Or.inr (Or.inl ⟨_, rfl, ?_⟩)
                refine jx_if_eq (pc_q := 107) (tg := 111) rfl rfl rfl (by omega) (by omega) (fun h74 => ?_) (fun h74 => ?_)
                · have _q := h74
                  refine jx_ar (pc_q := 112) (st_q := [.int (i32 (0))]) rfl rfl rfl rfl ?_
                  refine jx_ld (pc_q := 114) (l_q := jSto1 L2 7 (.int (i32 (0)))) (st_q := []) rfl rfl ?_
                  obtain ⟨L75, eL75⟩ : ∃ q : jL, q = jSto1 L2 7 (.int (i32 (0))) := ⟨_, rfl⟩
                  rw [← eL75]
                  have g76 : jGet L75 0 = some (rv (p)) := eL75 ▸ jg_nr (by decide) gL2_0
                  have g77 : jGet L75 1 = some (rv (o)) := eL75 ▸ jg_nr (by decide) gL2_1
                  have g78 : jGet L75 2 = some (rv (ix)) := eL75 ▸ jg_nr (by decide) gL2_2
                  have g79 : jGet L75 3 = some (.int (i32 (mn))) := eL75 ▸ jg_ne (by decide) gL2_3 rfl
                  have g80 : jGet L75 4 = some (.int (i32 (mr))) := eL75 ▸ jg_ne (by decide) gL2_4 rfl
                  have g81 : jGet L75 5 = some (.int (i32 (k))) := eL75 ▸ jg_ne (by decide) gL2_5 rfl
                  have g82 : jGet L75 6 = some (.int (i32 (j))) := eL75 ▸ jg_ne (by decide) gL2_6 rfl
                  have g83 : jGet L75 7 = some (.int (i32 (0))) := eL75 ▸ jg_eq
                  clear eL75
                  refine jx_ld (pc_q := 116) (l_q := L75) (st_q := [.int (i32 (0))]) rfl (jl_iload g83) ?_
                  refine jx_if_eq (pc_q := 119) (tg := 136) rfl rfl rfl (by decide) (by decide) (fun h84 => ?_) (fun h84 => ?_)
                  · have _q := h84
                    refine jx_inc (pc_q := 139) (l_q := jSto1 L75 6 (.int (i32 (j + (1))))) (x := j) rfl g82 (by decide) rfl rfl ?_
                    obtain ⟨L85, eL85⟩ : ∃ q : jL, q = jSto1 L75 6 (.int (i32 ((j + (1))))) := ⟨_, rfl⟩
                    rw [← eL85]
                    have g86 : jGet L85 0 = some (rv (p)) := eL85 ▸ jg_nr (by decide) g76
                    have g87 : jGet L85 1 = some (rv (o)) := eL85 ▸ jg_nr (by decide) g77
                    have g88 : jGet L85 2 = some (rv (ix)) := eL85 ▸ jg_nr (by decide) g78
                    have g89 : jGet L85 3 = some (.int (i32 (mn))) := eL85 ▸ jg_ne (by decide) g79 rfl
                    have g90 : jGet L85 4 = some (.int (i32 (mr))) := eL85 ▸ jg_ne (by decide) g80 rfl
                    have g91 : jGet L85 5 = some (.int (i32 (k))) := eL85 ▸ jg_ne (by decide) g81 rfl
                    have g92 : jGet L85 7 = some (.int (i32 (0))) := eL85 ▸ jg_ne (by decide) g83 rfl
                    have g93 : jGet L85 6 = some (.int (i32 ((j + (1))))) := eL85 ▸ jg_eq
                    clear eL85
                    refine jx_go (tg := 67) rfl rfl ?_
                    exact ih2 _ (by omega) L85 ((j + (1))) rfl g86 g87 g88 g89 g90 g91 g93 (by omega) (by omega)
                  · have _q := h84
                    exact absurd h84 (by omega)
                · have _q := h74
                  refine jx_ar (pc_q := 108) (st_q := [.int (i32 (1))]) rfl rfl rfl rfl ?_
                  refine jx_go (tg := 112) rfl rfl ?_
                  refine jx_ld (pc_q := 114) (l_q := jSto1 L2 7 (.int (i32 (1)))) (st_q := []) rfl rfl ?_
                  obtain ⟨L94, eL94⟩ : ∃ q : jL, q = jSto1 L2 7 (.int (i32 (1))) := ⟨_, rfl⟩
                  rw [← eL94]
                  have g95 : jGet L94 0 = some (rv (p)) := eL94 ▸ jg_nr (by decide) gL2_0
                  have g96 : jGet L94 1 = some (rv (o)) := eL94 ▸ jg_nr (by decide) gL2_1
                  have g97 : jGet L94 2 = some (rv (ix)) := eL94 ▸ jg_nr (by decide) gL2_2
                  have g98 : jGet L94 3 = some (.int (i32 (mn))) := eL94 ▸ jg_ne (by decide) gL2_3 rfl
                  have g99 : jGet L94 4 = some (.int (i32 (mr))) := eL94 ▸ jg_ne (by decide) gL2_4 rfl
                  have g100 : jGet L94 5 = some (.int (i32 (k))) := eL94 ▸ jg_ne (by decide) gL2_5 rfl
                  have g101 : jGet L94 6 = some (.int (i32 (j))) := eL94 ▸ jg_ne (by decide) gL2_6 rfl
                  have g102 : jGet L94 7 = some (.int (i32 (1))) := eL94 ▸ jg_eq
                  clear eL94
                  refine jx_ld (pc_q := 116) (l_q := L94) (st_q := [.int (i32 (1))]) rfl (jl_iload g102) ?_
                  refine jx_if_eq (pc_q := 119) (tg := 136) rfl rfl rfl (by decide) (by decide) (fun h103 => ?_) (fun h103 => ?_)
                  · have _q := h103
                    exact absurd h103 (by omega)
                  · have _q := h103
                    refine jx_ld (pc_q := 120) (l_q := L94) (st_q := [rv (p)]) rfl (jl_rvn g95) ?_
                    refine jx_ld (pc_q := 122) (l_q := L94) (st_q := [.int (i32 (k)), rv (p)]) rfl (jl_iload g100) ?_
                    refine cx_st (st := []) (as := [rv (p), .int (i32 (k))]) rfl rfl rfl ⟨rfl, (Nat.le_of_ble_eq_true rfl)⟩ rfl (k_LUses_elementOf (dd := d) (R := R) (m := m) (tg := tg) (ln := ln) (F := F) (p := p) (k := k) (hd := by omega) (hC := hC) (o_p := o_p) (t_p := t_p) (h_k := by omega)) (fun o V_q hq => ?_)
                    obtain ⟨r104, rfl, rfl, b105, -⟩ := hq
                    refine Or.inr (Or.inl ⟨_, rfl, ?_⟩)
                    refine jx_ld (pc_q := 126) (l_q := L94) (st_q := [rv (o), .int (i32 (r104))]) rfl (jl_rvn g96) ?_
                    refine jx_ld (pc_q := 128) (l_q := L94) (st_q := [.int (i32 (j)), rv (o), .int (i32 (r104))]) rfl (jl_iload g101) ?_
                    refine cx_st (st := [.int (i32 (r104))]) (as := [rv (o), .int (i32 (j))]) rfl rfl rfl ⟨rfl, (by rw [jS_i, jS_0]; exact Nat.le_of_ble_eq_true rfl)⟩ rfl (k_LUses_elementOf (dd := d) (R := R) (m := m) (tg := tg) (ln := ln) (F := F) (p := o) (k := j) (hd := by omega) (hC := hC) (o_p := o_o) (t_p := t_o) (h_k := by omega)) (fun o V_q hq => ?_)
                    obtain ⟨r106, rfl, rfl, b107, -⟩ := hq
                    refine Or.inr (Or.inl ⟨_, rfl, ?_⟩)
                    refine jx_icmp_ne (pc_q := 134) (tg := 136) rfl rfl rfl (by omega) (by omega) (by omega) (by omega) (fun h108 => ?_) (fun h108 => ?_)
                    · have _q := h108
                      refine jx_inc (pc_q := 139) (l_q := jSto1 L94 6 (.int (i32 (j + (1))))) (x := j) rfl g101 (by decide) rfl rfl ?_
                      obtain ⟨L109, eL109⟩ : ∃ q : jL, q = jSto1 L94 6 (.int (i32 ((j + (1))))) := ⟨_, rfl⟩
                      rw [← eL109]
                      have g110 : jGet L109 0 = some (rv (p)) := eL109 ▸ jg_nr (by decide) g95
                      have g111 : jGet L109 1 = some (rv (o)) := eL109 ▸ jg_nr (by decide) g96
                      have g112 : jGet L109 2 = some (rv (ix)) := eL109 ▸ jg_nr (by decide) g97
                      have g113 : jGet L109 3 = some (.int (i32 (mn))) := eL109 ▸ jg_ne (by decide) g98 rfl
                      have g114 : jGet L109 4 = some (.int (i32 (mr))) := eL109 ▸ jg_ne (by decide) g99 rfl
                      have g115 : jGet L109 5 = some (.int (i32 (k))) := eL109 ▸ jg_ne (by decide) g100 rfl
                      have g116 : jGet L109 7 = some (.int (i32 (1))) := eL109 ▸ jg_ne (by decide) g102 rfl
                      have g117 : jGet L109 6 = some (.int (i32 ((j + (1))))) := eL109 ▸ jg_eq
                      clear eL109
                      refine jx_go (tg := 67) rfl rfl ?_
                      exact ih2 _ (by omega) L109 ((j + (1))) rfl g110 g111 g112 g113 g114 g115 g117 (by omega) (by omega)
                    · have _q := h108
                      refine jx_ar (pc_q := 135) (st_q := [.int (i32 (1))]) rfl rfl rfl rfl ?_
                      refine jx_rt (v := some (.int (i32 (1)))) rfl rfl rfl rfl rfl (by first | rfl | exact jRet_b (by omega)) ?_
                      exact ⟨(1), rfl, rfl, by omega, trivial⟩
      exact hin _ L2 (0) rfl g3 g4 g5 g6 g7 g8 g9 (by omega) (by omega)
set_option maxRecDepth 20000 in
set_option maxHeartbeats 4000000 in
theorem k_LUses_meets {X : jX} {dd : Nat} {R : Nat → jC} {m : Nat} {tg ln : Int → Int} {F : Int → Int → Int} {p o ix : Int} (hd : 2 ≤ dd) (hC : HC 0 m tg ln F) (o_p : own m p) (t_p : tg p = 8) (o_o : own m o) (t_o : tg o = 8) (y_ix : ix = 0 ∨ (own m ix ∧ tg ix = 7)) : wk X dd 240 [rv p, rv o, rv ix] (cV R m tg ln F) (fun o V_q => ∃ (r : Int), V_q = cV R m tg ln F ∧ o = .inl (some (.int (i32 r))) ∧ (0 ≤ r ∧ r ≤ 1) ∧ True) := by
  obtain ⟨d, rfl⟩ : ∃ d, dd = d + 1 := ⟨dd - 1, by omega⟩
  refine wk_of (e := jm240) rfl (by rw [jS_r, jS_r, jS_r, jS_0]; exact Nat.le_of_ble_eq_true rfl) ?_
  rw [la_r, la_r, la_r, la_0]
  show wj X d jm240 (0, [(0, rv (p)), (1, rv (o)), (2, rv (ix))], [], cV R m tg ln F) _
  obtain ⟨L0, eL0⟩ : ∃ q : jL, q = [(0, rv (p)), (1, rv (o)), (2, rv (ix))] := ⟨_, rfl⟩
  rw [← eL0]
  have g118 : jGet L0 0 = some (rv (p)) := eL0 ▸ (rfl : jGet [(0, rv (p)), (1, rv (o)), (2, rv (ix))] 0 = some (rv (p)))
  have g119 : jGet L0 1 = some (rv (o)) := eL0 ▸ (rfl : jGet [(0, rv (p)), (1, rv (o)), (2, rv (ix))] 1 = some (rv (o)))
  have g120 : jGet L0 2 = some (rv (ix)) := eL0 ▸ (rfl : jGet [(0, rv (p)), (1, rv (o)), (2, rv (ix))] 2 = some (rv (ix)))
  clear eL0
  refine jx_ld (pc_q := 1) (l_q := L0) (st_q := [rv (p)]) rfl (jl_rvn g118) ?_
  refine cx_gi (pc_q := 4) (c := 7) (q := 16) (v := F (p) (16 : Int)) rfl rfl (by decide) (by decide) (Or.inr rfl) rfl o_p t_p rfl ?_
  have b121 : (0 : Int) ≤ F (p) (16 : Int) ∧ F (p) (16 : Int) ≤ 1 := by have z := HC_i (c := 7) (q := 16) hC o_p t_p (by decide) rfl; rw [show F (p) ((16 : Nat) : Int) = F (p) (16 : Int) from rfl] at z; exact z
  refine jx_if_ne (pc_q := 7) (tg := 14) rfl rfl rfl (by omega) (by omega) (fun h122 => ?_) (fun h122 => ?_)
  · have _q := h122
    refine jx_ar (pc_q := 15) (st_q := [.int (i32 (1))]) rfl rfl rfl rfl ?_
    refine jx_rt (v := some (.int (i32 (1)))) rfl rfl rfl rfl rfl (by first | rfl | exact jRet_b (by omega)) ?_
    exact ⟨(1), rfl, rfl, by omega, trivial⟩
  · have _q := h122
    refine jx_ld (pc_q := 8) (l_q := L0) (st_q := [rv (o)]) rfl (jl_rvn g119) ?_
    refine cx_gi (pc_q := 11) (c := 7) (q := 16) (v := F (o) (16 : Int)) rfl rfl (by decide) (by decide) (Or.inr rfl) rfl o_o t_o rfl ?_
    have b123 : (0 : Int) ≤ F (o) (16 : Int) ∧ F (o) (16 : Int) ≤ 1 := by have z := HC_i (c := 7) (q := 16) hC o_o t_o (by decide) rfl; rw [show F (o) ((16 : Nat) : Int) = F (o) (16 : Int) from rfl] at z; exact z
    refine jx_if_eq (pc_q := 14) (tg := 16) rfl rfl rfl (by omega) (by omega) (fun h124 => ?_) (fun h124 => ?_)
    · have _q := h124
      refine jx_ld (pc_q := 17) (l_q := L0) (st_q := [rv (p)]) rfl (jl_rvn g118) ?_
      refine cx_gr (pc_q := 20) (c := 7) (q := 17) (v := F (p) (17 : Int)) rfl rfl (by decide) (by decide) rfl rfl o_p t_p rfl ?_
      have y125 : F (p) (17 : Int) = 0 ∨ (own m (F (p) (17 : Int)) ∧ tg (F (p) (17 : Int)) = 7) := by have z := HC_r (c := 7) (q := 17) hC o_p t_p (by decide) rfl; rw [show F (p) ((17 : Nat) : Int) = F (p) (17 : Int) from rfl] at z; exact z
      refine cx_non (pc_q := 23) (tg_q := 27) rfl rfl rfl (fun h126 => ?_) (fun h126 => ?_)
      · have _q := h126
        have ho127 : own m (F (p) (17 : Int)) ∧ tg (F (p) (17 : Int)) = 7 := y125.resolve_left h126
        refine jx_ld (pc_q := 28) (l_q := L0) (st_q := [rv (p)]) rfl (jl_rvn g118) ?_
        refine cx_gr (pc_q := 31) (c := 7) (q := 17) (v := F (p) (17 : Int)) rfl rfl (by decide) (by decide) rfl rfl o_p t_p rfl ?_
        refine cx_gi (pc_q := 34) (c := 6) (q := 8) (v := F (F (p) (17 : Int)) (8 : Int)) rfl rfl (by decide) (by decide) (Or.inl rfl) rfl ho127.1 ho127.2 rfl ?_
        have b128 : (-2147483648 : Int) ≤ F (F (p) (17 : Int)) (8 : Int) ∧ F (F (p) (17 : Int)) (8 : Int) ≤ 2147483647 := by have z := HC_i (c := 6) (q := 8) hC ho127.1 ho127.2 (by decide) rfl; rw [show F (F (p) (17 : Int)) ((8 : Nat) : Int) = F (F (p) (17 : Int)) (8 : Int) from rfl] at z; exact z
        refine jx_ld (pc_q := 35) (l_q := jSto1 L0 3 (.int (i32 (F (F (p) (17 : Int)) (8 : Int))))) (st_q := []) rfl rfl ?_
        obtain ⟨L129, eL129⟩ : ∃ q : jL, q = jSto1 L0 3 (.int (i32 (F (F (p) (17 : Int)) (8 : Int)))) := ⟨_, rfl⟩
        rw [← eL129]
        have g130 : jGet L129 0 = some (rv (p)) := eL129 ▸ jg_nr (by decide) g118
        have g131 : jGet L129 1 = some (rv (o)) := eL129 ▸ jg_nr (by decide) g119
        have g132 : jGet L129 2 = some (rv (ix)) := eL129 ▸ jg_nr (by decide) g120
        have g133 : jGet L129 3 = some (.int (i32 (F (F (p) (17 : Int)) (8 : Int)))) := eL129 ▸ jg_eq
        clear eL129
        refine jx_ld (pc_q := 36) (l_q := L129) (st_q := [rv (o)]) rfl (jl_rvn g131) ?_
        refine cx_gr (pc_q := 39) (c := 7) (q := 17) (v := F (o) (17 : Int)) rfl rfl (by decide) (by decide) rfl rfl o_o t_o rfl ?_
        have y134 : F (o) (17 : Int) = 0 ∨ (own m (F (o) (17 : Int)) ∧ tg (F (o) (17 : Int)) = 7) := by have z := HC_r (c := 7) (q := 17) hC o_o t_o (by decide) rfl; rw [show F (o) ((17 : Nat) : Int) = F (o) (17 : Int) from rfl] at z; exact z
        refine cx_non (pc_q := 42) (tg_q := 46) rfl rfl rfl (fun h135 => ?_) (fun h135 => ?_)
        · have _q := h135
          have ho136 : own m (F (o) (17 : Int)) ∧ tg (F (o) (17 : Int)) = 7 := y134.resolve_left h135
          refine jx_ld (pc_q := 47) (l_q := L129) (st_q := [rv (o)]) rfl (jl_rvn g131) ?_
          refine cx_gr (pc_q := 50) (c := 7) (q := 17) (v := F (o) (17 : Int)) rfl rfl (by decide) (by decide) rfl rfl o_o t_o rfl ?_
          refine cx_gi (pc_q := 53) (c := 6) (q := 8) (v := F (F (o) (17 : Int)) (8 : Int)) rfl rfl (by decide) (by decide) (Or.inl rfl) rfl ho136.1 ho136.2 rfl ?_
          have b137 : (-2147483648 : Int) ≤ F (F (o) (17 : Int)) (8 : Int) ∧ F (F (o) (17 : Int)) (8 : Int) ≤ 2147483647 := by have z := HC_i (c := 6) (q := 8) hC ho136.1 ho136.2 (by decide) rfl; rw [show F (F (o) (17 : Int)) ((8 : Nat) : Int) = F (F (o) (17 : Int)) (8 : Int) from rfl] at z; exact z
          refine jx_ld (pc_q := 55) (l_q := jSto1 L129 4 (.int (i32 (F (F (o) (17 : Int)) (8 : Int))))) (st_q := []) rfl rfl ?_
          obtain ⟨L138, eL138⟩ : ∃ q : jL, q = jSto1 L129 4 (.int (i32 (F (F (o) (17 : Int)) (8 : Int)))) := ⟨_, rfl⟩
          rw [← eL138]
          have g139 : jGet L138 0 = some (rv (p)) := eL138 ▸ jg_nr (by decide) g130
          have g140 : jGet L138 1 = some (rv (o)) := eL138 ▸ jg_nr (by decide) g131
          have g141 : jGet L138 2 = some (rv (ix)) := eL138 ▸ jg_nr (by decide) g132
          have g142 : jGet L138 3 = some (.int (i32 (F (F (p) (17 : Int)) (8 : Int)))) := eL138 ▸ jg_ne (by decide) g133 rfl
          have g143 : jGet L138 4 = some (.int (i32 (F (F (o) (17 : Int)) (8 : Int)))) := eL138 ▸ jg_eq
          clear eL138
          refine jx_ar (pc_q := 56) (st_q := [.int (i32 (0))]) rfl rfl rfl rfl ?_
          refine jx_ld (pc_q := 58) (l_q := jSto1 L138 5 (.int (i32 (0)))) (st_q := []) rfl rfl ?_
          obtain ⟨L144, eL144⟩ : ∃ q : jL, q = jSto1 L138 5 (.int (i32 (0))) := ⟨_, rfl⟩
          rw [← eL144]
          have g145 : jGet L144 0 = some (rv (p)) := eL144 ▸ jg_nr (by decide) g139
          have g146 : jGet L144 1 = some (rv (o)) := eL144 ▸ jg_nr (by decide) g140
          have g147 : jGet L144 2 = some (rv (ix)) := eL144 ▸ jg_nr (by decide) g141
          have g148 : jGet L144 3 = some (.int (i32 (F (F (p) (17 : Int)) (8 : Int)))) := eL144 ▸ jg_ne (by decide) g142 rfl
          have g149 : jGet L144 4 = some (.int (i32 (F (F (o) (17 : Int)) (8 : Int)))) := eL144 ▸ jg_ne (by decide) g143 rfl
          have g150 : jGet L144 5 = some (.int (i32 (0))) := eL144 ▸ jg_eq
          clear eL144
          exact k_LUses_meets_at_58 (X := X) (d := d) (R := R) (m := m) (tg := tg) (ln := ln) (F := F) (p := p) (o := o) (ix := ix) (hd := hd) (hC := hC) (o_p := o_p) (t_p := t_p) (o_o := o_o) (t_o := t_o) (y_ix := y_ix) _ L144 (F (F (p) (17 : Int)) (8 : Int)) (F (F (o) (17 : Int)) (8 : Int)) (0) rfl g145 g146 g147 g148 g149 g150 (by omega) (by omega) (by omega) (by omega)
        · have _q := h135
          refine jx_ar (pc_q := 43) (st_q := [.int (i32 (1))]) rfl rfl rfl rfl ?_
          refine jx_go (tg := 53) rfl rfl ?_
          refine jx_ld (pc_q := 55) (l_q := jSto1 L129 4 (.int (i32 (1)))) (st_q := []) rfl rfl ?_
          obtain ⟨L151, eL151⟩ : ∃ q : jL, q = jSto1 L129 4 (.int (i32 (1))) := ⟨_, rfl⟩
          rw [← eL151]
          have g152 : jGet L151 0 = some (rv (p)) := eL151 ▸ jg_nr (by decide) g130
          have g153 : jGet L151 1 = some (rv (o)) := eL151 ▸ jg_nr (by decide) g131
          have g154 : jGet L151 2 = some (rv (ix)) := eL151 ▸ jg_nr (by decide) g132
          have g155 : jGet L151 3 = some (.int (i32 (F (F (p) (17 : Int)) (8 : Int)))) := eL151 ▸ jg_ne (by decide) g133 rfl
          have g156 : jGet L151 4 = some (.int (i32 (1))) := eL151 ▸ jg_eq
          clear eL151
          refine jx_ar (pc_q := 56) (st_q := [.int (i32 (0))]) rfl rfl rfl rfl ?_
          refine jx_ld (pc_q := 58) (l_q := jSto1 L151 5 (.int (i32 (0)))) (st_q := []) rfl rfl ?_
          obtain ⟨L157, eL157⟩ : ∃ q : jL, q = jSto1 L151 5 (.int (i32 (0))) := ⟨_, rfl⟩
          rw [← eL157]
          have g158 : jGet L157 0 = some (rv (p)) := eL157 ▸ jg_nr (by decide) g152
          have g159 : jGet L157 1 = some (rv (o)) := eL157 ▸ jg_nr (by decide) g153
          have g160 : jGet L157 2 = some (rv (ix)) := eL157 ▸ jg_nr (by decide) g154
          have g161 : jGet L157 3 = some (.int (i32 (F (F (p) (17 : Int)) (8 : Int)))) := eL157 ▸ jg_ne (by decide) g155 rfl
          have g162 : jGet L157 4 = some (.int (i32 (1))) := eL157 ▸ jg_ne (by decide) g156 rfl
          have g163 : jGet L157 5 = some (.int (i32 (0))) := eL157 ▸ jg_eq
          clear eL157
          exact k_LUses_meets_at_58 (X := X) (d := d) (R := R) (m := m) (tg := tg) (ln := ln) (F := F) (p := p) (o := o) (ix := ix) (hd := hd) (hC := hC) (o_p := o_p) (t_p := t_p) (o_o := o_o) (t_o := t_o) (y_ix := y_ix) _ L157 (F (F (p) (17 : Int)) (8 : Int)) (1) (0) rfl g158 g159 g160 g161 g162 g163 (by omega) (by omega) (by omega) (by omega)
      · have _q := h126
        refine jx_ar (pc_q := 24) (st_q := [.int (i32 (1))]) rfl rfl rfl rfl ?_
        refine jx_go (tg := 34) rfl rfl ?_
        refine jx_ld (pc_q := 35) (l_q := jSto1 L0 3 (.int (i32 (1)))) (st_q := []) rfl rfl ?_
        obtain ⟨L164, eL164⟩ : ∃ q : jL, q = jSto1 L0 3 (.int (i32 (1))) := ⟨_, rfl⟩
        rw [← eL164]
        have g165 : jGet L164 0 = some (rv (p)) := eL164 ▸ jg_nr (by decide) g118
        have g166 : jGet L164 1 = some (rv (o)) := eL164 ▸ jg_nr (by decide) g119
        have g167 : jGet L164 2 = some (rv (ix)) := eL164 ▸ jg_nr (by decide) g120
        have g168 : jGet L164 3 = some (.int (i32 (1))) := eL164 ▸ jg_eq
        clear eL164
        refine jx_ld (pc_q := 36) (l_q := L164) (st_q := [rv (o)]) rfl (jl_rvn g166) ?_
        refine cx_gr (pc_q := 39) (c := 7) (q := 17) (v := F (o) (17 : Int)) rfl rfl (by decide) (by decide) rfl rfl o_o t_o rfl ?_
        have y169 : F (o) (17 : Int) = 0 ∨ (own m (F (o) (17 : Int)) ∧ tg (F (o) (17 : Int)) = 7) := by have z := HC_r (c := 7) (q := 17) hC o_o t_o (by decide) rfl; rw [show F (o) ((17 : Nat) : Int) = F (o) (17 : Int) from rfl] at z; exact z
        refine cx_non (pc_q := 42) (tg_q := 46) rfl rfl rfl (fun h170 => ?_) (fun h170 => ?_)
        · have _q := h170
          have ho171 : own m (F (o) (17 : Int)) ∧ tg (F (o) (17 : Int)) = 7 := y169.resolve_left h170
          refine jx_ld (pc_q := 47) (l_q := L164) (st_q := [rv (o)]) rfl (jl_rvn g166) ?_
          refine cx_gr (pc_q := 50) (c := 7) (q := 17) (v := F (o) (17 : Int)) rfl rfl (by decide) (by decide) rfl rfl o_o t_o rfl ?_
          refine cx_gi (pc_q := 53) (c := 6) (q := 8) (v := F (F (o) (17 : Int)) (8 : Int)) rfl rfl (by decide) (by decide) (Or.inl rfl) rfl ho171.1 ho171.2 rfl ?_
          have b172 : (-2147483648 : Int) ≤ F (F (o) (17 : Int)) (8 : Int) ∧ F (F (o) (17 : Int)) (8 : Int) ≤ 2147483647 := by have z := HC_i (c := 6) (q := 8) hC ho171.1 ho171.2 (by decide) rfl; rw [show F (F (o) (17 : Int)) ((8 : Nat) : Int) = F (F (o) (17 : Int)) (8 : Int) from rfl] at z; exact z
          refine jx_ld (pc_q := 55) (l_q := jSto1 L164 4 (.int (i32 (F (F (o) (17 : Int)) (8 : Int))))) (st_q := []) rfl rfl ?_
          obtain ⟨L173, eL173⟩ : ∃ q : jL, q = jSto1 L164 4 (.int (i32 (F (F (o) (17 : Int)) (8 : Int)))) := ⟨_, rfl⟩
          rw [← eL173]
          have g174 : jGet L173 0 = some (rv (p)) := eL173 ▸ jg_nr (by decide) g165
          have g175 : jGet L173 1 = some (rv (o)) := eL173 ▸ jg_nr (by decide) g166
          have g176 : jGet L173 2 = some (rv (ix)) := eL173 ▸ jg_nr (by decide) g167
          have g177 : jGet L173 3 = some (.int (i32 (1))) := eL173 ▸ jg_ne (by decide) g168 rfl
          have g178 : jGet L173 4 = some (.int (i32 (F (F (o) (17 : Int)) (8 : Int)))) := eL173 ▸ jg_eq
          clear eL173
          refine jx_ar (pc_q := 56) (st_q := [.int (i32 (0))]) rfl rfl rfl rfl ?_
          refine jx_ld (pc_q := 58) (l_q := jSto1 L173 5 (.int (i32 (0)))) (st_q := []) rfl rfl ?_
          obtain ⟨L179, eL179⟩ : ∃ q : jL, q = jSto1 L173 5 (.int (i32 (0))) := ⟨_, rfl⟩
          rw [← eL179]
          have g180 : jGet L179 0 = some (rv (p)) := eL179 ▸ jg_nr (by decide) g174
          have g181 : jGet L179 1 = some (rv (o)) := eL179 ▸ jg_nr (by decide) g175
          have g182 : jGet L179 2 = some (rv (ix)) := eL179 ▸ jg_nr (by decide) g176
          have g183 : jGet L179 3 = some (.int (i32 (1))) := eL179 ▸ jg_ne (by decide) g177 rfl
          have g184 : jGet L179 4 = some (.int (i32 (F (F (o) (17 : Int)) (8 : Int)))) := eL179 ▸ jg_ne (by decide) g178 rfl
          have g185 : jGet L179 5 = some (.int (i32 (0))) := eL179 ▸ jg_eq
          clear eL179
          exact k_LUses_meets_at_58 (X := X) (d := d) (R := R) (m := m) (tg := tg) (ln := ln) (F := F) (p := p) (o := o) (ix := ix) (hd := hd) (hC := hC) (o_p := o_p) (t_p := t_p) (o_o := o_o) (t_o := t_o) (y_ix := y_ix) _ L179 (1) (F (F (o) (17 : Int)) (8 : Int)) (0) rfl g180 g181 g182 g183 g184 g185 (by omega) (by omega) (by omega) (by omega)
        · have _q := h170
          refine jx_ar (pc_q := 43) (st_q := [.int (i32 (1))]) rfl rfl rfl rfl ?_
          refine jx_go (tg := 53) rfl rfl ?_
          refine jx_ld (pc_q := 55) (l_q := jSto1 L164 4 (.int (i32 (1)))) (st_q := []) rfl rfl ?_
          obtain ⟨L186, eL186⟩ : ∃ q : jL, q = jSto1 L164 4 (.int (i32 (1))) := ⟨_, rfl⟩
          rw [← eL186]
          have g187 : jGet L186 0 = some (rv (p)) := eL186 ▸ jg_nr (by decide) g165
          have g188 : jGet L186 1 = some (rv (o)) := eL186 ▸ jg_nr (by decide) g166
          have g189 : jGet L186 2 = some (rv (ix)) := eL186 ▸ jg_nr (by decide) g167
          have g190 : jGet L186 3 = some (.int (i32 (1))) := eL186 ▸ jg_ne (by decide) g168 rfl
          have g191 : jGet L186 4 = some (.int (i32 (1))) := eL186 ▸ jg_eq
          clear eL186
          refine jx_ar (pc_q := 56) (st_q := [.int (i32 (0))]) rfl rfl rfl rfl ?_
          refine jx_ld (pc_q := 58) (l_q := jSto1 L186 5 (.int (i32 (0)))) (st_q := []) rfl rfl ?_
          obtain ⟨L192, eL192⟩ : ∃ q : jL, q = jSto1 L186 5 (.int (i32 (0))) := ⟨_, rfl⟩
          rw [← eL192]
          have g193 : jGet L192 0 = some (rv (p)) := eL192 ▸ jg_nr (by decide) g187
          have g194 : jGet L192 1 = some (rv (o)) := eL192 ▸ jg_nr (by decide) g188
          have g195 : jGet L192 2 = some (rv (ix)) := eL192 ▸ jg_nr (by decide) g189
          have g196 : jGet L192 3 = some (.int (i32 (1))) := eL192 ▸ jg_ne (by decide) g190 rfl
          have g197 : jGet L192 4 = some (.int (i32 (1))) := eL192 ▸ jg_ne (by decide) g191 rfl
          have g198 : jGet L192 5 = some (.int (i32 (0))) := eL192 ▸ jg_eq
          clear eL192
          exact k_LUses_meets_at_58 (X := X) (d := d) (R := R) (m := m) (tg := tg) (ln := ln) (F := F) (p := p) (o := o) (ix := ix) (hd := hd) (hC := hC) (o_p := o_p) (t_p := t_p) (o_o := o_o) (t_o := t_o) (y_ix := y_ix) _ L192 (1) (1) (0) rfl g193 g194 g195 g196 g197 g198 (by omega) (by omega) (by omega) (by omega)
    · have _q := h124
      refine jx_ar (pc_q := 15) (st_q := [.int (i32 (1))]) rfl rfl rfl rfl ?_
      refine jx_rt (v := some (.int (i32 (1)))) rfl rfl rfl rfl rfl (by first | rfl | exact jRet_b (by omega)) ?_
      exact ⟨(1), rfl, rfl, by omega, trivial⟩
set_option maxRecDepth 20000 in
set_option maxHeartbeats 4000000 in
theorem k_LUses_against_at_24 {X : jX} {d : Nat} {R : Nat → jC} {m : Nat} {tg ln : Int → Int} {F : Int → Int → Int} {p o ix : Int} (hd : 3 ≤ d + 1) (hC : HC 0 m tg ln F) (o_p : own m p) (t_p : tg p = 8) (o_o : own m o) (t_o : tg o = 8) (y_ix : ix = 0 ∨ (own m ix ∧ tg ix = 7)) (p_0 : F p (3 : Int) ≠ 0) : ∀ (L : jL) (ow : Int), jGet L 0 = some (rv (p)) → jGet L 1 = some (rv (o)) → jGet L 2 = some (rv (ix)) → jGet L 3 = some (.int (i32 ow)) → ((-2147483648 : Int) ≤ ow ∧ ow ≤ 2147483647) → (0 ≤ ow) → (ow ≤ 1) → wj X d jm239 (24, L, [], cV R m tg ln F) (fun o V_q => ∃ (r : Int), V_q = cV R m tg ln F ∧ o = .inl (some (.int (i32 r))) ∧ (0 ≤ r ∧ r ≤ 1) ∧ True) := by
  intro L ow gL_0 gL_1 gL_2 gL_3 rx_ow iv_0 iv_1
  refine jx_ld (pc_q := 25) (l_q := L) (st_q := [.int (i32 (ow))]) rfl (jl_iloadn gL_3) ?_
  refine jx_if_ne (pc_q := 28) (tg := 55) rfl rfl rfl (by omega) (by omega) (fun h1 => ?_) (fun h1 => ?_)
  · have _q := h1
    refine jx_ar (pc_q := 56) (st_q := [.int (i32 (0))]) rfl rfl rfl rfl ?_
    refine jx_rt (v := some (.int (i32 (0)))) rfl rfl rfl rfl rfl (by first | rfl | exact jRet_b (by omega)) ?_
    exact ⟨(0), rfl, rfl, by omega, trivial⟩
  · have _q := h1
    refine jx_ld (pc_q := 29) (l_q := L) (st_q := [rv (p)]) rfl (jl_rvn gL_0) ?_
    refine cx_gi (pc_q := 32) (c := 7) (q := 15) (v := F (p) (15 : Int)) rfl rfl (by decide) (by decide) (Or.inl rfl) rfl o_p t_p rfl ?_
    have b2 : (-2147483648 : Int) ≤ F (p) (15 : Int) ∧ F (p) (15 : Int) ≤ 2147483647 := by have z := HC_i (c := 7) (q := 15) hC o_p t_p (by decide) rfl; rw [show F (p) ((15 : Nat) : Int) = F (p) (15 : Int) from rfl] at z; exact z
    refine jx_ld (pc_q := 33) (l_q := L) (st_q := [rv (o), .int (i32 (F (p) (15 : Int)))]) rfl (jl_rvn gL_1) ?_
    refine cx_gi (pc_q := 36) (c := 7) (q := 15) (v := F (o) (15 : Int)) rfl rfl (by decide) (by decide) (Or.inl rfl) rfl o_o t_o rfl ?_
    have b3 : (-2147483648 : Int) ≤ F (o) (15 : Int) ∧ F (o) (15 : Int) ≤ 2147483647 := by have z := HC_i (c := 7) (q := 15) hC o_o t_o (by decide) rfl; rw [show F (o) ((15 : Nat) : Int) = F (o) (15 : Int) from rfl] at z; exact z
    refine cx_st (st := []) (as := [.int (i32 (F (p) (15 : Int))), .int (i32 (F (o) (15 : Int)))]) rfl rfl rfl ⟨rfl, (Nat.le_of_ble_eq_true rfl)⟩ rfl (k_LUses_clash (dd := d) (R := R) (m := m) (tg := tg) (ln := ln) (F := F) (a := F (p) (15 : Int)) (b := F (o) (15 : Int)) (hd := by omega) (hC := hC) (h_a := by omega) (h_b := by omega)) (fun o V_q hq => ?_)
    obtain ⟨r4, rfl, rfl, b5, -⟩ := hq
    refine Or.inr (Or.inl ⟨_, rfl, ?_⟩)
    refine jx_if_eq (pc_q := 42) (tg := 55) rfl rfl rfl (by omega) (by omega) (fun h6 => ?_) (fun h6 => ?_)
    · have _q := h6
      refine jx_ar (pc_q := 56) (st_q := [.int (i32 (0))]) rfl rfl rfl rfl ?_
      refine jx_rt (v := some (.int (i32 (0)))) rfl rfl rfl rfl rfl (by first | rfl | exact jRet_b (by omega)) ?_
      exact ⟨(0), rfl, rfl, by omega, trivial⟩
    · have _q := h6
      refine jx_ld (pc_q := 43) (l_q := L) (st_q := [rv (p)]) rfl (jl_rvn gL_0) ?_
      refine jx_ld (pc_q := 44) (l_q := L) (st_q := [rv (o), rv (p)]) rfl (jl_rvn gL_1) ?_
      refine jx_ld (pc_q := 45) (l_q := L) (st_q := [rv (ix), rv (o), rv (p)]) rfl (jl_rvn gL_2) ?_
      refine cx_st (st := []) (as := [rv (p), rv (o), rv (ix)]) rfl rfl rfl ⟨rfl, (Nat.le_of_ble_eq_true rfl)⟩ rfl (k_LUses_meets (dd := d) (R := R) (m := m) (tg := tg) (ln := ln) (F := F) (p := p) (o := o) (ix := ix) (hd := by omega) (hC := hC) (o_p := o_p) (t_p := t_p) (o_o := o_o) (t_o := t_o) (y_ix := y_ix)) (fun o V_q hq => ?_)
      obtain ⟨r7, rfl, rfl, b8, -⟩ := hq
      refine Or.inr (Or.inl ⟨_, rfl, ?_⟩)
      refine jx_if_eq (pc_q := 51) (tg := 55) rfl rfl rfl (by omega) (by omega) (fun h9 => ?_) (fun h9 => ?_)
      · have _q := h9
        refine jx_ar (pc_q := 56) (st_q := [.int (i32 (0))]) rfl rfl rfl rfl ?_
        refine jx_rt (v := some (.int (i32 (0)))) rfl rfl rfl rfl rfl (by first | rfl | exact jRet_b (by omega)) ?_
        exact ⟨(0), rfl, rfl, by omega, trivial⟩
      · have _q := h9
        refine jx_ar (pc_q := 52) (st_q := [.int (i32 (1))]) rfl rfl rfl rfl ?_
        refine jx_go (tg := 56) rfl rfl ?_
        refine jx_rt (v := some (.int (i32 (1)))) rfl rfl rfl rfl rfl (by first | rfl | exact jRet_b (by omega)) ?_
        exact ⟨(1), rfl, rfl, by omega, trivial⟩
set_option maxRecDepth 20000 in
set_option maxHeartbeats 4000000 in
theorem k_LUses_against {X : jX} {dd : Nat} {R : Nat → jC} {m : Nat} {tg ln : Int → Int} {F : Int → Int → Int} {p o ix : Int} (hd : 3 ≤ dd) (hC : HC 0 m tg ln F) (o_p : own m p) (t_p : tg p = 8) (o_o : own m o) (t_o : tg o = 8) (y_ix : ix = 0 ∨ (own m ix ∧ tg ix = 7)) (p_0 : F p (3 : Int) ≠ 0) : wk X dd 239 [rv p, rv o, rv ix] (cV R m tg ln F) (fun o V_q => ∃ (r : Int), V_q = cV R m tg ln F ∧ o = .inl (some (.int (i32 r))) ∧ (0 ≤ r ∧ r ≤ 1) ∧ True) := by
  obtain ⟨d, rfl⟩ : ∃ d, dd = d + 1 := ⟨dd - 1, by omega⟩
  refine wk_of (e := jm239) rfl (by rw [jS_r, jS_r, jS_r, jS_0]; exact Nat.le_of_ble_eq_true rfl) ?_
  rw [la_r, la_r, la_r, la_0]
  show wj X d jm239 (0, [(0, rv (p)), (1, rv (o)), (2, rv (ix))], [], cV R m tg ln F) _
  obtain ⟨L0, eL0⟩ : ∃ q : jL, q = [(0, rv (p)), (1, rv (o)), (2, rv (ix))] := ⟨_, rfl⟩
  rw [← eL0]
  have g10 : jGet L0 0 = some (rv (p)) := eL0 ▸ (rfl : jGet [(0, rv (p)), (1, rv (o)), (2, rv (ix))] 0 = some (rv (p)))
  have g11 : jGet L0 1 = some (rv (o)) := eL0 ▸ (rfl : jGet [(0, rv (p)), (1, rv (o)), (2, rv (ix))] 1 = some (rv (o)))
  have g12 : jGet L0 2 = some (rv (ix)) := eL0 ▸ (rfl : jGet [(0, rv (p)), (1, rv (o)), (2, rv (ix))] 2 = some (rv (ix)))
  clear eL0
  refine jx_ld (pc_q := 1) (l_q := L0) (st_q := [rv (ix)]) rfl (jl_rvn g12) ?_
  refine cx_nul (pc_q := 4) (tg_q := 22) rfl rfl rfl (fun h13 => ?_) (fun h13 => ?_)
  · have _q := h13
    refine jx_ar (pc_q := 23) (st_q := [.int (i32 (0))]) rfl rfl rfl rfl ?_
    refine jx_ld (pc_q := 24) (l_q := jSto1 L0 3 (.int (i32 (0)))) (st_q := []) rfl rfl ?_
    obtain ⟨L14, eL14⟩ : ∃ q : jL, q = jSto1 L0 3 (.int (i32 (0))) := ⟨_, rfl⟩
    rw [← eL14]
    have g15 : jGet L14 0 = some (rv (p)) := eL14 ▸ jg_nr (by decide) g10
    have g16 : jGet L14 1 = some (rv (o)) := eL14 ▸ jg_nr (by decide) g11
    have g17 : jGet L14 2 = some (rv (ix)) := eL14 ▸ jg_nr (by decide) g12
    have g18 : jGet L14 3 = some (.int (i32 (0))) := eL14 ▸ jg_eq
    clear eL14
    exact k_LUses_against_at_24 (X := X) (d := d) (R := R) (m := m) (tg := tg) (ln := ln) (F := F) (p := p) (o := o) (ix := ix) (hd := hd) (hC := hC) (o_p := o_p) (t_p := t_p) (o_o := o_o) (t_o := t_o) (y_ix := y_ix) (p_0 := p_0) L14 (0) g15 g16 g17 g18 (by omega) (by omega) (by omega)
  · have _q := h13
    have ho19 : own m (ix) ∧ tg (ix) = 7 := y_ix.resolve_left h13
    refine jx_ld (pc_q := 5) (l_q := L0) (st_q := [rv (p)]) rfl (jl_rvn g10) ?_
    refine cx_gr (pc_q := 8) (c := 7) (q := 3) (v := F (p) (3 : Int)) rfl rfl (by decide) (by decide) rfl rfl o_p t_p rfl ?_
    have y20 : F (p) (3 : Int) = 0 ∨ (own m (F (p) (3 : Int)) ∧ tg (F (p) (3 : Int)) = 7) := by have z := HC_r (c := 7) (q := 3) hC o_p t_p (by decide) rfl; rw [show F (p) ((3 : Nat) : Int) = F (p) (3 : Int) from rfl] at z; exact z
    have hn21 : F (p) (3 : Int) ≠ 0 := p_0
    have ho22 : own m (F (p) (3 : Int)) ∧ tg (F (p) (3 : Int)) = 7 := y20.resolve_left hn21
    refine cx_gi (pc_q := 11) (c := 6) (q := 2) (v := F (F (p) (3 : Int)) (2 : Int)) rfl rfl (by decide) (by decide) (Or.inl rfl) rfl ho22.1 ho22.2 rfl ?_
    have b23 : (-2147483648 : Int) ≤ F (F (p) (3 : Int)) (2 : Int) ∧ F (F (p) (3 : Int)) (2 : Int) ≤ 2147483647 := by have z := HC_i (c := 6) (q := 2) hC ho22.1 ho22.2 (by decide) rfl; rw [show F (F (p) (3 : Int)) ((2 : Nat) : Int) = F (F (p) (3 : Int)) (2 : Int) from rfl] at z; exact z
    refine jx_ld (pc_q := 12) (l_q := L0) (st_q := [rv (ix), .int (i32 (F (F (p) (3 : Int)) (2 : Int)))]) rfl (jl_rvn g12) ?_
    refine cx_gi (pc_q := 15) (c := 6) (q := 2) (v := F (ix) (2 : Int)) rfl rfl (by decide) (by decide) (Or.inl rfl) rfl ho19.1 ho19.2 rfl ?_
    have b24 : (-2147483648 : Int) ≤ F (ix) (2 : Int) ∧ F (ix) (2 : Int) ≤ 2147483647 := by have z := HC_i (c := 6) (q := 2) hC ho19.1 ho19.2 (by decide) rfl; rw [show F (ix) ((2 : Nat) : Int) = F (ix) (2 : Int) from rfl] at z; exact z
    refine jx_icmp_le (pc_q := 18) (tg := 22) rfl rfl rfl (by omega) (by omega) (by omega) (by omega) (fun h25 => ?_) (fun h25 => ?_)
    · have _q := h25
      refine jx_ar (pc_q := 23) (st_q := [.int (i32 (0))]) rfl rfl rfl rfl ?_
      refine jx_ld (pc_q := 24) (l_q := jSto1 L0 3 (.int (i32 (0)))) (st_q := []) rfl rfl ?_
      obtain ⟨L26, eL26⟩ : ∃ q : jL, q = jSto1 L0 3 (.int (i32 (0))) := ⟨_, rfl⟩
      rw [← eL26]
      have g27 : jGet L26 0 = some (rv (p)) := eL26 ▸ jg_nr (by decide) g10
      have g28 : jGet L26 1 = some (rv (o)) := eL26 ▸ jg_nr (by decide) g11
      have g29 : jGet L26 2 = some (rv (ix)) := eL26 ▸ jg_nr (by decide) g12
      have g30 : jGet L26 3 = some (.int (i32 (0))) := eL26 ▸ jg_eq
      clear eL26
      exact k_LUses_against_at_24 (X := X) (d := d) (R := R) (m := m) (tg := tg) (ln := ln) (F := F) (p := p) (o := o) (ix := ix) (hd := hd) (hC := hC) (o_p := o_p) (t_p := t_p) (o_o := o_o) (t_o := t_o) (y_ix := y_ix) (p_0 := p_0) L26 (0) g27 g28 g29 g30 (by omega) (by omega) (by omega)
    · have _q := h25
      refine jx_ar (pc_q := 19) (st_q := [.int (i32 (1))]) rfl rfl rfl rfl ?_
      refine jx_go (tg := 23) rfl rfl ?_
      refine jx_ld (pc_q := 24) (l_q := jSto1 L0 3 (.int (i32 (1)))) (st_q := []) rfl rfl ?_
      obtain ⟨L31, eL31⟩ : ∃ q : jL, q = jSto1 L0 3 (.int (i32 (1))) := ⟨_, rfl⟩
      rw [← eL31]
      have g32 : jGet L31 0 = some (rv (p)) := eL31 ▸ jg_nr (by decide) g10
      have g33 : jGet L31 1 = some (rv (o)) := eL31 ▸ jg_nr (by decide) g11
      have g34 : jGet L31 2 = some (rv (ix)) := eL31 ▸ jg_nr (by decide) g12
      have g35 : jGet L31 3 = some (.int (i32 (1))) := eL31 ▸ jg_eq
      clear eL31
      exact k_LUses_against_at_24 (X := X) (d := d) (R := R) (m := m) (tg := tg) (ln := ln) (F := F) (p := p) (o := o) (ix := ix) (hd := hd) (hC := hC) (o_p := o_p) (t_p := t_p) (o_o := o_o) (t_o := t_o) (y_ix := y_ix) (p_0 := p_0) L31 (1) g32 g33 g34 g35 (by omega) (by omega) (by omega)
set_option maxRecDepth 20000 in
set_option maxHeartbeats 4000000 in
theorem k_LUses_findElement_at_130 {X : jX} {d : Nat} {R : Nat → jC} {m : Nat} {tg ln : Int → Int} {F : Int → Int → Int} {p : Int} (hd : 2 ≤ d + 1) (hC : HC 0 m tg ln F) (o_p : own m p) (t_p : tg p = 8) : ∀ (L : jL) (Fx : Int → Int → Int) (bs : Int), jGet L 0 = some (rv (p)) → jGet L 2 = some (rv bs) → HC 0 m tg ln Fx → Fq 0 [(8, 16), (8, 17), (8, 18)] m tg F Fx → (bs = 0 ∨ (own m bs ∧ tg bs = 8)) → wj X d jm232 (130, L, [], cV R m tg ln Fx) (fun o V_q => ∃ (F_q : Int → Int → Int), V_q = cV R m tg ln F_q ∧ o = .inl none ∧ HC 0 m tg ln F_q ∧ Fq 0 [(8, 16), (8, 17), (8, 18)] m tg F F_q ∧ True) := by
  intro L Fx bs gL_0 gL_2 hCx hMx yx_bs
  refine jx_ld (pc_q := 131) (l_q := L) (st_q := [rv (bs)]) rfl (jl_rvn gL_2) ?_
  refine cx_nul (pc_q := 134) (tg_q := 159) rfl rfl rfl (fun h1 => ?_) (fun h1 => ?_)
  · have _q := h1
    refine jx_ld (pc_q := 160) (l_q := L) (st_q := [rv (bs)]) rfl (jl_rvn gL_2) ?_
    refine cx_nul (pc_q := 163) (tg_q := 192) rfl rfl rfl (fun h2 => ?_) (fun h2 => ?_)
    · have _q := h2
      refine jx_ld (pc_q := 193) (l_q := L) (st_q := [rv (p)]) rfl (jl_rvn gL_0) ?_
      refine jx_ar (pc_q := 194) (st_q := [.int (i32 (1)), rv (p)]) rfl rfl rfl rfl ?_
      refine cx_pb (pc_q := 197) (c := 7) (q := 16) (qi := (16 : Int)) (z := 1) rfl rfl (by decide) (by decide) rfl rfl rfl (by decide) (by omega) rfl o_p t_p rfl ?_
      obtain ⟨F3, eF3⟩ : ∃ q, q = uF Fx (p) (16 : Int) (1) := ⟨_, rfl⟩
      rw [← eF3]
      have hC4 : HC 0 m tg ln F3 := by rw [eF3]; exact HC_fi (c := 7) (q := 16) hCx t_p (by decide) rfl (by omega) (by omega) ⟨fun w => absurd w (by decide), fun w => absurd w (by decide)⟩
      have hM5 : Fq 0 [(8, 16), (8, 17), (8, 18)] m tg F F3 := by rw [eF3]; exact Fq_p hMx t_p (fun _ => rfl) rfl
      refine jx_rt (v := none) rfl rfl rfl rfl rfl rfl ?_
      exact ⟨F3, rfl, rfl, hC4, hM5, trivial⟩
    · have _q := h2
      have ho6 : own m (bs) ∧ tg (bs) = 8 := yx_bs.resolve_left h2
      refine jx_ld (pc_q := 164) (l_q := L) (st_q := [rv (bs)]) rfl (jl_rvn gL_2) ?_
      refine cx_gr (pc_q := 167) (c := 7) (q := 3) (v := F (bs) (3 : Int)) rfl rfl (by decide) (by decide) rfl rfl ho6.1 ho6.2 (show Fx (bs) (3 : Int) = F (bs) (3 : Int) from hMx _ _ ho6.1 (own_z ho6.1) (by rw [ho6.2]; rfl)) ?_
      have y7 : F (bs) (3 : Int) = 0 ∨ (own m (F (bs) (3 : Int)) ∧ tg (F (bs) (3 : Int)) = 7) := by have z := HC_r (c := 7) (q := 3) hCx ho6.1 ho6.2 (by decide) rfl; rw [show Fx (bs) ((3 : Nat) : Int) = F (bs) (3 : Int) from (show Fx (bs) (3 : Int) = F (bs) (3 : Int) from hMx _ _ ho6.1 (own_z ho6.1) (by rw [ho6.2]; rfl))] at z; exact z
      refine cx_nul (pc_q := 170) (tg_q := 192) rfl rfl rfl (fun h8 => ?_) (fun h8 => ?_)
      · have _q := h8
        refine jx_ld (pc_q := 193) (l_q := L) (st_q := [rv (p)]) rfl (jl_rvn gL_0) ?_
        refine jx_ar (pc_q := 194) (st_q := [.int (i32 (1)), rv (p)]) rfl rfl rfl rfl ?_
        refine cx_pb (pc_q := 197) (c := 7) (q := 16) (qi := (16 : Int)) (z := 1) rfl rfl (by decide) (by decide) rfl rfl rfl (by decide) (by omega) rfl o_p t_p rfl ?_
        obtain ⟨F9, eF9⟩ : ∃ q, q = uF Fx (p) (16 : Int) (1) := ⟨_, rfl⟩
        rw [← eF9]
        have hC10 : HC 0 m tg ln F9 := by rw [eF9]; exact HC_fi (c := 7) (q := 16) hCx t_p (by decide) rfl (by omega) (by omega) ⟨fun w => absurd w (by decide), fun w => absurd w (by decide)⟩
        have hM11 : Fq 0 [(8, 16), (8, 17), (8, 18)] m tg F F9 := by rw [eF9]; exact Fq_p hMx t_p (fun _ => rfl) rfl
        refine jx_rt (v := none) rfl rfl rfl rfl rfl rfl ?_
        exact ⟨F9, rfl, rfl, hC10, hM11, trivial⟩
      · have _q := h8
        have ho12 : own m (F (bs) (3 : Int)) ∧ tg (F (bs) (3 : Int)) = 7 := y7.resolve_left h8
        refine jx_ld (pc_q := 171) (l_q := L) (st_q := [rv (bs)]) rfl (jl_rvn gL_2) ?_
        refine cx_gr (pc_q := 174) (c := 7) (q := 3) (v := F (bs) (3 : Int)) rfl rfl (by decide) (by decide) rfl rfl ho6.1 ho6.2 (show Fx (bs) (3 : Int) = F (bs) (3 : Int) from hMx _ _ ho6.1 (own_z ho6.1) (by rw [ho6.2]; rfl)) ?_
        refine cx_gi (pc_q := 177) (c := 6) (q := 0) (v := F (F (bs) (3 : Int)) (0 : Int)) rfl rfl (by decide) (by decide) (Or.inl rfl) rfl ho12.1 ho12.2 (show Fx (F (bs) (3 : Int)) (0 : Int) = F (F (bs) (3 : Int)) (0 : Int) from hMx _ _ ho12.1 (own_z ho12.1) (by rw [ho12.2]; rfl)) ?_
        have b13 : (-2147483648 : Int) ≤ F (F (bs) (3 : Int)) (0 : Int) ∧ F (F (bs) (3 : Int)) (0 : Int) ≤ 2147483647 := by have z := HC_i (c := 6) (q := 0) hCx ho12.1 ho12.2 (by decide) rfl; rw [show Fx (F (bs) (3 : Int)) ((0 : Nat) : Int) = F (F (bs) (3 : Int)) (0 : Int) from (show Fx (F (bs) (3 : Int)) (0 : Int) = F (F (bs) (3 : Int)) (0 : Int) from hMx _ _ ho12.1 (own_z ho12.1) (by rw [ho12.2]; rfl))] at z; exact z
        refine jx_ar (pc_q := 178) (st_q := [.int (i32 (4)), .int (i32 (F (F (bs) (3 : Int)) (0 : Int)))]) rfl rfl rfl rfl ?_
        refine jx_icmp_ne (pc_q := 181) (tg := 192) rfl rfl rfl (by omega) (by omega) (by decide) (by decide) (fun h14 => ?_) (fun h14 => ?_)
        · have _q := h14
          refine jx_ld (pc_q := 193) (l_q := L) (st_q := [rv (p)]) rfl (jl_rvn gL_0) ?_
          refine jx_ar (pc_q := 194) (st_q := [.int (i32 (1)), rv (p)]) rfl rfl rfl rfl ?_
          refine cx_pb (pc_q := 197) (c := 7) (q := 16) (qi := (16 : Int)) (z := 1) rfl rfl (by decide) (by decide) rfl rfl rfl (by decide) (by omega) rfl o_p t_p rfl ?_
          obtain ⟨F15, eF15⟩ : ∃ q, q = uF Fx (p) (16 : Int) (1) := ⟨_, rfl⟩
          rw [← eF15]
          have hC16 : HC 0 m tg ln F15 := by rw [eF15]; exact HC_fi (c := 7) (q := 16) hCx t_p (by decide) rfl (by omega) (by omega) ⟨fun w => absurd w (by decide), fun w => absurd w (by decide)⟩
          have hM17 : Fq 0 [(8, 16), (8, 17), (8, 18)] m tg F F15 := by rw [eF15]; exact Fq_p hMx t_p (fun _ => rfl) rfl
          refine jx_rt (v := none) rfl rfl rfl rfl rfl rfl ?_
          exact ⟨F15, rfl, rfl, hC16, hM17, trivial⟩
        · have _q := h14
          refine jx_ld (pc_q := 182) (l_q := L) (st_q := [rv (p)]) rfl (jl_rvn gL_0) ?_
          refine jx_ld (pc_q := 183) (l_q := L) (st_q := [rv (bs), rv (p)]) rfl (jl_rvn gL_2) ?_
          refine cx_gr (pc_q := 186) (c := 7) (q := 3) (v := F (bs) (3 : Int)) rfl rfl (by decide) (by decide) rfl rfl ho6.1 ho6.2 (show Fx (bs) (3 : Int) = F (bs) (3 : Int) from hMx _ _ ho6.1 (own_z ho6.1) (by rw [ho6.2]; rfl)) ?_
          refine cx_po (pc_q := 189) (c := 7) (q := 17) (qi := (17 : Int)) (z := F (bs) (3 : Int)) rfl rfl (by decide) (by decide) rfl rfl rfl (by decide) rfl o_p t_p rfl ?_
          obtain ⟨F18, eF18⟩ : ∃ q, q = uF Fx (p) (17 : Int) (F (bs) (3 : Int)) := ⟨_, rfl⟩
          rw [← eF18]
          have hC19 : HC 0 m tg ln F18 := by rw [eF18]; exact HC_fr (c := 7) (q := 17) (by decide) hCx t_p (by decide) rfl (Or.inr ⟨ho12.1, ho12.2⟩) ⟨fun w => absurd w (by decide), fun w => absurd w (by decide)⟩
          have hM20 : Fq 0 [(8, 16), (8, 17), (8, 18)] m tg F F18 := by rw [eF18]; exact Fq_p hMx t_p (fun _ => rfl) rfl
          refine jx_go (tg := 197) rfl rfl ?_
          refine jx_rt (v := none) rfl rfl rfl rfl rfl rfl ?_
          exact ⟨F18, rfl, rfl, hC19, hM20, trivial⟩
  · have _q := h1
    have ho21 : own m (bs) ∧ tg (bs) = 8 := yx_bs.resolve_left h1
    refine jx_ld (pc_q := 135) (l_q := L) (st_q := [rv (bs)]) rfl (jl_rvn gL_2) ?_
    refine cx_gi (pc_q := 138) (c := 7) (q := 0) (v := F (bs) (0 : Int)) rfl rfl (by decide) (by decide) (Or.inl rfl) rfl ho21.1 ho21.2 (show Fx (bs) (0 : Int) = F (bs) (0 : Int) from hMx _ _ ho21.1 (own_z ho21.1) (by rw [ho21.2]; rfl)) ?_
    have b22 : (-2147483648 : Int) ≤ F (bs) (0 : Int) ∧ F (bs) (0 : Int) ≤ 2147483647 := by have z := HC_i (c := 7) (q := 0) hCx ho21.1 ho21.2 (by decide) rfl; rw [show Fx (bs) ((0 : Nat) : Int) = F (bs) (0 : Int) from (show Fx (bs) (0 : Int) = F (bs) (0 : Int) from hMx _ _ ho21.1 (own_z ho21.1) (by rw [ho21.2]; rfl))] at z; exact z
    refine jx_ar (pc_q := 140) (st_q := [.int (i32 (20)), .int (i32 (F (bs) (0 : Int)))]) rfl rfl rfl rfl ?_
    refine jx_icmp_ne (pc_q := 143) (tg := 159) rfl rfl rfl (by omega) (by omega) (by decide) (by decide) (fun h23 => ?_) (fun h23 => ?_)
    · have _q := h23
      refine jx_ld (pc_q := 160) (l_q := L) (st_q := [rv (bs)]) rfl (jl_rvn gL_2) ?_
      refine cx_nul (pc_q := 163) (tg_q := 192) rfl rfl rfl (fun h24 => ?_) (fun h24 => ?_)
      · have _q := h24
        exact absurd h24 (by have := ho21.1.1; omega)
      · have _q := h24
        refine jx_ld (pc_q := 164) (l_q := L) (st_q := [rv (bs)]) rfl (jl_rvn gL_2) ?_
        refine cx_gr (pc_q := 167) (c := 7) (q := 3) (v := F (bs) (3 : Int)) rfl rfl (by decide) (by decide) rfl rfl ho21.1 ho21.2 (show Fx (bs) (3 : Int) = F (bs) (3 : Int) from hMx _ _ ho21.1 (own_z ho21.1) (by rw [ho21.2]; rfl)) ?_
        have y25 : F (bs) (3 : Int) = 0 ∨ (own m (F (bs) (3 : Int)) ∧ tg (F (bs) (3 : Int)) = 7) := by have z := HC_r (c := 7) (q := 3) hCx ho21.1 ho21.2 (by decide) rfl; rw [show Fx (bs) ((3 : Nat) : Int) = F (bs) (3 : Int) from (show Fx (bs) (3 : Int) = F (bs) (3 : Int) from hMx _ _ ho21.1 (own_z ho21.1) (by rw [ho21.2]; rfl))] at z; exact z
        refine cx_nul (pc_q := 170) (tg_q := 192) rfl rfl rfl (fun h26 => ?_) (fun h26 => ?_)
        · have _q := h26
          refine jx_ld (pc_q := 193) (l_q := L) (st_q := [rv (p)]) rfl (jl_rvn gL_0) ?_
          refine jx_ar (pc_q := 194) (st_q := [.int (i32 (1)), rv (p)]) rfl rfl rfl rfl ?_
          refine cx_pb (pc_q := 197) (c := 7) (q := 16) (qi := (16 : Int)) (z := 1) rfl rfl (by decide) (by decide) rfl rfl rfl (by decide) (by omega) rfl o_p t_p rfl ?_
          obtain ⟨F27, eF27⟩ : ∃ q, q = uF Fx (p) (16 : Int) (1) := ⟨_, rfl⟩
          rw [← eF27]
          have hC28 : HC 0 m tg ln F27 := by rw [eF27]; exact HC_fi (c := 7) (q := 16) hCx t_p (by decide) rfl (by omega) (by omega) ⟨fun w => absurd w (by decide), fun w => absurd w (by decide)⟩
          have hM29 : Fq 0 [(8, 16), (8, 17), (8, 18)] m tg F F27 := by rw [eF27]; exact Fq_p hMx t_p (fun _ => rfl) rfl
          refine jx_rt (v := none) rfl rfl rfl rfl rfl rfl ?_
          exact ⟨F27, rfl, rfl, hC28, hM29, trivial⟩
        · have _q := h26
          have ho30 : own m (F (bs) (3 : Int)) ∧ tg (F (bs) (3 : Int)) = 7 := y25.resolve_left h26
          refine jx_ld (pc_q := 171) (l_q := L) (st_q := [rv (bs)]) rfl (jl_rvn gL_2) ?_
          refine cx_gr (pc_q := 174) (c := 7) (q := 3) (v := F (bs) (3 : Int)) rfl rfl (by decide) (by decide) rfl rfl ho21.1 ho21.2 (show Fx (bs) (3 : Int) = F (bs) (3 : Int) from hMx _ _ ho21.1 (own_z ho21.1) (by rw [ho21.2]; rfl)) ?_
          refine cx_gi (pc_q := 177) (c := 6) (q := 0) (v := F (F (bs) (3 : Int)) (0 : Int)) rfl rfl (by decide) (by decide) (Or.inl rfl) rfl ho30.1 ho30.2 (show Fx (F (bs) (3 : Int)) (0 : Int) = F (F (bs) (3 : Int)) (0 : Int) from hMx _ _ ho30.1 (own_z ho30.1) (by rw [ho30.2]; rfl)) ?_
          have b31 : (-2147483648 : Int) ≤ F (F (bs) (3 : Int)) (0 : Int) ∧ F (F (bs) (3 : Int)) (0 : Int) ≤ 2147483647 := by have z := HC_i (c := 6) (q := 0) hCx ho30.1 ho30.2 (by decide) rfl; rw [show Fx (F (bs) (3 : Int)) ((0 : Nat) : Int) = F (F (bs) (3 : Int)) (0 : Int) from (show Fx (F (bs) (3 : Int)) (0 : Int) = F (F (bs) (3 : Int)) (0 : Int) from hMx _ _ ho30.1 (own_z ho30.1) (by rw [ho30.2]; rfl))] at z; exact z
          refine jx_ar (pc_q := 178) (st_q := [.int (i32 (4)), .int (i32 (F (F (bs) (3 : Int)) (0 : Int)))]) rfl rfl rfl rfl ?_
          refine jx_icmp_ne (pc_q := 181) (tg := 192) rfl rfl rfl (by omega) (by omega) (by decide) (by decide) (fun h32 => ?_) (fun h32 => ?_)
          · have _q := h32
            refine jx_ld (pc_q := 193) (l_q := L) (st_q := [rv (p)]) rfl (jl_rvn gL_0) ?_
            refine jx_ar (pc_q := 194) (st_q := [.int (i32 (1)), rv (p)]) rfl rfl rfl rfl ?_
            refine cx_pb (pc_q := 197) (c := 7) (q := 16) (qi := (16 : Int)) (z := 1) rfl rfl (by decide) (by decide) rfl rfl rfl (by decide) (by omega) rfl o_p t_p rfl ?_
            obtain ⟨F33, eF33⟩ : ∃ q, q = uF Fx (p) (16 : Int) (1) := ⟨_, rfl⟩
            rw [← eF33]
            have hC34 : HC 0 m tg ln F33 := by rw [eF33]; exact HC_fi (c := 7) (q := 16) hCx t_p (by decide) rfl (by omega) (by omega) ⟨fun w => absurd w (by decide), fun w => absurd w (by decide)⟩
            have hM35 : Fq 0 [(8, 16), (8, 17), (8, 18)] m tg F F33 := by rw [eF33]; exact Fq_p hMx t_p (fun _ => rfl) rfl
            refine jx_rt (v := none) rfl rfl rfl rfl rfl rfl ?_
            exact ⟨F33, rfl, rfl, hC34, hM35, trivial⟩
          · have _q := h32
            refine jx_ld (pc_q := 182) (l_q := L) (st_q := [rv (p)]) rfl (jl_rvn gL_0) ?_
            refine jx_ld (pc_q := 183) (l_q := L) (st_q := [rv (bs), rv (p)]) rfl (jl_rvn gL_2) ?_
            refine cx_gr (pc_q := 186) (c := 7) (q := 3) (v := F (bs) (3 : Int)) rfl rfl (by decide) (by decide) rfl rfl ho21.1 ho21.2 (show Fx (bs) (3 : Int) = F (bs) (3 : Int) from hMx _ _ ho21.1 (own_z ho21.1) (by rw [ho21.2]; rfl)) ?_
            refine cx_po (pc_q := 189) (c := 7) (q := 17) (qi := (17 : Int)) (z := F (bs) (3 : Int)) rfl rfl (by decide) (by decide) rfl rfl rfl (by decide) rfl o_p t_p rfl ?_
            obtain ⟨F36, eF36⟩ : ∃ q, q = uF Fx (p) (17 : Int) (F (bs) (3 : Int)) := ⟨_, rfl⟩
            rw [← eF36]
            have hC37 : HC 0 m tg ln F36 := by rw [eF36]; exact HC_fr (c := 7) (q := 17) (by decide) hCx t_p (by decide) rfl (Or.inr ⟨ho30.1, ho30.2⟩) ⟨fun w => absurd w (by decide), fun w => absurd w (by decide)⟩
            have hM38 : Fq 0 [(8, 16), (8, 17), (8, 18)] m tg F F36 := by rw [eF36]; exact Fq_p hMx t_p (fun _ => rfl) rfl
            refine jx_go (tg := 197) rfl rfl ?_
            refine jx_rt (v := none) rfl rfl rfl rfl rfl rfl ?_
            exact ⟨F36, rfl, rfl, hC37, hM38, trivial⟩
    · have _q := h23
      refine jx_ld (pc_q := 144) (l_q := L) (st_q := [rv (p)]) rfl (jl_rvn gL_0) ?_
      refine jx_ar (pc_q := 145) (st_q := [rv (p), rv (p)]) rfl rfl ja_dup rfl ?_
      refine cx_gi (pc_q := 148) (c := 7) (q := 18) (v := Fx (p) (18 : Int)) rfl rfl (by decide) (by decide) (Or.inl rfl) rfl o_p t_p rfl ?_
      have b39 : (-2147483648 : Int) ≤ Fx (p) (18 : Int) ∧ Fx (p) (18 : Int) ≤ 2147483647 := by have z := HC_i (c := 7) (q := 18) hCx o_p t_p (by decide) rfl; rw [show Fx (p) ((18 : Nat) : Int) = Fx (p) (18 : Int) from rfl] at z; exact z
      refine jx_ld (pc_q := 149) (l_q := L) (st_q := [rv (bs), .int (i32 (Fx (p) (18 : Int))), rv (p)]) rfl (jl_rvn gL_2) ?_
      refine cx_gi (pc_q := 152) (c := 7) (q := 2) (v := F (bs) (2 : Int)) rfl rfl (by decide) (by decide) (Or.inl rfl) rfl ho21.1 ho21.2 (show Fx (bs) (2 : Int) = F (bs) (2 : Int) from hMx _ _ ho21.1 (own_z ho21.1) (by rw [ho21.2]; rfl)) ?_
      have b40 : (-2147483648 : Int) ≤ F (bs) (2 : Int) ∧ F (bs) (2 : Int) ≤ 2147483647 := by have z := HC_i (c := 7) (q := 2) hCx ho21.1 ho21.2 (by decide) rfl; rw [show Fx (bs) ((2 : Nat) : Int) = F (bs) (2 : Int) from (show Fx (bs) (2 : Int) = F (bs) (2 : Int) from hMx _ _ ho21.1 (own_z ho21.1) (by rw [ho21.2]; rfl))] at z; exact z
      refine jx_add (pc_q := 153) rfl rfl ?_
      obtain ⟨z41, ez41⟩ : ∃ q, q = (i32 ((Fx (p) (18 : Int) + F (bs) (2 : Int)))).toInt := ⟨_, rfl⟩
      have bz41 : (-2147483648 : Int) ≤ z41 ∧ z41 ≤ 2147483647 := ez41 ▸ i32_rg _
      rw [show i32 ((Fx (p) (18 : Int) + F (bs) (2 : Int))) = i32 z41 by rw [ez41, i32_of]]
      clear ez41
      refine cx_pi (pc_q := 156) (c := 7) (q := 18) (qi := (18 : Int)) (z := z41) rfl rfl (by decide) (by decide) rfl rfl rfl (by decide) rfl o_p t_p rfl ?_
      obtain ⟨F42, eF42⟩ : ∃ q, q = uF Fx (p) (18 : Int) (z41) := ⟨_, rfl⟩
      rw [← eF42]
      have hC43 : HC 0 m tg ln F42 := by rw [eF42]; exact HC_fi (c := 7) (q := 18) hCx t_p (by decide) rfl (by omega) (by omega) ⟨fun w => absurd w (by decide), fun w => absurd w (by decide)⟩
      have hM44 : Fq 0 [(8, 16), (8, 17), (8, 18)] m tg F F42 := by rw [eF42]; exact Fq_p hMx t_p (fun _ => rfl) rfl
      refine jx_go (tg := 197) rfl rfl ?_
      refine jx_rt (v := none) rfl rfl rfl rfl rfl rfl ?_
      exact ⟨F42, rfl, rfl, hC43, hM44, trivial⟩
set_option maxRecDepth 20000 in
set_option maxHeartbeats 4000000 in
theorem k_LUses_findElement {X : jX} {dd : Nat} {R : Nat → jC} {m : Nat} {tg ln : Int → Int} {F : Int → Int → Int} {p : Int} (hd : 2 ≤ dd) (hC : HC 0 m tg ln F) (o_p : own m p) (t_p : tg p = 8) : wk X dd 232 [rv p] (cV R m tg ln F) (fun o V_q => ∃ (F_q : Int → Int → Int), V_q = cV R m tg ln F_q ∧ o = .inl none ∧ HC 0 m tg ln F_q ∧ Fq 0 [(8, 16), (8, 17), (8, 18)] m tg F F_q ∧ True) := by
  obtain ⟨d, rfl⟩ : ∃ d, dd = d + 1 := ⟨dd - 1, by omega⟩
  refine wk_of (e := jm232) rfl (by rw [jS_r, jS_0]; exact Nat.le_of_ble_eq_true rfl) ?_
  rw [la_r, la_0]
  show wj X d jm232 (0, [(0, rv (p))], [], cV R m tg ln F) _
  have hM0 : Fq 0 [(8, 16), (8, 17), (8, 18)] m tg F F := Fq_r
  obtain ⟨L0, eL0⟩ : ∃ q : jL, q = [(0, rv (p))] := ⟨_, rfl⟩
  rw [← eL0]
  have g45 : jGet L0 0 = some (rv (p)) := eL0 ▸ (rfl : jGet [(0, rv (p))] 0 = some (rv (p)))
  clear eL0
  refine jx_ld (pc_q := 1) (l_q := L0) (st_q := [rv (p)]) rfl (jl_rvn g45) ?_
  refine cx_gr (pc_q := 4) (c := 7) (q := 4) (v := F (p) (4 : Int)) rfl rfl (by decide) (by decide) rfl rfl o_p t_p rfl ?_
  have y46 : F (p) (4 : Int) = 0 ∨ (own m (F (p) (4 : Int)) ∧ tg (F (p) (4 : Int)) = 8) := by have z := HC_r (c := 7) (q := 4) hC o_p t_p (by decide) rfl; rw [show F (p) ((4 : Nat) : Int) = F (p) (4 : Int) from rfl] at z; exact z
  refine jx_ld (pc_q := 5) (l_q := jSto1 L0 1 (rv (F (p) (4 : Int)))) (st_q := []) rfl (js_rvn (by decide)) ?_
  obtain ⟨L47, eL47⟩ : ∃ q : jL, q = jSto1 L0 1 (rv (F (p) (4 : Int))) := ⟨_, rfl⟩
  rw [← eL47]
  have g48 : jGet L47 0 = some (rv (p)) := eL47 ▸ jg_nr (by decide) g45
  have g49 : jGet L47 1 = some (rv (F (p) (4 : Int))) := eL47 ▸ jg_eq
  clear eL47
  refine jx_ld (pc_q := 6) (l_q := L47) (st_q := [rv (F (p) (4 : Int))]) rfl (jl_rvn g49) ?_
  refine cx_non (pc_q := 9) (tg_q := 36) rfl rfl rfl (fun h50 => ?_) (fun h50 => ?_)
  · have _q := h50
    have ho51 : own m (F (p) (4 : Int)) ∧ tg (F (p) (4 : Int)) = 8 := y46.resolve_left h50
    refine jx_ld (pc_q := 37) (l_q := L47) (st_q := [rv (F (p) (4 : Int))]) rfl (jl_rvn g49) ?_
    refine jx_ld (pc_q := 38) (l_q := jSto1 L47 2 (rv (F (p) (4 : Int)))) (st_q := []) rfl (js_rvn (by decide)) ?_
    obtain ⟨L52, eL52⟩ : ∃ q : jL, q = jSto1 L47 2 (rv (F (p) (4 : Int))) := ⟨_, rfl⟩
    rw [← eL52]
    have g53 : jGet L52 0 = some (rv (p)) := eL52 ▸ jg_nr (by decide) g48
    have g54 : jGet L52 1 = some (rv (F (p) (4 : Int))) := eL52 ▸ jg_nr (by decide) g49
    have g55 : jGet L52 2 = some (rv (F (p) (4 : Int))) := eL52 ▸ jg_eq
    clear eL52
    refine jx_ld (pc_q := 39) (l_q := L52) (st_q := [rv (F (p) (4 : Int))]) rfl (jl_rvn g54) ?_
    refine cx_gi (pc_q := 42) (c := 7) (q := 0) (v := F (F (p) (4 : Int)) (0 : Int)) rfl rfl (by decide) (by decide) (Or.inl rfl) rfl ho51.1 ho51.2 rfl ?_
    have b56 : (-2147483648 : Int) ≤ F (F (p) (4 : Int)) (0 : Int) ∧ F (F (p) (4 : Int)) (0 : Int) ≤ 2147483647 := by have z := HC_i (c := 7) (q := 0) hC ho51.1 ho51.2 (by decide) rfl; rw [show F (F (p) (4 : Int)) ((0 : Nat) : Int) = F (F (p) (4 : Int)) (0 : Int) from rfl] at z; exact z
    refine jx_ar (pc_q := 44) (st_q := [.int (i32 (22)), .int (i32 (F (F (p) (4 : Int)) (0 : Int)))]) rfl rfl rfl rfl ?_
    refine jx_icmp_ne (pc_q := 47) (tg := 69) rfl rfl rfl (by omega) (by omega) (by decide) (by decide) (fun h57 => ?_) (fun h57 => ?_)
    · have _q := h57
      refine jx_ar (pc_q := 70) (st_q := [.int (i32 (0))]) rfl rfl rfl rfl ?_
      refine jx_ld (pc_q := 71) (l_q := jSto1 L52 3 (.int (i32 (0)))) (st_q := []) rfl rfl ?_
      obtain ⟨L58, eL58⟩ : ∃ q : jL, q = jSto1 L52 3 (.int (i32 (0))) := ⟨_, rfl⟩
      rw [← eL58]
      have g59 : jGet L58 0 = some (rv (p)) := eL58 ▸ jg_nr (by decide) g53
      have g60 : jGet L58 1 = some (rv (F (p) (4 : Int))) := eL58 ▸ jg_nr (by decide) g54
      have g61 : jGet L58 2 = some (rv (F (p) (4 : Int))) := eL58 ▸ jg_nr (by decide) g55
      have g62 : jGet L58 3 = some (.int (i32 (0))) := eL58 ▸ jg_eq
      clear eL58
      refine jx_ld (pc_q := 72) (l_q := L58) (st_q := [.int (i32 (0))]) rfl (jl_iloadn g62) ?_
      refine jx_if_eq (pc_q := 75) (tg := 130) rfl rfl rfl (by decide) (by decide) (fun h63 => ?_) (fun h63 => ?_)
      · have _q := h63
        exact k_LUses_findElement_at_130 (X := X) (d := d) (R := R) (m := m) (tg := tg) (ln := ln) (F := F) (p := p) (hd := hd) (hC := hC) (o_p := o_p) (t_p := t_p) L58 F (F (p) (4 : Int)) g59 g61 hC hM0 (Or.inr ⟨ho51.1, ho51.2⟩)
      · have _q := h63
        exact absurd h63 (by omega)
    · have _q := h57
      refine jx_ld (pc_q := 48) (l_q := L52) (st_q := [rv (F (p) (4 : Int))]) rfl (jl_rvn g54) ?_
      refine cx_gi (pc_q := 51) (c := 7) (q := 2) (v := F (F (p) (4 : Int)) (2 : Int)) rfl rfl (by decide) (by decide) (Or.inl rfl) rfl ho51.1 ho51.2 rfl ?_
      have b64 : (-2147483648 : Int) ≤ F (F (p) (4 : Int)) (2 : Int) ∧ F (F (p) (4 : Int)) (2 : Int) ≤ 2147483647 := by have z := HC_i (c := 7) (q := 2) hC ho51.1 ho51.2 (by decide) rfl; rw [show F (F (p) (4 : Int)) ((2 : Nat) : Int) = F (F (p) (4 : Int)) (2 : Int) from rfl] at z; exact z
      refine jx_ar (pc_q := 53) (st_q := [.int (i32 (61)), .int (i32 (F (F (p) (4 : Int)) (2 : Int)))]) rfl rfl rfl rfl ?_
      refine jx_icmp_eq (pc_q := 56) (tg := 65) rfl rfl rfl (by omega) (by omega) (by decide) (by decide) (fun h65 => ?_) (fun h65 => ?_)
      · have _q := h65
        refine jx_ar (pc_q := 66) (st_q := [.int (i32 (1))]) rfl rfl rfl rfl ?_
        refine jx_go (tg := 70) rfl rfl ?_
        refine jx_ld (pc_q := 71) (l_q := jSto1 L52 3 (.int (i32 (1)))) (st_q := []) rfl rfl ?_
        obtain ⟨L66, eL66⟩ : ∃ q : jL, q = jSto1 L52 3 (.int (i32 (1))) := ⟨_, rfl⟩
        rw [← eL66]
        have g67 : jGet L66 0 = some (rv (p)) := eL66 ▸ jg_nr (by decide) g53
        have g68 : jGet L66 1 = some (rv (F (p) (4 : Int))) := eL66 ▸ jg_nr (by decide) g54
        have g69 : jGet L66 2 = some (rv (F (p) (4 : Int))) := eL66 ▸ jg_nr (by decide) g55
        have g70 : jGet L66 3 = some (.int (i32 (1))) := eL66 ▸ jg_eq
        clear eL66
        refine jx_ld (pc_q := 72) (l_q := L66) (st_q := [.int (i32 (1))]) rfl (jl_iloadn g70) ?_
        refine jx_if_eq (pc_q := 75) (tg := 130) rfl rfl rfl (by decide) (by decide) (fun h71 => ?_) (fun h71 => ?_)
        · have _q := h71
          exact absurd h71 (by omega)
        · have _q := h71
          refine jx_ld (pc_q := 76) (l_q := L66) (st_q := [rv (F (p) (4 : Int))]) rfl (jl_rvn g68) ?_
          refine cx_gr (pc_q := 79) (c := 7) (q := 5) (v := F (F (p) (4 : Int)) (5 : Int)) rfl rfl (by decide) (by decide) rfl rfl ho51.1 ho51.2 rfl ?_
          have y72 : F (F (p) (4 : Int)) (5 : Int) = 0 ∨ (own m (F (F (p) (4 : Int)) (5 : Int)) ∧ tg (F (F (p) (4 : Int)) (5 : Int)) = 8) := by have z := HC_r (c := 7) (q := 5) hC ho51.1 ho51.2 (by decide) rfl; rw [show F (F (p) (4 : Int)) ((5 : Nat) : Int) = F (F (p) (4 : Int)) (5 : Int) from rfl] at z; exact z
          refine cx_nul (pc_q := 82) (tg_q := 130) rfl rfl rfl (fun h73 => ?_) (fun h73 => ?_)
          · have _q := h73
            exact k_LUses_findElement_at_130 (X := X) (d := d) (R := R) (m := m) (tg := tg) (ln := ln) (F := F) (p := p) (hd := hd) (hC := hC) (o_p := o_p) (t_p := t_p) L66 F (F (p) (4 : Int)) g67 g69 hC hM0 (Or.inr ⟨ho51.1, ho51.2⟩)
          · have _q := h73
            have ho74 : own m (F (F (p) (4 : Int)) (5 : Int)) ∧ tg (F (F (p) (4 : Int)) (5 : Int)) = 8 := y72.resolve_left h73
            refine jx_ld (pc_q := 83) (l_q := L66) (st_q := [rv (F (p) (4 : Int))]) rfl (jl_rvn g68) ?_
            refine cx_gr (pc_q := 86) (c := 7) (q := 5) (v := F (F (p) (4 : Int)) (5 : Int)) rfl rfl (by decide) (by decide) rfl rfl ho51.1 ho51.2 rfl ?_
            refine cx_gi (pc_q := 89) (c := 7) (q := 0) (v := F (F (F (p) (4 : Int)) (5 : Int)) (0 : Int)) rfl rfl (by decide) (by decide) (Or.inl rfl) rfl ho74.1 ho74.2 rfl ?_
            have b75 : (-2147483648 : Int) ≤ F (F (F (p) (4 : Int)) (5 : Int)) (0 : Int) ∧ F (F (F (p) (4 : Int)) (5 : Int)) (0 : Int) ≤ 2147483647 := by have z := HC_i (c := 7) (q := 0) hC ho74.1 ho74.2 (by decide) rfl; rw [show F (F (F (p) (4 : Int)) (5 : Int)) ((0 : Nat) : Int) = F (F (F (p) (4 : Int)) (5 : Int)) (0 : Int) from rfl] at z; exact z
            refine jx_ar (pc_q := 91) (st_q := [.int (i32 (20)), .int (i32 (F (F (F (p) (4 : Int)) (5 : Int)) (0 : Int)))]) rfl rfl rfl rfl ?_
            refine jx_icmp_ne (pc_q := 94) (tg := 130) rfl rfl rfl (by omega) (by omega) (by decide) (by decide) (fun h76 => ?_) (fun h76 => ?_)
            · have _q := h76
              exact k_LUses_findElement_at_130 (X := X) (d := d) (R := R) (m := m) (tg := tg) (ln := ln) (F := F) (p := p) (hd := hd) (hC := hC) (o_p := o_p) (t_p := t_p) L66 F (F (p) (4 : Int)) g67 g69 hC hM0 (Or.inr ⟨ho51.1, ho51.2⟩)
            · have _q := h76
              refine jx_ld (pc_q := 95) (l_q := L66) (st_q := [rv (F (p) (4 : Int))]) rfl (jl_rvn g68) ?_
              refine cx_gr (pc_q := 98) (c := 7) (q := 4) (v := F (F (p) (4 : Int)) (4 : Int)) rfl rfl (by decide) (by decide) rfl rfl ho51.1 ho51.2 rfl ?_
              have y77 : F (F (p) (4 : Int)) (4 : Int) = 0 ∨ (own m (F (F (p) (4 : Int)) (4 : Int)) ∧ tg (F (F (p) (4 : Int)) (4 : Int)) = 8) := by have z := HC_r (c := 7) (q := 4) hC ho51.1 ho51.2 (by decide) rfl; rw [show F (F (p) (4 : Int)) ((4 : Nat) : Int) = F (F (p) (4 : Int)) (4 : Int) from rfl] at z; exact z
              refine jx_ld (pc_q := 99) (l_q := jSto1 L66 2 (rv (F (F (p) (4 : Int)) (4 : Int)))) (st_q := []) rfl (js_rvn (by decide)) ?_
              obtain ⟨L78, eL78⟩ : ∃ q : jL, q = jSto1 L66 2 (rv (F (F (p) (4 : Int)) (4 : Int))) := ⟨_, rfl⟩
              rw [← eL78]
              have g79 : jGet L78 0 = some (rv (p)) := eL78 ▸ jg_nr (by decide) g67
              have g80 : jGet L78 1 = some (rv (F (p) (4 : Int))) := eL78 ▸ jg_nr (by decide) g68
              have g81 : jGet L78 3 = some (.int (i32 (1))) := eL78 ▸ jg_ne (by decide) g70 rfl
              have g82 : jGet L78 2 = some (rv (F (F (p) (4 : Int)) (4 : Int))) := eL78 ▸ jg_eq
              clear eL78
              refine jx_ld (pc_q := 100) (l_q := L78) (st_q := [rv (p)]) rfl (jl_rvn g79) ?_
              refine jx_ld (pc_q := 101) (l_q := L78) (st_q := [rv (F (p) (4 : Int)), rv (p)]) rfl (jl_rvn g80) ?_
              refine cx_gi (pc_q := 104) (c := 7) (q := 2) (v := F (F (p) (4 : Int)) (2 : Int)) rfl rfl (by decide) (by decide) (Or.inl rfl) rfl ho51.1 ho51.2 rfl ?_
              refine jx_ar (pc_q := 106) (st_q := [.int (i32 (61)), .int (i32 (F (F (p) (4 : Int)) (2 : Int))), rv (p)]) rfl rfl rfl rfl ?_
              refine jx_icmp_ne (pc_q := 109) (tg := 119) rfl rfl rfl (by omega) (by omega) (by decide) (by decide) (fun h83 => ?_) (fun h83 => ?_)
              · have _q := h83
                refine jx_ld (pc_q := 120) (l_q := L78) (st_q := [rv (F (p) (4 : Int)), rv (p)]) rfl (jl_rvn g80) ?_
                refine cx_gr (pc_q := 123) (c := 7) (q := 5) (v := F (F (p) (4 : Int)) (5 : Int)) rfl rfl (by decide) (by decide) rfl rfl ho51.1 ho51.2 rfl ?_
                refine cx_gi (pc_q := 126) (c := 7) (q := 2) (v := F (F (F (p) (4 : Int)) (5 : Int)) (2 : Int)) rfl rfl (by decide) (by decide) (Or.inl rfl) rfl ho74.1 ho74.2 rfl ?_
                have b84 : (-2147483648 : Int) ≤ F (F (F (p) (4 : Int)) (5 : Int)) (2 : Int) ∧ F (F (F (p) (4 : Int)) (5 : Int)) (2 : Int) ≤ 2147483647 := by have z := HC_i (c := 7) (q := 2) hC ho74.1 ho74.2 (by decide) rfl; rw [show F (F (F (p) (4 : Int)) (5 : Int)) ((2 : Nat) : Int) = F (F (F (p) (4 : Int)) (5 : Int)) (2 : Int) from rfl] at z; exact z
                refine jx_neg (pc_q := 127) rfl rfl ?_
                obtain ⟨z85, ez85⟩ : ∃ q, q = (i32 ((-F (F (F (p) (4 : Int)) (5 : Int)) (2 : Int)))).toInt := ⟨_, rfl⟩
                have bz85 : (-2147483648 : Int) ≤ z85 ∧ z85 ≤ 2147483647 := ez85 ▸ i32_rg _
                rw [show i32 ((-F (F (F (p) (4 : Int)) (5 : Int)) (2 : Int))) = i32 z85 by rw [ez85, i32_of]]
                clear ez85
                refine cx_pi (pc_q := 130) (c := 7) (q := 18) (qi := (18 : Int)) (z := z85) rfl rfl (by decide) (by decide) rfl rfl rfl (by decide) rfl o_p t_p rfl ?_
                obtain ⟨F86, eF86⟩ : ∃ q, q = uF F (p) (18 : Int) (z85) := ⟨_, rfl⟩
                rw [← eF86]
                have hC87 : HC 0 m tg ln F86 := by rw [eF86]; exact HC_fi (c := 7) (q := 18) hC t_p (by decide) rfl (by omega) (by omega) ⟨fun w => absurd w (by decide), fun w => absurd w (by decide)⟩
                have hM88 : Fq 0 [(8, 16), (8, 17), (8, 18)] m tg F F86 := by rw [eF86]; exact Fq_p hM0 t_p (fun _ => rfl) rfl
                exact k_LUses_findElement_at_130 (X := X) (d := d) (R := R) (m := m) (tg := tg) (ln := ln) (F := F) (p := p) (hd := hd) (hC := hC) (o_p := o_p) (t_p := t_p) L78 F86 (F (F (p) (4 : Int)) (4 : Int)) g79 g82 hC87 hM88 y77
              · have _q := h83
                refine jx_ld (pc_q := 110) (l_q := L78) (st_q := [rv (F (p) (4 : Int)), rv (p)]) rfl (jl_rvn g80) ?_
                refine cx_gr (pc_q := 113) (c := 7) (q := 5) (v := F (F (p) (4 : Int)) (5 : Int)) rfl rfl (by decide) (by decide) rfl rfl ho51.1 ho51.2 rfl ?_
                refine cx_gi (pc_q := 116) (c := 7) (q := 2) (v := F (F (F (p) (4 : Int)) (5 : Int)) (2 : Int)) rfl rfl (by decide) (by decide) (Or.inl rfl) rfl ho74.1 ho74.2 rfl ?_
                have b89 : (-2147483648 : Int) ≤ F (F (F (p) (4 : Int)) (5 : Int)) (2 : Int) ∧ F (F (F (p) (4 : Int)) (5 : Int)) (2 : Int) ≤ 2147483647 := by have z := HC_i (c := 7) (q := 2) hC ho74.1 ho74.2 (by decide) rfl; rw [show F (F (F (p) (4 : Int)) (5 : Int)) ((2 : Nat) : Int) = F (F (F (p) (4 : Int)) (5 : Int)) (2 : Int) from rfl] at z; exact z
                refine jx_go (tg := 127) rfl rfl ?_
                refine cx_pi (pc_q := 130) (c := 7) (q := 18) (qi := (18 : Int)) (z := F (F (F (p) (4 : Int)) (5 : Int)) (2 : Int)) rfl rfl (by decide) (by decide) rfl rfl rfl (by decide) rfl o_p t_p rfl ?_
                obtain ⟨F90, eF90⟩ : ∃ q, q = uF F (p) (18 : Int) (F (F (F (p) (4 : Int)) (5 : Int)) (2 : Int)) := ⟨_, rfl⟩
                rw [← eF90]
                have hC91 : HC 0 m tg ln F90 := by rw [eF90]; exact HC_fi (c := 7) (q := 18) hC t_p (by decide) rfl (by omega) (by omega) ⟨fun w => absurd w (by decide), fun w => absurd w (by decide)⟩
                have hM92 : Fq 0 [(8, 16), (8, 17), (8, 18)] m tg F F90 := by rw [eF90]; exact Fq_p hM0 t_p (fun _ => rfl) rfl
                exact k_LUses_findElement_at_130 (X := X) (d := d) (R := R) (m := m) (tg := tg) (ln := ln) (F := F) (p := p) (hd := hd) (hC := hC) (o_p := o_p) (t_p := t_p) L78 F90 (F (F (p) (4 : Int)) (4 : Int)) g79 g82 hC91 hM92 y77
      · have _q := h65
        refine jx_ld (pc_q := 57) (l_q := L52) (st_q := [rv (F (p) (4 : Int))]) rfl (jl_rvn g54) ?_
        refine cx_gi (pc_q := 60) (c := 7) (q := 2) (v := F (F (p) (4 : Int)) (2 : Int)) rfl rfl (by decide) (by decide) (Or.inl rfl) rfl ho51.1 ho51.2 rfl ?_
        refine jx_ar (pc_q := 62) (st_q := [.int (i32 (62)), .int (i32 (F (F (p) (4 : Int)) (2 : Int)))]) rfl rfl rfl rfl ?_
        refine jx_icmp_ne (pc_q := 65) (tg := 69) rfl rfl rfl (by omega) (by omega) (by decide) (by decide) (fun h93 => ?_) (fun h93 => ?_)
        · have _q := h93
          refine jx_ar (pc_q := 70) (st_q := [.int (i32 (0))]) rfl rfl rfl rfl ?_
          refine jx_ld (pc_q := 71) (l_q := jSto1 L52 3 (.int (i32 (0)))) (st_q := []) rfl rfl ?_
          obtain ⟨L94, eL94⟩ : ∃ q : jL, q = jSto1 L52 3 (.int (i32 (0))) := ⟨_, rfl⟩
          rw [← eL94]
          have g95 : jGet L94 0 = some (rv (p)) := eL94 ▸ jg_nr (by decide) g53
          have g96 : jGet L94 1 = some (rv (F (p) (4 : Int))) := eL94 ▸ jg_nr (by decide) g54
          have g97 : jGet L94 2 = some (rv (F (p) (4 : Int))) := eL94 ▸ jg_nr (by decide) g55
          have g98 : jGet L94 3 = some (.int (i32 (0))) := eL94 ▸ jg_eq
          clear eL94
          refine jx_ld (pc_q := 72) (l_q := L94) (st_q := [.int (i32 (0))]) rfl (jl_iloadn g98) ?_
          refine jx_if_eq (pc_q := 75) (tg := 130) rfl rfl rfl (by decide) (by decide) (fun h99 => ?_) (fun h99 => ?_)
          · have _q := h99
            exact k_LUses_findElement_at_130 (X := X) (d := d) (R := R) (m := m) (tg := tg) (ln := ln) (F := F) (p := p) (hd := hd) (hC := hC) (o_p := o_p) (t_p := t_p) L94 F (F (p) (4 : Int)) g95 g97 hC hM0 (Or.inr ⟨ho51.1, ho51.2⟩)
          · have _q := h99
            exact absurd h99 (by omega)
        · have _q := h93
          refine jx_ar (pc_q := 66) (st_q := [.int (i32 (1))]) rfl rfl rfl rfl ?_
          refine jx_go (tg := 70) rfl rfl ?_
          refine jx_ld (pc_q := 71) (l_q := jSto1 L52 3 (.int (i32 (1)))) (st_q := []) rfl rfl ?_
          obtain ⟨L100, eL100⟩ : ∃ q : jL, q = jSto1 L52 3 (.int (i32 (1))) := ⟨_, rfl⟩
          rw [← eL100]
          have g101 : jGet L100 0 = some (rv (p)) := eL100 ▸ jg_nr (by decide) g53
          have g102 : jGet L100 1 = some (rv (F (p) (4 : Int))) := eL100 ▸ jg_nr (by decide) g54
          have g103 : jGet L100 2 = some (rv (F (p) (4 : Int))) := eL100 ▸ jg_nr (by decide) g55
          have g104 : jGet L100 3 = some (.int (i32 (1))) := eL100 ▸ jg_eq
          clear eL100
          refine jx_ld (pc_q := 72) (l_q := L100) (st_q := [.int (i32 (1))]) rfl (jl_iloadn g104) ?_
          refine jx_if_eq (pc_q := 75) (tg := 130) rfl rfl rfl (by decide) (by decide) (fun h105 => ?_) (fun h105 => ?_)
          · have _q := h105
            exact absurd h105 (by omega)
          · have _q := h105
            refine jx_ld (pc_q := 76) (l_q := L100) (st_q := [rv (F (p) (4 : Int))]) rfl (jl_rvn g102) ?_
            refine cx_gr (pc_q := 79) (c := 7) (q := 5) (v := F (F (p) (4 : Int)) (5 : Int)) rfl rfl (by decide) (by decide) rfl rfl ho51.1 ho51.2 rfl ?_
            have y106 : F (F (p) (4 : Int)) (5 : Int) = 0 ∨ (own m (F (F (p) (4 : Int)) (5 : Int)) ∧ tg (F (F (p) (4 : Int)) (5 : Int)) = 8) := by have z := HC_r (c := 7) (q := 5) hC ho51.1 ho51.2 (by decide) rfl; rw [show F (F (p) (4 : Int)) ((5 : Nat) : Int) = F (F (p) (4 : Int)) (5 : Int) from rfl] at z; exact z
            refine cx_nul (pc_q := 82) (tg_q := 130) rfl rfl rfl (fun h107 => ?_) (fun h107 => ?_)
            · have _q := h107
              exact k_LUses_findElement_at_130 (X := X) (d := d) (R := R) (m := m) (tg := tg) (ln := ln) (F := F) (p := p) (hd := hd) (hC := hC) (o_p := o_p) (t_p := t_p) L100 F (F (p) (4 : Int)) g101 g103 hC hM0 (Or.inr ⟨ho51.1, ho51.2⟩)
            · have _q := h107
              have ho108 : own m (F (F (p) (4 : Int)) (5 : Int)) ∧ tg (F (F (p) (4 : Int)) (5 : Int)) = 8 := y106.resolve_left h107
              refine jx_ld (pc_q := 83) (l_q := L100) (st_q := [rv (F (p) (4 : Int))]) rfl (jl_rvn g102) ?_
              refine cx_gr (pc_q := 86) (c := 7) (q := 5) (v := F (F (p) (4 : Int)) (5 : Int)) rfl rfl (by decide) (by decide) rfl rfl ho51.1 ho51.2 rfl ?_
              refine cx_gi (pc_q := 89) (c := 7) (q := 0) (v := F (F (F (p) (4 : Int)) (5 : Int)) (0 : Int)) rfl rfl (by decide) (by decide) (Or.inl rfl) rfl ho108.1 ho108.2 rfl ?_
              have b109 : (-2147483648 : Int) ≤ F (F (F (p) (4 : Int)) (5 : Int)) (0 : Int) ∧ F (F (F (p) (4 : Int)) (5 : Int)) (0 : Int) ≤ 2147483647 := by have z := HC_i (c := 7) (q := 0) hC ho108.1 ho108.2 (by decide) rfl; rw [show F (F (F (p) (4 : Int)) (5 : Int)) ((0 : Nat) : Int) = F (F (F (p) (4 : Int)) (5 : Int)) (0 : Int) from rfl] at z; exact z
              refine jx_ar (pc_q := 91) (st_q := [.int (i32 (20)), .int (i32 (F (F (F (p) (4 : Int)) (5 : Int)) (0 : Int)))]) rfl rfl rfl rfl ?_
              refine jx_icmp_ne (pc_q := 94) (tg := 130) rfl rfl rfl (by omega) (by omega) (by decide) (by decide) (fun h110 => ?_) (fun h110 => ?_)
              · have _q := h110
                exact k_LUses_findElement_at_130 (X := X) (d := d) (R := R) (m := m) (tg := tg) (ln := ln) (F := F) (p := p) (hd := hd) (hC := hC) (o_p := o_p) (t_p := t_p) L100 F (F (p) (4 : Int)) g101 g103 hC hM0 (Or.inr ⟨ho51.1, ho51.2⟩)
              · have _q := h110
                refine jx_ld (pc_q := 95) (l_q := L100) (st_q := [rv (F (p) (4 : Int))]) rfl (jl_rvn g102) ?_
                refine cx_gr (pc_q := 98) (c := 7) (q := 4) (v := F (F (p) (4 : Int)) (4 : Int)) rfl rfl (by decide) (by decide) rfl rfl ho51.1 ho51.2 rfl ?_
                have y111 : F (F (p) (4 : Int)) (4 : Int) = 0 ∨ (own m (F (F (p) (4 : Int)) (4 : Int)) ∧ tg (F (F (p) (4 : Int)) (4 : Int)) = 8) := by have z := HC_r (c := 7) (q := 4) hC ho51.1 ho51.2 (by decide) rfl; rw [show F (F (p) (4 : Int)) ((4 : Nat) : Int) = F (F (p) (4 : Int)) (4 : Int) from rfl] at z; exact z
                refine jx_ld (pc_q := 99) (l_q := jSto1 L100 2 (rv (F (F (p) (4 : Int)) (4 : Int)))) (st_q := []) rfl (js_rvn (by decide)) ?_
                obtain ⟨L112, eL112⟩ : ∃ q : jL, q = jSto1 L100 2 (rv (F (F (p) (4 : Int)) (4 : Int))) := ⟨_, rfl⟩
                rw [← eL112]
                have g113 : jGet L112 0 = some (rv (p)) := eL112 ▸ jg_nr (by decide) g101
                have g114 : jGet L112 1 = some (rv (F (p) (4 : Int))) := eL112 ▸ jg_nr (by decide) g102
                have g115 : jGet L112 3 = some (.int (i32 (1))) := eL112 ▸ jg_ne (by decide) g104 rfl
                have g116 : jGet L112 2 = some (rv (F (F (p) (4 : Int)) (4 : Int))) := eL112 ▸ jg_eq
                clear eL112
                refine jx_ld (pc_q := 100) (l_q := L112) (st_q := [rv (p)]) rfl (jl_rvn g113) ?_
                refine jx_ld (pc_q := 101) (l_q := L112) (st_q := [rv (F (p) (4 : Int)), rv (p)]) rfl (jl_rvn g114) ?_
                refine cx_gi (pc_q := 104) (c := 7) (q := 2) (v := F (F (p) (4 : Int)) (2 : Int)) rfl rfl (by decide) (by decide) (Or.inl rfl) rfl ho51.1 ho51.2 rfl ?_
                refine jx_ar (pc_q := 106) (st_q := [.int (i32 (61)), .int (i32 (F (F (p) (4 : Int)) (2 : Int))), rv (p)]) rfl rfl rfl rfl ?_
                refine jx_icmp_ne (pc_q := 109) (tg := 119) rfl rfl rfl (by omega) (by omega) (by decide) (by decide) (fun h117 => ?_) (fun h117 => ?_)
                · have _q := h117
                  refine jx_ld (pc_q := 120) (l_q := L112) (st_q := [rv (F (p) (4 : Int)), rv (p)]) rfl (jl_rvn g114) ?_
                  refine cx_gr (pc_q := 123) (c := 7) (q := 5) (v := F (F (p) (4 : Int)) (5 : Int)) rfl rfl (by decide) (by decide) rfl rfl ho51.1 ho51.2 rfl ?_
                  refine cx_gi (pc_q := 126) (c := 7) (q := 2) (v := F (F (F (p) (4 : Int)) (5 : Int)) (2 : Int)) rfl rfl (by decide) (by decide) (Or.inl rfl) rfl ho108.1 ho108.2 rfl ?_
                  have b118 : (-2147483648 : Int) ≤ F (F (F (p) (4 : Int)) (5 : Int)) (2 : Int) ∧ F (F (F (p) (4 : Int)) (5 : Int)) (2 : Int) ≤ 2147483647 := by have z := HC_i (c := 7) (q := 2) hC ho108.1 ho108.2 (by decide) rfl; rw [show F (F (F (p) (4 : Int)) (5 : Int)) ((2 : Nat) : Int) = F (F (F (p) (4 : Int)) (5 : Int)) (2 : Int) from rfl] at z; exact z
                  refine jx_neg (pc_q := 127) rfl rfl ?_
                  obtain ⟨z119, ez119⟩ : ∃ q, q = (i32 ((-F (F (F (p) (4 : Int)) (5 : Int)) (2 : Int)))).toInt := ⟨_, rfl⟩
                  have bz119 : (-2147483648 : Int) ≤ z119 ∧ z119 ≤ 2147483647 := ez119 ▸ i32_rg _
                  rw [show i32 ((-F (F (F (p) (4 : Int)) (5 : Int)) (2 : Int))) = i32 z119 by rw [ez119, i32_of]]
                  clear ez119
                  refine cx_pi (pc_q := 130) (c := 7) (q := 18) (qi := (18 : Int)) (z := z119) rfl rfl (by decide) (by decide) rfl rfl rfl (by decide) rfl o_p t_p rfl ?_
                  obtain ⟨F120, eF120⟩ : ∃ q, q = uF F (p) (18 : Int) (z119) := ⟨_, rfl⟩
                  rw [← eF120]
                  have hC121 : HC 0 m tg ln F120 := by rw [eF120]; exact HC_fi (c := 7) (q := 18) hC t_p (by decide) rfl (by omega) (by omega) ⟨fun w => absurd w (by decide), fun w => absurd w (by decide)⟩
                  have hM122 : Fq 0 [(8, 16), (8, 17), (8, 18)] m tg F F120 := by rw [eF120]; exact Fq_p hM0 t_p (fun _ => rfl) rfl
                  exact k_LUses_findElement_at_130 (X := X) (d := d) (R := R) (m := m) (tg := tg) (ln := ln) (F := F) (p := p) (hd := hd) (hC := hC) (o_p := o_p) (t_p := t_p) L112 F120 (F (F (p) (4 : Int)) (4 : Int)) g113 g116 hC121 hM122 y111
                · have _q := h117
                  refine jx_ld (pc_q := 110) (l_q := L112) (st_q := [rv (F (p) (4 : Int)), rv (p)]) rfl (jl_rvn g114) ?_
                  refine cx_gr (pc_q := 113) (c := 7) (q := 5) (v := F (F (p) (4 : Int)) (5 : Int)) rfl rfl (by decide) (by decide) rfl rfl ho51.1 ho51.2 rfl ?_
                  refine cx_gi (pc_q := 116) (c := 7) (q := 2) (v := F (F (F (p) (4 : Int)) (5 : Int)) (2 : Int)) rfl rfl (by decide) (by decide) (Or.inl rfl) rfl ho108.1 ho108.2 rfl ?_
                  have b123 : (-2147483648 : Int) ≤ F (F (F (p) (4 : Int)) (5 : Int)) (2 : Int) ∧ F (F (F (p) (4 : Int)) (5 : Int)) (2 : Int) ≤ 2147483647 := by have z := HC_i (c := 7) (q := 2) hC ho108.1 ho108.2 (by decide) rfl; rw [show F (F (F (p) (4 : Int)) (5 : Int)) ((2 : Nat) : Int) = F (F (F (p) (4 : Int)) (5 : Int)) (2 : Int) from rfl] at z; exact z
                  refine jx_go (tg := 127) rfl rfl ?_
                  refine cx_pi (pc_q := 130) (c := 7) (q := 18) (qi := (18 : Int)) (z := F (F (F (p) (4 : Int)) (5 : Int)) (2 : Int)) rfl rfl (by decide) (by decide) rfl rfl rfl (by decide) rfl o_p t_p rfl ?_
                  obtain ⟨F124, eF124⟩ : ∃ q, q = uF F (p) (18 : Int) (F (F (F (p) (4 : Int)) (5 : Int)) (2 : Int)) := ⟨_, rfl⟩
                  rw [← eF124]
                  have hC125 : HC 0 m tg ln F124 := by rw [eF124]; exact HC_fi (c := 7) (q := 18) hC t_p (by decide) rfl (by omega) (by omega) ⟨fun w => absurd w (by decide), fun w => absurd w (by decide)⟩
                  have hM126 : Fq 0 [(8, 16), (8, 17), (8, 18)] m tg F F124 := by rw [eF124]; exact Fq_p hM0 t_p (fun _ => rfl) rfl
                  exact k_LUses_findElement_at_130 (X := X) (d := d) (R := R) (m := m) (tg := tg) (ln := ln) (F := F) (p := p) (hd := hd) (hC := hC) (o_p := o_p) (t_p := t_p) L112 F124 (F (F (p) (4 : Int)) (4 : Int)) g113 g116 hC125 hM126 y111
  · have _q := h50
    refine jx_ld (pc_q := 10) (l_q := L47) (st_q := [rv (p)]) rfl (jl_rvn g48) ?_
    refine jx_ld (pc_q := 11) (l_q := L47) (st_q := [rv (p), rv (p)]) rfl (jl_rvn g48) ?_
    refine cx_gr (pc_q := 14) (c := 7) (q := 3) (v := F (p) (3 : Int)) rfl rfl (by decide) (by decide) rfl rfl o_p t_p rfl ?_
    have y127 : F (p) (3 : Int) = 0 ∨ (own m (F (p) (3 : Int)) ∧ tg (F (p) (3 : Int)) = 7) := by have z := HC_r (c := 7) (q := 3) hC o_p t_p (by decide) rfl; rw [show F (p) ((3 : Nat) : Int) = F (p) (3 : Int) from rfl] at z; exact z
    refine cx_nul (pc_q := 17) (tg_q := 31) rfl rfl rfl (fun h128 => ?_) (fun h128 => ?_)
    · have _q := h128
      refine jx_ar (pc_q := 32) (st_q := [.int (i32 (0)), rv (p)]) rfl rfl rfl rfl ?_
      refine cx_pb (pc_q := 35) (c := 7) (q := 16) (qi := (16 : Int)) (z := 0) rfl rfl (by decide) (by decide) rfl rfl rfl (by decide) (by omega) rfl o_p t_p rfl ?_
      obtain ⟨F129, eF129⟩ : ∃ q, q = uF F (p) (16 : Int) (0) := ⟨_, rfl⟩
      rw [← eF129]
      have hC130 : HC 0 m tg ln F129 := by rw [eF129]; exact HC_fi (c := 7) (q := 16) hC t_p (by decide) rfl (by omega) (by omega) ⟨fun w => absurd w (by decide), fun w => absurd w (by decide)⟩
      have hM131 : Fq 0 [(8, 16), (8, 17), (8, 18)] m tg F F129 := by rw [eF129]; exact Fq_p hM0 t_p (fun _ => rfl) rfl
      refine jx_rt (v := none) rfl rfl rfl rfl rfl rfl ?_
      exact ⟨F129, rfl, rfl, hC130, hM131, trivial⟩
    · have _q := h128
      have ho132 : own m (F (p) (3 : Int)) ∧ tg (F (p) (3 : Int)) = 7 := y127.resolve_left h128
      refine jx_ld (pc_q := 18) (l_q := L47) (st_q := [rv (p), rv (p)]) rfl (jl_rvn g48) ?_
      refine cx_gr (pc_q := 21) (c := 7) (q := 3) (v := F (p) (3 : Int)) rfl rfl (by decide) (by decide) rfl rfl o_p t_p rfl ?_
      refine cx_vi (c := 6) (a := F (p) (3 : Int)) (st := [rv (p)]) (as := []) rfl rfl rfl ho132.1 ho132.2 (by decide) rfl ⟨rfl, rfl, (by rw [jS_r, jS_0]; exact Nat.le_of_ble_eq_true rfl)⟩ rfl (k_LName_isRow (dd := d) (R := R) (m := m) (tg := tg) (ln := ln) (F := F) (me := F (p) (3 : Int)) (hd := by omega) (hC := hC) (o_me := ho132.1) (t_me := ho132.2)) (fun o V_q hq => ?_)
      obtain ⟨r133, rfl, rfl, b134, -⟩ := hq
      refine Or.inr (Or.inl ⟨_, rfl, ?_⟩)
      refine jx_if_eq (pc_q := 27) (tg := 31) rfl rfl rfl (by omega) (by omega) (fun h135 => ?_) (fun h135 => ?_)
      · have _q := h135
        refine jx_ar (pc_q := 32) (st_q := [.int (i32 (0)), rv (p)]) rfl rfl rfl rfl ?_
        refine cx_pb (pc_q := 35) (c := 7) (q := 16) (qi := (16 : Int)) (z := 0) rfl rfl (by decide) (by decide) rfl rfl rfl (by decide) (by omega) rfl o_p t_p rfl ?_
        obtain ⟨F136, eF136⟩ : ∃ q, q = uF F (p) (16 : Int) (0) := ⟨_, rfl⟩
        rw [← eF136]
        have hC137 : HC 0 m tg ln F136 := by rw [eF136]; exact HC_fi (c := 7) (q := 16) hC t_p (by decide) rfl (by omega) (by omega) ⟨fun w => absurd w (by decide), fun w => absurd w (by decide)⟩
        have hM138 : Fq 0 [(8, 16), (8, 17), (8, 18)] m tg F F136 := by rw [eF136]; exact Fq_p hM0 t_p (fun _ => rfl) rfl
        refine jx_rt (v := none) rfl rfl rfl rfl rfl rfl ?_
        exact ⟨F136, rfl, rfl, hC137, hM138, trivial⟩
      · have _q := h135
        refine jx_ar (pc_q := 28) (st_q := [.int (i32 (1)), rv (p)]) rfl rfl rfl rfl ?_
        refine jx_go (tg := 32) rfl rfl ?_
        refine cx_pb (pc_q := 35) (c := 7) (q := 16) (qi := (16 : Int)) (z := 1) rfl rfl (by decide) (by decide) rfl rfl rfl (by decide) (by omega) rfl o_p t_p rfl ?_
        obtain ⟨F139, eF139⟩ : ∃ q, q = uF F (p) (16 : Int) (1) := ⟨_, rfl⟩
        rw [← eF139]
        have hC140 : HC 0 m tg ln F139 := by rw [eF139]; exact HC_fi (c := 7) (q := 16) hC t_p (by decide) rfl (by omega) (by omega) ⟨fun w => absurd w (by decide), fun w => absurd w (by decide)⟩
        have hM141 : Fq 0 [(8, 16), (8, 17), (8, 18)] m tg F F139 := by rw [eF139]; exact Fq_p hM0 t_p (fun _ => rfl) rfl
        refine jx_rt (v := none) rfl rfl rfl rfl rfl rfl ?_
        exact ⟨F139, rfl, rfl, hC140, hM141, trivial⟩
set_option maxRecDepth 20000 in
set_option maxHeartbeats 4000000 in
theorem k_LUses_mayUse_at_26 {X : jX} {d : Nat} {R : Nat → jC} {m : Nat} {tg ln : Int → Int} {F : Int → Int → Int} {me po fl : Int} (hd : 1 ≤ d + 1) (hC : HC 0 m tg ln F) (o_me : own m me) (t_me : tg me = 12) (h_po : (-2147483648 : Int) ≤ po ∧ po ≤ 2147483647) (h_fl : (-2147483648 : Int) ≤ fl ∧ fl ≤ 2147483647) : ∀ (L : jL) (sd tk : Int), jGet L 0 = some (rv (me)) → jGet L 1 = some (.int (i32 (po))) → jGet L 2 = some (.int (i32 (fl))) → jGet L 3 = some (.int (i32 sd)) → jGet L 4 = some (.int (i32 tk)) → ((-2147483648 : Int) ≤ sd ∧ sd ≤ 2147483647) → ((-2147483648 : Int) ≤ tk ∧ tk ≤ 2147483647) → (0 ≤ sd) → (sd ≤ 1) → (0 ≤ tk) → (tk ≤ 1) → wj X d jm233 (26, L, [], cV R m tg ln F) (fun o V_q => ∃ (r : Int), V_q = cV R m tg ln F ∧ o = .inl (some (.int (i32 r))) ∧ (0 ≤ r ∧ r ≤ 1) ∧ True) := by
  intro L sd tk gL_0 gL_1 gL_2 gL_3 gL_4 rx_sd rx_tk iv_0 iv_1 iv_2 iv_3
  refine jx_ld (pc_q := 27) (l_q := L) (st_q := [rv (me)]) rfl (jl_rvn gL_0) ?_
  refine cx_gi (pc_q := 30) (c := 11) (q := 3) (v := F (me) (3 : Int)) rfl rfl (by decide) (by decide) (Or.inl rfl) rfl o_me t_me rfl ?_
  have b1 : (-2147483648 : Int) ≤ F (me) (3 : Int) ∧ F (me) (3 : Int) ≤ 2147483647 := by have z := HC_i (c := 11) (q := 3) hC o_me t_me (by decide) rfl; rw [show F (me) ((3 : Nat) : Int) = F (me) (3 : Int) from rfl] at z; exact z
  refine jx_ar (pc_q := 31) (st_q := [.int (i32 (-1)), .int (i32 (F (me) (3 : Int)))]) rfl rfl rfl rfl ?_
  refine jx_icmp_ne (pc_q := 34) (tg := 36) rfl rfl rfl (by omega) (by omega) (by decide) (by decide) (fun h2 => ?_) (fun h2 => ?_)
  · have _q := h2
    refine jx_ld (pc_q := 37) (l_q := L) (st_q := [.int (i32 (po))]) rfl (jl_iloadn gL_1) ?_
    refine jx_ar (pc_q := 39) (st_q := [.int (i32 (12)), .int (i32 (po))]) rfl rfl rfl rfl ?_
    refine jx_icmp_eq (pc_q := 42) (tg := 48) rfl rfl rfl (by omega) (by omega) (by decide) (by decide) (fun h3 => ?_) (fun h3 => ?_)
    · have _q := h3
      refine jx_ld (pc_q := 49) (l_q := L) (st_q := [rv (me)]) rfl (jl_rvn gL_0) ?_
      refine cx_gi (pc_q := 52) (c := 11) (q := 3) (v := F (me) (3 : Int)) rfl rfl (by decide) (by decide) (Or.inl rfl) rfl o_me t_me rfl ?_
      refine jx_if_ne (pc_q := 55) (tg := 77) rfl rfl rfl (by omega) (by omega) (fun h4 => ?_) (fun h4 => ?_)
      · have _q := h4
        refine jx_ar (pc_q := 78) (st_q := [.int (i32 (0))]) rfl rfl rfl rfl ?_
        refine jx_rt (v := some (.int (i32 (0)))) rfl rfl rfl rfl rfl (by first | rfl | exact jRet_b (by omega)) ?_
        exact ⟨(0), rfl, rfl, by omega, trivial⟩
      · have _q := h4
        refine jx_ld (pc_q := 56) (l_q := L) (st_q := [.int (i32 (po))]) rfl (jl_iloadn gL_1) ?_
        refine jx_ar (pc_q := 58) (st_q := [.int (i32 (12)), .int (i32 (po))]) rfl rfl rfl rfl ?_
        refine jx_icmp_ne (pc_q := 61) (tg := 69) rfl rfl rfl (by omega) (by omega) (by decide) (by decide) (fun h5 => ?_) (fun h5 => ?_)
        · have _q := h5
          refine jx_ld (pc_q := 70) (l_q := L) (st_q := [.int (i32 (sd))]) rfl (jl_iloadn gL_3) ?_
          refine jx_if_ne (pc_q := 73) (tg := 77) rfl rfl rfl (by omega) (by omega) (fun h6 => ?_) (fun h6 => ?_)
          · have _q := h6
            refine jx_ar (pc_q := 78) (st_q := [.int (i32 (0))]) rfl rfl rfl rfl ?_
            refine jx_rt (v := some (.int (i32 (0)))) rfl rfl rfl rfl rfl (by first | rfl | exact jRet_b (by omega)) ?_
            exact ⟨(0), rfl, rfl, by omega, trivial⟩
          · have _q := h6
            refine jx_ar (pc_q := 74) (st_q := [.int (i32 (1))]) rfl rfl rfl rfl ?_
            refine jx_go (tg := 78) rfl rfl ?_
            refine jx_rt (v := some (.int (i32 (1)))) rfl rfl rfl rfl rfl (by first | rfl | exact jRet_b (by omega)) ?_
            exact ⟨(1), rfl, rfl, by omega, trivial⟩
        · have _q := h5
          refine jx_ld (pc_q := 63) (l_q := L) (st_q := [.int (i32 (tk))]) rfl (jl_iload gL_4) ?_
          refine jx_if_eq (pc_q := 66) (tg := 73) rfl rfl rfl (by omega) (by omega) (fun h7 => ?_) (fun h7 => ?_)
          · have _q := h7
            refine jx_ar (pc_q := 74) (st_q := [.int (i32 (1))]) rfl rfl rfl rfl ?_
            refine jx_go (tg := 78) rfl rfl ?_
            refine jx_rt (v := some (.int (i32 (1)))) rfl rfl rfl rfl rfl (by first | rfl | exact jRet_b (by omega)) ?_
            exact ⟨(1), rfl, rfl, by omega, trivial⟩
          · have _q := h7
            refine jx_go (tg := 77) rfl rfl ?_
            refine jx_ar (pc_q := 78) (st_q := [.int (i32 (0))]) rfl rfl rfl rfl ?_
            refine jx_rt (v := some (.int (i32 (0)))) rfl rfl rfl rfl rfl (by first | rfl | exact jRet_b (by omega)) ?_
            exact ⟨(0), rfl, rfl, by omega, trivial⟩
    · have _q := h3
      refine jx_ld (pc_q := 43) (l_q := L) (st_q := [.int (i32 (po))]) rfl (jl_iloadn gL_1) ?_
      refine jx_ar (pc_q := 45) (st_q := [.int (i32 (13)), .int (i32 (po))]) rfl rfl rfl rfl ?_
      refine jx_icmp_ne (pc_q := 48) (tg := 79) rfl rfl rfl (by omega) (by omega) (by decide) (by decide) (fun h8 => ?_) (fun h8 => ?_)
      · have _q := h8
        refine jx_ld (pc_q := 80) (l_q := L) (st_q := [.int (i32 (po))]) rfl (jl_iloadn gL_1) ?_
        refine jx_if_lt (pc_q := 83) (tg := 107) rfl rfl rfl (by omega) (by omega) (fun h9 => ?_) (fun h9 => ?_)
        · have _q := h9
          refine jx_ar (pc_q := 108) (st_q := .null :: []) rfl rfl rfl rfl ?_
          rw [← rv_0]
          refine jx_ld (pc_q := 110) (l_q := jSto1 L 5 (rv (0))) (st_q := []) rfl (js_rv (by decide)) ?_
          obtain ⟨L10, eL10⟩ : ∃ q : jL, q = jSto1 L 5 (rv (0)) := ⟨_, rfl⟩
          rw [← eL10]
          have g11 : jGet L10 0 = some (rv (me)) := eL10 ▸ jg_nr (by decide) gL_0
          have g12 : jGet L10 1 = some (.int (i32 (po))) := eL10 ▸ jg_ne (by decide) gL_1 rfl
          have g13 : jGet L10 2 = some (.int (i32 (fl))) := eL10 ▸ jg_ne (by decide) gL_2 rfl
          have g14 : jGet L10 3 = some (.int (i32 (sd))) := eL10 ▸ jg_ne (by decide) gL_3 rfl
          have g15 : jGet L10 4 = some (.int (i32 (tk))) := eL10 ▸ jg_ne (by decide) gL_4 rfl
          have g16 : jGet L10 5 = some (rv (0)) := eL10 ▸ jg_eq
          clear eL10
          refine jx_ld (pc_q := 112) (l_q := L10) (st_q := [rv (0)]) rfl (jl_rv g16) ?_
          refine cx_nul (pc_q := 115) (tg_q := 152) rfl rfl rfl (fun h17 => ?_) (fun h17 => ?_)
          · have _q := h17
            refine jx_ar (pc_q := 153) (st_q := [.int (i32 (0))]) rfl rfl rfl rfl ?_
            refine jx_rt (v := some (.int (i32 (0)))) rfl rfl rfl rfl rfl (by first | rfl | exact jRet_b (by omega)) ?_
            exact ⟨(0), rfl, rfl, by omega, trivial⟩
          · have _q := h17
            exact absurd rfl h17
        · have _q := h9
          refine jx_ld (pc_q := 84) (l_q := L) (st_q := [.int (i32 (po))]) rfl (jl_iloadn gL_1) ?_
          refine jx_ld (pc_q := 85) (l_q := L) (st_q := [rv (me), .int (i32 (po))]) rfl (jl_rvn gL_0) ?_
          refine cx_gr (pc_q := 88) (c := 11) (q := 0) (v := F (me) (0 : Int)) rfl rfl (by decide) (by decide) rfl rfl o_me t_me rfl ?_
          have y18 : own m (F (me) (0 : Int)) ∧ tg (F (me) (0 : Int)) = 10 ∧ ((0 : Int) ≠ 0 → ln (F (me) (0 : Int)) = 0) := by have z := HC_n (c := 11) (q := 0) hC o_me t_me (own_z o_me) (by decide) rfl; rw [show F (me) ((0 : Nat) : Int) = F (me) (0 : Int) from rfl] at z; exact ⟨z.1, z.2.1, z.2.2.1⟩
          refine cx_gr (pc_q := 91) (c := 9) (q := 6) (v := F (F (me) (0 : Int)) (6 : Int)) rfl rfl (by decide) (by decide) rfl rfl y18.1 y18.2.1 rfl ?_
          have y19 : own m (F (F (me) (0 : Int)) (6 : Int)) ∧ tg (F (F (me) (0 : Int)) (6 : Int)) = 26 ∧ ((12 : Int) ≠ 0 → ln (F (F (me) (0 : Int)) (6 : Int)) = 12) := by have z := HC_n (c := 9) (q := 6) hC y18.1 y18.2.1 (own_z y18.1) (by decide) rfl; rw [show F (F (me) (0 : Int)) ((6 : Nat) : Int) = F (F (me) (0 : Int)) (6 : Int) from rfl] at z; exact ⟨z.1, z.2.1, z.2.2.1⟩
          have ly19 : ln (F (F (me) (0 : Int)) (6 : Int)) = 12 := y19.2.2 (by decide)
          have b20 := HC_l hC y19.1 y19.2.1 (by decide)
          refine cx_len (pc_q := 92) rfl rfl y19.1 (by rw [y19.2.1]; decide) (by omega) ?_
          refine jx_icmp_ge (pc_q := 95) (tg := 107) rfl rfl rfl (by omega) (by omega) (by omega) (by omega) (fun h21 => ?_) (fun h21 => ?_)
          · have _q := h21
            refine jx_ar (pc_q := 108) (st_q := .null :: []) rfl rfl rfl rfl ?_
            rw [← rv_0]
            refine jx_ld (pc_q := 110) (l_q := jSto1 L 5 (rv (0))) (st_q := []) rfl (js_rv (by decide)) ?_
            obtain ⟨L22, eL22⟩ : ∃ q : jL, q = jSto1 L 5 (rv (0)) := ⟨_, rfl⟩
            rw [← eL22]
            have g23 : jGet L22 0 = some (rv (me)) := eL22 ▸ jg_nr (by decide) gL_0
            have g24 : jGet L22 1 = some (.int (i32 (po))) := eL22 ▸ jg_ne (by decide) gL_1 rfl
            have g25 : jGet L22 2 = some (.int (i32 (fl))) := eL22 ▸ jg_ne (by decide) gL_2 rfl
            have g26 : jGet L22 3 = some (.int (i32 (sd))) := eL22 ▸ jg_ne (by decide) gL_3 rfl
            have g27 : jGet L22 4 = some (.int (i32 (tk))) := eL22 ▸ jg_ne (by decide) gL_4 rfl
            have g28 : jGet L22 5 = some (rv (0)) := eL22 ▸ jg_eq
            clear eL22
            refine jx_ld (pc_q := 112) (l_q := L22) (st_q := [rv (0)]) rfl (jl_rv g28) ?_
            refine cx_nul (pc_q := 115) (tg_q := 152) rfl rfl rfl (fun h29 => ?_) (fun h29 => ?_)
            · have _q := h29
              refine jx_ar (pc_q := 153) (st_q := [.int (i32 (0))]) rfl rfl rfl rfl ?_
              refine jx_rt (v := some (.int (i32 (0)))) rfl rfl rfl rfl rfl (by first | rfl | exact jRet_b (by omega)) ?_
              exact ⟨(0), rfl, rfl, by omega, trivial⟩
            · have _q := h29
              exact absurd rfl h29
          · have _q := h21
            refine jx_ld (pc_q := 96) (l_q := L) (st_q := [rv (me)]) rfl (jl_rvn gL_0) ?_
            refine cx_gr (pc_q := 99) (c := 11) (q := 0) (v := F (me) (0 : Int)) rfl rfl (by decide) (by decide) rfl rfl o_me t_me rfl ?_
            refine cx_gr (pc_q := 102) (c := 9) (q := 6) (v := F (F (me) (0 : Int)) (6 : Int)) rfl rfl (by decide) (by decide) rfl rfl y18.1 y18.2.1 rfl ?_
            refine jx_ld (pc_q := 103) (l_q := L) (st_q := [.int (i32 (po)), rv (F (F (me) (0 : Int)) (6 : Int))]) rfl (jl_iloadn gL_1) ?_
            refine cx_aal (pc_q := 104) (z := po) rfl rfl y19.1 (by rw [y19.2.1]; decide) (by omega) (by omega) (by omega) ?_
            have y30 : F (F (F (me) (0 : Int)) (6 : Int)) (po) = 0 ∨ (own m (F (F (F (me) (0 : Int)) (6 : Int)) (po)) ∧ tg (F (F (F (me) (0 : Int)) (6 : Int)) (po)) = 5) := by have z := HC_er (j := po) hC y19.1 y19.2.1 (by decide) (by omega); exact z
            refine jx_go (tg := 108) rfl rfl ?_
            refine jx_ld (pc_q := 110) (l_q := jSto1 L 5 (rv (F (F (F (me) (0 : Int)) (6 : Int)) (po)))) (st_q := []) rfl (js_rv (by decide)) ?_
            obtain ⟨L31, eL31⟩ : ∃ q : jL, q = jSto1 L 5 (rv (F (F (F (me) (0 : Int)) (6 : Int)) (po))) := ⟨_, rfl⟩
            rw [← eL31]
            have g32 : jGet L31 0 = some (rv (me)) := eL31 ▸ jg_nr (by decide) gL_0
            have g33 : jGet L31 1 = some (.int (i32 (po))) := eL31 ▸ jg_ne (by decide) gL_1 rfl
            have g34 : jGet L31 2 = some (.int (i32 (fl))) := eL31 ▸ jg_ne (by decide) gL_2 rfl
            have g35 : jGet L31 3 = some (.int (i32 (sd))) := eL31 ▸ jg_ne (by decide) gL_3 rfl
            have g36 : jGet L31 4 = some (.int (i32 (tk))) := eL31 ▸ jg_ne (by decide) gL_4 rfl
            have g37 : jGet L31 5 = some (rv (F (F (F (me) (0 : Int)) (6 : Int)) (po))) := eL31 ▸ jg_eq
            clear eL31
            refine jx_ld (pc_q := 112) (l_q := L31) (st_q := [rv (F (F (F (me) (0 : Int)) (6 : Int)) (po))]) rfl (jl_rv g37) ?_
            refine cx_nul (pc_q := 115) (tg_q := 152) rfl rfl rfl (fun h38 => ?_) (fun h38 => ?_)
            · have _q := h38
              refine jx_ar (pc_q := 153) (st_q := [.int (i32 (0))]) rfl rfl rfl rfl ?_
              refine jx_rt (v := some (.int (i32 (0)))) rfl rfl rfl rfl rfl (by first | rfl | exact jRet_b (by omega)) ?_
              exact ⟨(0), rfl, rfl, by omega, trivial⟩
            · have _q := h38
              have ho39 : own m (F (F (F (me) (0 : Int)) (6 : Int)) (po)) ∧ tg (F (F (F (me) (0 : Int)) (6 : Int)) (po)) = 5 := y30.resolve_left h38
              refine jx_ld (pc_q := 116) (l_q := L31) (st_q := [.int (i32 (sd))]) rfl (jl_iloadn g35) ?_
              refine jx_if_eq (pc_q := 119) (tg := 131) rfl rfl rfl (by omega) (by omega) (fun h40 => ?_) (fun h40 => ?_)
              · have _q := h40
                refine jx_ld (pc_q := 133) (l_q := L31) (st_q := [.int (i32 (tk))]) rfl (jl_iload g36) ?_
                refine jx_if_eq (pc_q := 136) (tg := 148) rfl rfl rfl (by omega) (by omega) (fun h41 => ?_) (fun h41 => ?_)
                · have _q := h41
                  refine jx_ar (pc_q := 149) (st_q := [.int (i32 (1))]) rfl rfl rfl rfl ?_
                  refine jx_go (tg := 153) rfl rfl ?_
                  refine jx_rt (v := some (.int (i32 (1)))) rfl rfl rfl rfl rfl (by first | rfl | exact jRet_b (by omega)) ?_
                  exact ⟨(1), rfl, rfl, by omega, trivial⟩
                · have _q := h41
                  refine jx_ld (pc_q := 138) (l_q := L31) (st_q := [rv (F (F (F (me) (0 : Int)) (6 : Int)) (po))]) rfl (jl_rv g37) ?_
                  refine cx_gi (pc_q := 141) (c := 4) (q := 1) (v := F (F (F (F (me) (0 : Int)) (6 : Int)) (po)) (1 : Int)) rfl rfl (by decide) (by decide) (Or.inl rfl) rfl ho39.1 ho39.2 rfl ?_
                  have b42 : (-2147483648 : Int) ≤ F (F (F (F (me) (0 : Int)) (6 : Int)) (po)) (1 : Int) ∧ F (F (F (F (me) (0 : Int)) (6 : Int)) (po)) (1 : Int) ≤ 2147483647 := by have z := HC_i (c := 4) (q := 1) hC ho39.1 ho39.2 (by decide) rfl; rw [show F (F (F (F (me) (0 : Int)) (6 : Int)) (po)) ((1 : Nat) : Int) = F (F (F (F (me) (0 : Int)) (6 : Int)) (po)) (1 : Int) from rfl] at z; exact z
                  refine jx_ld (pc_q := 142) (l_q := L31) (st_q := [rv (me), .int (i32 (F (F (F (F (me) (0 : Int)) (6 : Int)) (po)) (1 : Int)))]) rfl (jl_rvn g32) ?_
                  refine cx_gi (pc_q := 145) (c := 11) (q := 3) (v := F (me) (3 : Int)) rfl rfl (by decide) (by decide) (Or.inl rfl) rfl o_me t_me rfl ?_
                  refine jx_icmp_ne (pc_q := 148) (tg := 152) rfl rfl rfl (by omega) (by omega) (by omega) (by omega) (fun h43 => ?_) (fun h43 => ?_)
                  · have _q := h43
                    refine jx_ar (pc_q := 153) (st_q := [.int (i32 (0))]) rfl rfl rfl rfl ?_
                    refine jx_rt (v := some (.int (i32 (0)))) rfl rfl rfl rfl rfl (by first | rfl | exact jRet_b (by omega)) ?_
                    exact ⟨(0), rfl, rfl, by omega, trivial⟩
                  · have _q := h43
                    refine jx_ar (pc_q := 149) (st_q := [.int (i32 (1))]) rfl rfl rfl rfl ?_
                    refine jx_go (tg := 153) rfl rfl ?_
                    refine jx_rt (v := some (.int (i32 (1)))) rfl rfl rfl rfl rfl (by first | rfl | exact jRet_b (by omega)) ?_
                    exact ⟨(1), rfl, rfl, by omega, trivial⟩
              · have _q := h40
                refine jx_ld (pc_q := 121) (l_q := L31) (st_q := [rv (F (F (F (me) (0 : Int)) (6 : Int)) (po))]) rfl (jl_rv g37) ?_
                refine cx_gi (pc_q := 124) (c := 4) (q := 0) (v := F (F (F (F (me) (0 : Int)) (6 : Int)) (po)) (0 : Int)) rfl rfl (by decide) (by decide) (Or.inl rfl) rfl ho39.1 ho39.2 rfl ?_
                have b44 : (-2147483648 : Int) ≤ F (F (F (F (me) (0 : Int)) (6 : Int)) (po)) (0 : Int) ∧ F (F (F (F (me) (0 : Int)) (6 : Int)) (po)) (0 : Int) ≤ 2147483647 := by have z := HC_i (c := 4) (q := 0) hC ho39.1 ho39.2 (by decide) rfl; rw [show F (F (F (F (me) (0 : Int)) (6 : Int)) (po)) ((0 : Nat) : Int) = F (F (F (F (me) (0 : Int)) (6 : Int)) (po)) (0 : Int) from rfl] at z; exact z
                refine jx_ld (pc_q := 125) (l_q := L31) (st_q := [rv (me), .int (i32 (F (F (F (F (me) (0 : Int)) (6 : Int)) (po)) (0 : Int)))]) rfl (jl_rvn g32) ?_
                refine cx_gi (pc_q := 128) (c := 11) (q := 3) (v := F (me) (3 : Int)) rfl rfl (by decide) (by decide) (Or.inl rfl) rfl o_me t_me rfl ?_
                refine jx_icmp_ne (pc_q := 131) (tg := 152) rfl rfl rfl (by omega) (by omega) (by omega) (by omega) (fun h45 => ?_) (fun h45 => ?_)
                · have _q := h45
                  refine jx_ar (pc_q := 153) (st_q := [.int (i32 (0))]) rfl rfl rfl rfl ?_
                  refine jx_rt (v := some (.int (i32 (0)))) rfl rfl rfl rfl rfl (by first | rfl | exact jRet_b (by omega)) ?_
                  exact ⟨(0), rfl, rfl, by omega, trivial⟩
                · have _q := h45
                  refine jx_ld (pc_q := 133) (l_q := L31) (st_q := [.int (i32 (tk))]) rfl (jl_iload g36) ?_
                  refine jx_if_eq (pc_q := 136) (tg := 148) rfl rfl rfl (by omega) (by omega) (fun h46 => ?_) (fun h46 => ?_)
                  · have _q := h46
                    refine jx_ar (pc_q := 149) (st_q := [.int (i32 (1))]) rfl rfl rfl rfl ?_
                    refine jx_go (tg := 153) rfl rfl ?_
                    refine jx_rt (v := some (.int (i32 (1)))) rfl rfl rfl rfl rfl (by first | rfl | exact jRet_b (by omega)) ?_
                    exact ⟨(1), rfl, rfl, by omega, trivial⟩
                  · have _q := h46
                    refine jx_ld (pc_q := 138) (l_q := L31) (st_q := [rv (F (F (F (me) (0 : Int)) (6 : Int)) (po))]) rfl (jl_rv g37) ?_
                    refine cx_gi (pc_q := 141) (c := 4) (q := 1) (v := F (F (F (F (me) (0 : Int)) (6 : Int)) (po)) (1 : Int)) rfl rfl (by decide) (by decide) (Or.inl rfl) rfl ho39.1 ho39.2 rfl ?_
                    have b47 : (-2147483648 : Int) ≤ F (F (F (F (me) (0 : Int)) (6 : Int)) (po)) (1 : Int) ∧ F (F (F (F (me) (0 : Int)) (6 : Int)) (po)) (1 : Int) ≤ 2147483647 := by have z := HC_i (c := 4) (q := 1) hC ho39.1 ho39.2 (by decide) rfl; rw [show F (F (F (F (me) (0 : Int)) (6 : Int)) (po)) ((1 : Nat) : Int) = F (F (F (F (me) (0 : Int)) (6 : Int)) (po)) (1 : Int) from rfl] at z; exact z
                    refine jx_ld (pc_q := 142) (l_q := L31) (st_q := [rv (me), .int (i32 (F (F (F (F (me) (0 : Int)) (6 : Int)) (po)) (1 : Int)))]) rfl (jl_rvn g32) ?_
                    refine cx_gi (pc_q := 145) (c := 11) (q := 3) (v := F (me) (3 : Int)) rfl rfl (by decide) (by decide) (Or.inl rfl) rfl o_me t_me rfl ?_
                    refine jx_icmp_ne (pc_q := 148) (tg := 152) rfl rfl rfl (by omega) (by omega) (by omega) (by omega) (fun h48 => ?_) (fun h48 => ?_)
                    · have _q := h48
                      refine jx_ar (pc_q := 153) (st_q := [.int (i32 (0))]) rfl rfl rfl rfl ?_
                      refine jx_rt (v := some (.int (i32 (0)))) rfl rfl rfl rfl rfl (by first | rfl | exact jRet_b (by omega)) ?_
                      exact ⟨(0), rfl, rfl, by omega, trivial⟩
                    · have _q := h48
                      refine jx_ar (pc_q := 149) (st_q := [.int (i32 (1))]) rfl rfl rfl rfl ?_
                      refine jx_go (tg := 153) rfl rfl ?_
                      refine jx_rt (v := some (.int (i32 (1)))) rfl rfl rfl rfl rfl (by first | rfl | exact jRet_b (by omega)) ?_
                      exact ⟨(1), rfl, rfl, by omega, trivial⟩
      · have _q := h8
        refine jx_ld (pc_q := 49) (l_q := L) (st_q := [rv (me)]) rfl (jl_rvn gL_0) ?_
        refine cx_gi (pc_q := 52) (c := 11) (q := 3) (v := F (me) (3 : Int)) rfl rfl (by decide) (by decide) (Or.inl rfl) rfl o_me t_me rfl ?_
        refine jx_if_ne (pc_q := 55) (tg := 77) rfl rfl rfl (by omega) (by omega) (fun h49 => ?_) (fun h49 => ?_)
        · have _q := h49
          refine jx_ar (pc_q := 78) (st_q := [.int (i32 (0))]) rfl rfl rfl rfl ?_
          refine jx_rt (v := some (.int (i32 (0)))) rfl rfl rfl rfl rfl (by first | rfl | exact jRet_b (by omega)) ?_
          exact ⟨(0), rfl, rfl, by omega, trivial⟩
        · have _q := h49
          refine jx_ld (pc_q := 56) (l_q := L) (st_q := [.int (i32 (po))]) rfl (jl_iloadn gL_1) ?_
          refine jx_ar (pc_q := 58) (st_q := [.int (i32 (12)), .int (i32 (po))]) rfl rfl rfl rfl ?_
          refine jx_icmp_ne (pc_q := 61) (tg := 69) rfl rfl rfl (by omega) (by omega) (by decide) (by decide) (fun h50 => ?_) (fun h50 => ?_)
          · have _q := h50
            refine jx_ld (pc_q := 70) (l_q := L) (st_q := [.int (i32 (sd))]) rfl (jl_iloadn gL_3) ?_
            refine jx_if_ne (pc_q := 73) (tg := 77) rfl rfl rfl (by omega) (by omega) (fun h51 => ?_) (fun h51 => ?_)
            · have _q := h51
              refine jx_ar (pc_q := 78) (st_q := [.int (i32 (0))]) rfl rfl rfl rfl ?_
              refine jx_rt (v := some (.int (i32 (0)))) rfl rfl rfl rfl rfl (by first | rfl | exact jRet_b (by omega)) ?_
              exact ⟨(0), rfl, rfl, by omega, trivial⟩
            · have _q := h51
              refine jx_ar (pc_q := 74) (st_q := [.int (i32 (1))]) rfl rfl rfl rfl ?_
              refine jx_go (tg := 78) rfl rfl ?_
              refine jx_rt (v := some (.int (i32 (1)))) rfl rfl rfl rfl rfl (by first | rfl | exact jRet_b (by omega)) ?_
              exact ⟨(1), rfl, rfl, by omega, trivial⟩
          · have _q := h50
            refine jx_ld (pc_q := 63) (l_q := L) (st_q := [.int (i32 (tk))]) rfl (jl_iload gL_4) ?_
            refine jx_if_eq (pc_q := 66) (tg := 73) rfl rfl rfl (by omega) (by omega) (fun h52 => ?_) (fun h52 => ?_)
            · have _q := h52
              refine jx_ar (pc_q := 74) (st_q := [.int (i32 (1))]) rfl rfl rfl rfl ?_
              refine jx_go (tg := 78) rfl rfl ?_
              refine jx_rt (v := some (.int (i32 (1)))) rfl rfl rfl rfl rfl (by first | rfl | exact jRet_b (by omega)) ?_
              exact ⟨(1), rfl, rfl, by omega, trivial⟩
            · have _q := h52
              refine jx_go (tg := 77) rfl rfl ?_
              refine jx_ar (pc_q := 78) (st_q := [.int (i32 (0))]) rfl rfl rfl rfl ?_
              refine jx_rt (v := some (.int (i32 (0)))) rfl rfl rfl rfl rfl (by first | rfl | exact jRet_b (by omega)) ?_
              exact ⟨(0), rfl, rfl, by omega, trivial⟩
  · have _q := h2
    refine jx_ar (pc_q := 35) (st_q := [.int (i32 (0))]) rfl rfl rfl rfl ?_
    refine jx_rt (v := some (.int (i32 (0)))) rfl rfl rfl rfl rfl (by first | rfl | exact jRet_b (by omega)) ?_
    exact ⟨(0), rfl, rfl, by omega, trivial⟩
set_option maxRecDepth 20000 in
set_option maxHeartbeats 4000000 in
theorem k_LUses_mayUse {X : jX} {dd : Nat} {R : Nat → jC} {m : Nat} {tg ln : Int → Int} {F : Int → Int → Int} {me po fl : Int} (hd : 1 ≤ dd) (hC : HC 0 m tg ln F) (o_me : own m me) (t_me : tg me = 12) (h_po : (-2147483648 : Int) ≤ po ∧ po ≤ 2147483647) (h_fl : (-2147483648 : Int) ≤ fl ∧ fl ≤ 2147483647) : wk X dd 233 [rv me, .int (i32 po), .int (i32 fl)] (cV R m tg ln F) (fun o V_q => ∃ (r : Int), V_q = cV R m tg ln F ∧ o = .inl (some (.int (i32 r))) ∧ (0 ≤ r ∧ r ≤ 1) ∧ True) := by
  obtain ⟨d, rfl⟩ : ∃ d, dd = d + 1 := ⟨dd - 1, by omega⟩
  refine wk_of (e := jm233) rfl (by rw [jS_r, jS_i, jS_i, jS_0]; exact Nat.le_of_ble_eq_true rfl) ?_
  rw [la_r, la_i, la_i, la_0]
  show wj X d jm233 (0, [(0, rv (me)), (1, .int (i32 (po))), (2, .int (i32 (fl)))], [], cV R m tg ln F) _
  obtain ⟨L0, eL0⟩ : ∃ q : jL, q = [(0, rv (me)), (1, .int (i32 (po))), (2, .int (i32 (fl)))] := ⟨_, rfl⟩
  rw [← eL0]
  have g53 : jGet L0 0 = some (rv (me)) := eL0 ▸ (rfl : jGet [(0, rv (me)), (1, .int (i32 (po))), (2, .int (i32 (fl)))] 0 = some (rv (me)))
  have g54 : jGet L0 1 = some (.int (i32 (po))) := eL0 ▸ (rfl : jGet [(0, rv (me)), (1, .int (i32 (po))), (2, .int (i32 (fl)))] 1 = some (.int (i32 (po))))
  have g55 : jGet L0 2 = some (.int (i32 (fl))) := eL0 ▸ (rfl : jGet [(0, rv (me)), (1, .int (i32 (po))), (2, .int (i32 (fl)))] 2 = some (.int (i32 (fl))))
  clear eL0
  refine jx_ld (pc_q := 1) (l_q := L0) (st_q := [.int (i32 (fl))]) rfl (jl_iloadn g55) ?_
  refine jx_ar (pc_q := 2) (st_q := [.int (i32 (4)), .int (i32 (fl))]) rfl rfl rfl rfl ?_
  refine jx_and (pc_q := 3) rfl rfl ?_
  obtain ⟨z56, ez56⟩ : ∃ q, q = (i32 (fl) &&& i32 (4)).toInt := ⟨_, rfl⟩
  rw [← ez56]
  have bz56 : (-2147483648 : Int) ≤ z56 ∧ z56 ≤ 2147483647 := ez56 ▸ i32_rg _
  have cz56 : 0 ≤ z56 ∧ z56 ≤ 4 := ez56 ▸ and_le (by decide) (by decide)
  clear ez56
  refine jx_if_eq (pc_q := 6) (tg := 10) rfl rfl rfl (by omega) (by omega) (fun h57 => ?_) (fun h57 => ?_)
  · have _q := h57
    refine jx_ar (pc_q := 11) (st_q := [.int (i32 (0))]) rfl rfl rfl rfl ?_
    refine jx_ld (pc_q := 12) (l_q := jSto1 L0 3 (.int (i32 (0)))) (st_q := []) rfl rfl ?_
    obtain ⟨L58, eL58⟩ : ∃ q : jL, q = jSto1 L0 3 (.int (i32 (0))) := ⟨_, rfl⟩
    rw [← eL58]
    have g59 : jGet L58 0 = some (rv (me)) := eL58 ▸ jg_nr (by decide) g53
    have g60 : jGet L58 1 = some (.int (i32 (po))) := eL58 ▸ jg_ne (by decide) g54 rfl
    have g61 : jGet L58 2 = some (.int (i32 (fl))) := eL58 ▸ jg_ne (by decide) g55 rfl
    have g62 : jGet L58 3 = some (.int (i32 (0))) := eL58 ▸ jg_eq
    clear eL58
    refine jx_ld (pc_q := 13) (l_q := L58) (st_q := [.int (i32 (fl))]) rfl (jl_iloadn g61) ?_
    refine jx_ar (pc_q := 15) (st_q := [.int (i32 (8)), .int (i32 (fl))]) rfl rfl rfl rfl ?_
    refine jx_and (pc_q := 16) rfl rfl ?_
    obtain ⟨z63, ez63⟩ : ∃ q, q = (i32 (fl) &&& i32 (8)).toInt := ⟨_, rfl⟩
    rw [← ez63]
    have bz63 : (-2147483648 : Int) ≤ z63 ∧ z63 ≤ 2147483647 := ez63 ▸ i32_rg _
    have cz63 : 0 ≤ z63 ∧ z63 ≤ 8 := ez63 ▸ and_le (by decide) (by decide)
    clear ez63
    refine jx_if_eq (pc_q := 19) (tg := 23) rfl rfl rfl (by omega) (by omega) (fun h64 => ?_) (fun h64 => ?_)
    · have _q := h64
      refine jx_ar (pc_q := 24) (st_q := [.int (i32 (0))]) rfl rfl rfl rfl ?_
      refine jx_ld (pc_q := 26) (l_q := jSto1 L58 4 (.int (i32 (0)))) (st_q := []) rfl rfl ?_
      obtain ⟨L65, eL65⟩ : ∃ q : jL, q = jSto1 L58 4 (.int (i32 (0))) := ⟨_, rfl⟩
      rw [← eL65]
      have g66 : jGet L65 0 = some (rv (me)) := eL65 ▸ jg_nr (by decide) g59
      have g67 : jGet L65 1 = some (.int (i32 (po))) := eL65 ▸ jg_ne (by decide) g60 rfl
      have g68 : jGet L65 2 = some (.int (i32 (fl))) := eL65 ▸ jg_ne (by decide) g61 rfl
      have g69 : jGet L65 3 = some (.int (i32 (0))) := eL65 ▸ jg_ne (by decide) g62 rfl
      have g70 : jGet L65 4 = some (.int (i32 (0))) := eL65 ▸ jg_eq
      clear eL65
      exact k_LUses_mayUse_at_26 (X := X) (d := d) (R := R) (m := m) (tg := tg) (ln := ln) (F := F) (me := me) (po := po) (fl := fl) (hd := hd) (hC := hC) (o_me := o_me) (t_me := t_me) (h_po := h_po) (h_fl := h_fl) L65 (0) (0) g66 g67 g68 g69 g70 (by omega) (by omega) (by omega) (by omega) (by omega) (by omega)
    · have _q := h64
      refine jx_ar (pc_q := 20) (st_q := [.int (i32 (1))]) rfl rfl rfl rfl ?_
      refine jx_go (tg := 24) rfl rfl ?_
      refine jx_ld (pc_q := 26) (l_q := jSto1 L58 4 (.int (i32 (1)))) (st_q := []) rfl rfl ?_
      obtain ⟨L71, eL71⟩ : ∃ q : jL, q = jSto1 L58 4 (.int (i32 (1))) := ⟨_, rfl⟩
      rw [← eL71]
      have g72 : jGet L71 0 = some (rv (me)) := eL71 ▸ jg_nr (by decide) g59
      have g73 : jGet L71 1 = some (.int (i32 (po))) := eL71 ▸ jg_ne (by decide) g60 rfl
      have g74 : jGet L71 2 = some (.int (i32 (fl))) := eL71 ▸ jg_ne (by decide) g61 rfl
      have g75 : jGet L71 3 = some (.int (i32 (0))) := eL71 ▸ jg_ne (by decide) g62 rfl
      have g76 : jGet L71 4 = some (.int (i32 (1))) := eL71 ▸ jg_eq
      clear eL71
      exact k_LUses_mayUse_at_26 (X := X) (d := d) (R := R) (m := m) (tg := tg) (ln := ln) (F := F) (me := me) (po := po) (fl := fl) (hd := hd) (hC := hC) (o_me := o_me) (t_me := t_me) (h_po := h_po) (h_fl := h_fl) L71 (0) (1) g72 g73 g74 g75 g76 (by omega) (by omega) (by omega) (by omega) (by omega) (by omega)
  · have _q := h57
    refine jx_ar (pc_q := 7) (st_q := [.int (i32 (1))]) rfl rfl rfl rfl ?_
    refine jx_go (tg := 11) rfl rfl ?_
    refine jx_ld (pc_q := 12) (l_q := jSto1 L0 3 (.int (i32 (1)))) (st_q := []) rfl rfl ?_
    obtain ⟨L77, eL77⟩ : ∃ q : jL, q = jSto1 L0 3 (.int (i32 (1))) := ⟨_, rfl⟩
    rw [← eL77]
    have g78 : jGet L77 0 = some (rv (me)) := eL77 ▸ jg_nr (by decide) g53
    have g79 : jGet L77 1 = some (.int (i32 (po))) := eL77 ▸ jg_ne (by decide) g54 rfl
    have g80 : jGet L77 2 = some (.int (i32 (fl))) := eL77 ▸ jg_ne (by decide) g55 rfl
    have g81 : jGet L77 3 = some (.int (i32 (1))) := eL77 ▸ jg_eq
    clear eL77
    refine jx_ld (pc_q := 13) (l_q := L77) (st_q := [.int (i32 (fl))]) rfl (jl_iloadn g80) ?_
    refine jx_ar (pc_q := 15) (st_q := [.int (i32 (8)), .int (i32 (fl))]) rfl rfl rfl rfl ?_
    refine jx_and (pc_q := 16) rfl rfl ?_
    obtain ⟨z82, ez82⟩ : ∃ q, q = (i32 (fl) &&& i32 (8)).toInt := ⟨_, rfl⟩
    rw [← ez82]
    have bz82 : (-2147483648 : Int) ≤ z82 ∧ z82 ≤ 2147483647 := ez82 ▸ i32_rg _
    have cz82 : 0 ≤ z82 ∧ z82 ≤ 8 := ez82 ▸ and_le (by decide) (by decide)
    clear ez82
    refine jx_if_eq (pc_q := 19) (tg := 23) rfl rfl rfl (by omega) (by omega) (fun h83 => ?_) (fun h83 => ?_)
    · have _q := h83
      refine jx_ar (pc_q := 24) (st_q := [.int (i32 (0))]) rfl rfl rfl rfl ?_
      refine jx_ld (pc_q := 26) (l_q := jSto1 L77 4 (.int (i32 (0)))) (st_q := []) rfl rfl ?_
      obtain ⟨L84, eL84⟩ : ∃ q : jL, q = jSto1 L77 4 (.int (i32 (0))) := ⟨_, rfl⟩
      rw [← eL84]
      have g85 : jGet L84 0 = some (rv (me)) := eL84 ▸ jg_nr (by decide) g78
      have g86 : jGet L84 1 = some (.int (i32 (po))) := eL84 ▸ jg_ne (by decide) g79 rfl
      have g87 : jGet L84 2 = some (.int (i32 (fl))) := eL84 ▸ jg_ne (by decide) g80 rfl
      have g88 : jGet L84 3 = some (.int (i32 (1))) := eL84 ▸ jg_ne (by decide) g81 rfl
      have g89 : jGet L84 4 = some (.int (i32 (0))) := eL84 ▸ jg_eq
      clear eL84
      exact k_LUses_mayUse_at_26 (X := X) (d := d) (R := R) (m := m) (tg := tg) (ln := ln) (F := F) (me := me) (po := po) (fl := fl) (hd := hd) (hC := hC) (o_me := o_me) (t_me := t_me) (h_po := h_po) (h_fl := h_fl) L84 (1) (0) g85 g86 g87 g88 g89 (by omega) (by omega) (by omega) (by omega) (by omega) (by omega)
    · have _q := h83
      refine jx_ar (pc_q := 20) (st_q := [.int (i32 (1))]) rfl rfl rfl rfl ?_
      refine jx_go (tg := 24) rfl rfl ?_
      refine jx_ld (pc_q := 26) (l_q := jSto1 L77 4 (.int (i32 (1)))) (st_q := []) rfl rfl ?_
      obtain ⟨L90, eL90⟩ : ∃ q : jL, q = jSto1 L77 4 (.int (i32 (1))) := ⟨_, rfl⟩
      rw [← eL90]
      have g91 : jGet L90 0 = some (rv (me)) := eL90 ▸ jg_nr (by decide) g78
      have g92 : jGet L90 1 = some (.int (i32 (po))) := eL90 ▸ jg_ne (by decide) g79 rfl
      have g93 : jGet L90 2 = some (.int (i32 (fl))) := eL90 ▸ jg_ne (by decide) g80 rfl
      have g94 : jGet L90 3 = some (.int (i32 (1))) := eL90 ▸ jg_ne (by decide) g81 rfl
      have g95 : jGet L90 4 = some (.int (i32 (1))) := eL90 ▸ jg_eq
      clear eL90
      exact k_LUses_mayUse_at_26 (X := X) (d := d) (R := R) (m := m) (tg := tg) (ln := ln) (F := F) (me := me) (po := po) (fl := fl) (hd := hd) (hC := hC) (o_me := o_me) (t_me := t_me) (h_po := h_po) (h_fl := h_fl) L90 (1) (1) g91 g92 g93 g94 g95 (by omega) (by omega) (by omega) (by omega) (by omega) (by omega)
