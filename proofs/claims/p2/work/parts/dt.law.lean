set_option maxRecDepth 20000 in
set_option maxHeartbeats 4000000 in
theorem law_loop {X : jX} (hL : X.1 ≤ 2048) {d : Nat} (hd : 700 ≤ d) : ∀ (mm : Nat) (L : jL) (G : Nat → Int) (A : Nat → Nat → Int) (m : Nat) (tg ln : Int → Int) (F : Int → Int → Int) (i n : Int), ((X.1 : Int) + 4 - i).toNat = mm → jGet L 0 = some (.ref 63) → jGet L 1 = some (rv (64)) → jGet L 2 = some (.ref 66) → jGet L 3 = some (rv (153)) → jGet L 4 = some (.int (i32 (i))) → HC 0 m tg ln F → NP m tg F → SB m tg F (30001 * n) → T3 m tg → RI G A n → (own m 64 ∧ tg 64 = 1) → (own m 153 ∧ tg 153 = 22) → ln 153 = 1 → F 153 (-1) = 0 → (0 ≤ n ∧ 4 * n ≤ i) → i ≤ (X.1 : Int) → F 64 (1 : Int) = G 2 → szD m tg ln + 2794 * F 64 (1 : Int) + 42033 * (1 - tz (F 64 (5 : Int))) ≤ 50000 + 12925 * n → (m : Int) + F 64 (1 : Int) ≤ 91 + 105 * n → wj X d jm18 (23, L, [], cV (rR G A) m tg ln F) (fun o V => o = .inl (some (.int (i32 1))) ∧ V.length ≤ 601024 ∧ jSl V ≤ 7293034) := by
  intro mm
  induction mm using Nat.strongRecOn with
  | ind mm ih =>
    intro L G A m tg ln F i n hmm g0 g1 g2 g3 g4 hC c_NP c_SB c_T3 hR o64 o153 hl s153 hn hi hG hb1 hb2
    have hM0 : Fq 0 [(1, 1), (1, 2), (1, 3), (1, 4), (1, 5), (1, 6), (2, 7), (2, 8), (2, 9), (2, 10), (2, 11), (3, 5), (3, 6), (3, 7), (3, 8), (3, 9), (3, 10), (3, 11), (3, 12), (3, 13), (3, 14), (3, 16), (3, 17), (3, 18), (3, 19), (3, 20), (4, 0), (5, 2), (5, 3), (5, 4), (5, 5), (5, 6), (5, 7), (6, 3), (6, 4), (6, 6), (6, 7), (6, 8), (7, 3), (7, 4), (7, 5), (7, 6), (7, 9), (7, 10), (7, 11), (7, 15), (8, 10), (8, 11), (8, 12), (8, 13), (8, 14), (8, 15), (8, 16), (8, 17), (8, 18), (9, 2), (9, 3), (10, 0), (10, 1), (10, 2), (10, 5), (10, 7), (10, 8), (10, 9), (11, 7), (11, 8), (11, 9), (11, 10), (11, 11), (11, 12), (11, 13), (11, 14), (11, 15), (11, 16), (11, 17), (11, 18), (12, 2), (12, 3), (12, 4), (20, -5), (21, -5), (22, -5), (24, -5), (25, -5), (26, -5), (27, -5)] m tg F F := Fq_r
    have hX0 : Ex m tg ln m tg ln := Ex_r
    have lb : (0 : Int) ≤ F 64 (1 : Int) ∧ F 64 (1 : Int) ≤ 3000 := HC_i (c := 0) (q := 1) hC o64.1 o64.2 (by decide) rfl
    have t5 := tz_b (F 64 (5 : Int))
    refine jx_ld (pc' := 25) (l' := L) (st' := [.int (i32 (i))]) rfl (jl_iload g4) ?_
    refine jx_ld (pc' := 26) (l' := L) (st' := [.ref 63, .int (i32 (i))]) rfl (jl_aloadn g0) ?_
    refine jx_scl (pc' := 27) rfl rfl ?_
    refine jx_ar (pc' := 28) (st' := [.int (i32 (4)), .int (i32 ((X.1 : Int))), .int (i32 (i))]) rfl rfl rfl rfl ?_
    refine jx_sub (pc' := 29) rfl rfl ?_
    refine jx_icmp_gt (pc' := 32) (tg := 757) rfl rfl rfl (by omega) (by omega) (by omega) (by omega) (fun h1 => ?_) (fun h1 => ?_)
    · have _q := h1
      refine jx_ar (pc' := 758) (st' := [.int (i32 (1))]) rfl rfl rfl rfl ?_
      refine jx_rt (v := some (.int (i32 (1)))) rfl rfl rfl rfl rfl (by first | rfl | exact jRet_b (by omega)) ?_
      exact law_end hC c_T3 hb1 hb2 (by omega) (by omega) (by omega)
    · have _q := h1
      refine jx_ld (pc' := 33) (l' := L) (st' := [.ref 63]) rfl (jl_aloadn g0) ?_
      refine jx_ld (pc' := 35) (l' := L) (st' := [.int (i32 (i)), .ref 63]) rfl (jl_iload g4) ?_
      refine jx_sca (pc' := 36) (z := i) rfl rfl (by omega) (by omega) hL ?_
      have b2 := sx_rg (X := X) (j := i)
      refine jx_ar (pc' := 38) (st' := [.int (i32 (31)), .int (i32 (sx X (i)))]) rfl rfl rfl rfl ?_
      refine jx_and (pc' := 39) rfl rfl ?_
      obtain ⟨z3, ez3⟩ : ∃ q, q = (i32 (sx X (i)) &&& i32 (31)).toInt := ⟨_, rfl⟩
      rw [← ez3]
      have bz3 : (-2147483648 : Int) ≤ z3 ∧ z3 ≤ 2147483647 := ez3 ▸ i32_rg _
      have cz3 : 0 ≤ z3 ∧ z3 ≤ 31 := ez3 ▸ and_le (by decide) (by decide)
      clear ez3
      by_cases h4 : z3 = 0
      · refine jx_swe (tg := 128) h4 rfl rfl rfl rfl ?_
        refine jx_ld (pc' := 129) (l' := L) (st' := [rv (64)]) rfl (jl_rvn g1) ?_
        refine jx_ld (pc' := 130) (l' := L) (st' := [.ref 63, rv (64)]) rfl (jl_aloadn g0) ?_
        refine jx_ld (pc' := 132) (l' := L) (st' := [.int (i32 (i)), .ref 63, rv (64)]) rfl (jl_iload g4) ?_
        refine jx_ar (pc' := 133) (st' := [.int (i32 (1)), .int (i32 (i)), .ref 63, rv (64)]) rfl rfl rfl rfl ?_
        refine jx_add (pc' := 134) rfl rfl ?_
        refine jx_sca (pc' := 135) (z := (i + 1)) rfl rfl (by omega) (by omega) hL ?_
        have b5 := sx_rg (X := X) (j := (i + 1))
        refine jx_ld (pc' := 136) (l' := L) (st' := [rv (153), .int (i32 (sx X ((i + 1)))), rv (64)]) rfl (jl_rvn g3) ?_
        refine cx_st (st := []) (as := [rv (64), .int (i32 (sx X ((i + 1)))), rv (153)]) rfl rfl rfl ⟨rfl, (Nat.le_of_ble_eq_true rfl)⟩ rfl (k_LLaw_put (dd := d) (R := rR G A) (m := m) (tg := tg) (ln := ln) (F := F) (x := 64) (p0 := sx X ((i + 1))) (ou := 153) (hd := by omega) (hC := hC) (o_x := o64.1) (t_x := o64.2) (h_p0 := by omega) (o_ou := o153.1) (t_ou := o153.2) (s_ou := s153) (p_0 := by omega) (c_NP := c_NP) (kk := 30001 * n) (c_SB := c_SB) (c_T3 := c_T3)) (fun o V' hq => ?_)
        obtain ⟨m6, tg6, ln6, F7, r8, rfl, rfl, hx9, hC10, hM11, b12, p13, p14, p15, c16, c17, c18, -⟩ := hq
        have hM19 : Fq 0 [(1, 1), (1, 2), (1, 3), (1, 4), (1, 5), (1, 6), (2, 7), (2, 8), (2, 9), (2, 10), (2, 11), (3, 5), (3, 6), (3, 7), (3, 8), (3, 9), (3, 10), (3, 11), (3, 12), (3, 13), (3, 14), (3, 16), (3, 17), (3, 18), (3, 19), (3, 20), (4, 0), (5, 2), (5, 3), (5, 4), (5, 5), (5, 6), (5, 7), (6, 3), (6, 4), (6, 6), (6, 7), (6, 8), (7, 3), (7, 4), (7, 5), (7, 6), (7, 9), (7, 10), (7, 11), (7, 15), (8, 10), (8, 11), (8, 12), (8, 13), (8, 14), (8, 15), (8, 16), (8, 17), (8, 18), (9, 2), (9, 3), (10, 0), (10, 1), (10, 2), (10, 5), (10, 7), (10, 8), (10, 9), (11, 7), (11, 8), (11, 9), (11, 10), (11, 11), (11, 12), (11, 13), (11, 14), (11, 15), (11, 16), (11, 17), (11, 18), (12, 2), (12, 3), (12, 4), (20, -5), (21, -5), (22, -5), (24, -5), (25, -5), (26, -5), (27, -5)] m tg F F7 := Fq_t (ln := ln) (ln1 := ln) hM0 hX0 hM11 (by decide) (Or.inl rfl)
        have ho20 : own m6 (64) ∧ tg6 (64) = 1 := Ex_o hx9 ⟨o64.1, o64.2⟩
        have ho21 : own m6 (153) ∧ tg6 (153) = 22 := Ex_o hx9 ⟨o153.1, o153.2⟩
        have ln22 : ln6 (153) = 1 := (hx9.2 _ o153.1).2.trans hl
        clear hl
        have hX23 := Ex_t hX0 hx9
        refine Or.inr (Or.inl ⟨_, rfl, ?_⟩)
        refine jx_ld (pc' := 141) (l' := jSto1 L 5 (.int (i32 (r8)))) (st' := []) rfl rfl ?_
        obtain ⟨L24, eL24⟩ : ∃ q : jL, q = jSto1 L 5 (.int (i32 (r8))) := ⟨_, rfl⟩
        rw [← eL24]
        have g25 : jGet L24 0 = some (.ref 63) := eL24 ▸ jg_ne (by decide) g0 rfl
        have g26 : jGet L24 1 = some (rv (64)) := eL24 ▸ jg_nr (by decide) g1
        have g27 : jGet L24 2 = some (.ref 66) := eL24 ▸ jg_ne (by decide) g2 rfl
        have g28 : jGet L24 3 = some (rv (153)) := eL24 ▸ jg_nr (by decide) g3
        have g29 : jGet L24 4 = some (.int (i32 (i))) := eL24 ▸ jg_ne (by decide) g4 rfl
        have g30 : jGet L24 5 = some (.int (i32 (r8))) := eL24 ▸ jg_eq
        clear eL24
        refine jx_ld (pc' := 142) (l' := L24) (st' := [.ref 66]) rfl (jl_aloadn g27) ?_
        refine jx_ld (pc' := 143) (l' := L24) (st' := [.ref 63, .ref 66]) rfl (jl_aloadn g25) ?_
        refine jx_ld (pc' := 145) (l' := L24) (st' := [.int (i32 (i)), .ref 63, .ref 66]) rfl (jl_iload g29) ?_
        refine jx_ar (pc' := 146) (st' := [.int (i32 (1)), .int (i32 (i)), .ref 63, .ref 66]) rfl rfl rfl rfl ?_
        refine jx_add (pc' := 147) rfl rfl ?_
        refine jx_sca (pc' := 148) (z := (i + 1)) rfl rfl (by omega) (by omega) hL ?_
        refine rc_vi (pc' := 151) (m := m6) (G := G) (A := A) (st := []) (as := [.int (i32 (sx X ((i + 1))))]) (by have := hC10.1; omega) rfl rfl rfl rfl ⟨rfl, rfl, (Nat.le_of_ble_eq_true rfl)⟩ rfl rfl (ri_put (dd := d) (by omega) hR (by omega) (by omega)) (fun o V' hq => ?_)
        obtain ⟨G31, A31, r31, rfl, rfl, hR31, hp31⟩ := hq
        refine Or.inr ⟨_, rfl, ?_⟩
        have nb4 := nb_4 (sg := sx X ((i + 1)))
        have mo4 := mo_4 (sg := sx X ((i + 1)))
        have t32 := tz_b (bt (sx X ((i + 1))) 0)
        have t33 := tz_b (bt (sx X ((i + 1))) 8)
        have t34 := tz_b (bt (sx X ((i + 1))) 16)
        have t35 := tz_b (bt (sx X ((i + 1))) 24)
        rw [← cr_V (by have := hC10.1; omega)]
        refine jx_ld (pc' := 153) (l' := jSto1 L24 6 (.int (i32 (r31)))) (st' := []) rfl rfl ?_
        obtain ⟨L36, eL36⟩ : ∃ q : jL, q = jSto1 L24 6 (.int (i32 (r31))) := ⟨_, rfl⟩
        rw [← eL36]
        have g37 : jGet L36 0 = some (.ref 63) := eL36 ▸ jg_ne (by decide) g25 rfl
        have g38 : jGet L36 1 = some (rv (64)) := eL36 ▸ jg_nr (by decide) g26
        have g39 : jGet L36 2 = some (.ref 66) := eL36 ▸ jg_ne (by decide) g27 rfl
        have g40 : jGet L36 3 = some (rv (153)) := eL36 ▸ jg_nr (by decide) g28
        have g41 : jGet L36 4 = some (.int (i32 (i))) := eL36 ▸ jg_ne (by decide) g29 rfl
        have g42 : jGet L36 5 = some (.int (i32 (r8))) := eL36 ▸ jg_ne (by decide) g30 rfl
        have g43 : jGet L36 6 = some (.int (i32 (r31))) := eL36 ▸ jg_eq
        clear eL36
        refine jx_ld (pc' := 154) (l' := L36) (st' := [.ref 66]) rfl (jl_aloadn g39) ?_
        refine rc_vi (pc' := 157) (m := m6) (G := G31) (A := A31) (st := []) (as := []) (by have := hC10.1; omega) rfl rfl rfl rfl ⟨rfl, rfl, (Nat.le_of_ble_eq_true rfl)⟩ rfl rfl (c_thrown (dd := d) (by omega) hR31.1 rfl) (fun o V' hq => ?_)
        obtain ⟨r44, rfl, rfl, hbr44, her44, -⟩ := hq
        refine Or.inr ⟨_, rfl, ?_⟩
        rw [← cr_V (by have := hC10.1; omega)]
        refine jx_ld (pc' := 159) (l' := L36) (st' := [.int (i32 (r8)), .int (i32 (r44))]) rfl (jl_iload g42) ?_
        refine jx_icmp_eq (pc' := 162) (tg := 164) rfl rfl rfl (by omega) (by omega) (by omega) (by omega) (fun h45 => ?_) (fun h45 => ?_)
        · have _q := h45
          refine jx_ld (pc' := 166) (l' := L36) (st' := [.int (i32 (r8))]) rfl (jl_iload g42) ?_
          refine jx_if_ne (pc' := 169) (tg := 181) rfl rfl rfl (by omega) (by omega) (fun h46 => ?_) (fun h46 => ?_)
          · have _q := h46
            refine jx_go (tg := 751) rfl rfl ?_
            refine jx_inc (pc' := 754) (l' := jSto1 L36 4 (.int (i32 (i + (4))))) (x := i) rfl g41 (by decide) rfl rfl ?_
            obtain ⟨L47, eL47⟩ : ∃ q : jL, q = jSto1 L36 4 (.int (i32 ((i + (4))))) := ⟨_, rfl⟩
            rw [← eL47]
            have g48 : jGet L47 0 = some (.ref 63) := eL47 ▸ jg_ne (by decide) g37 rfl
            have g49 : jGet L47 1 = some (rv (64)) := eL47 ▸ jg_nr (by decide) g38
            have g50 : jGet L47 2 = some (.ref 66) := eL47 ▸ jg_ne (by decide) g39 rfl
            have g51 : jGet L47 3 = some (rv (153)) := eL47 ▸ jg_nr (by decide) g40
            have g52 : jGet L47 5 = some (.int (i32 (r8))) := eL47 ▸ jg_ne (by decide) g42 rfl
            have g53 : jGet L47 6 = some (.int (i32 (r31))) := eL47 ▸ jg_ne (by decide) g43 rfl
            have g54 : jGet L47 4 = some (.int (i32 ((i + (4))))) := eL47 ▸ jg_eq
            clear eL47
            refine jx_go (tg := 23) rfl rfl ?_
            have q55 : F7 (64) (5 : Int) = F (64) (5 : Int) := (show F7 (64) (5 : Int) = F (64) (5 : Int) from hM11 _ _ o64.1 (own_z o64.1) (by rw [o64.2]; rfl))
            have q56 : tz (F7 (64) (5 : Int)) = tz (F (64) (5 : Int)) := by rw [q55]
            exact ih _ (by omega) L47 G31 A31 m6 tg6 ln6 F7 ((i + (4))) (n + 1) rfl g48 g49 g50 g51 g54 hC10 c16 (SB_m c17 (by omega)) c18 hR31 ⟨ho20.1, ho20.2⟩ ⟨ho21.1, ho21.2⟩ (by omega) ((show F7 (153) ((-1) : Int) = F (153) ((-1) : Int) from hM11 _ _ o153.1 (own_z o153.1) (by rw [o153.2]; rfl)).trans s153) (by omega) (by omega) (by omega) (by omega) (by omega)
          · have _q := h46
            refine jx_ld (pc' := 170) (l' := L36) (st' := [rv (153)]) rfl (jl_rvn g40) ?_
            refine jx_ar (pc' := 171) (st' := [.int (i32 (0)), rv (153)]) rfl rfl rfl rfl ?_
            refine cx_lal (pc' := 172) rfl rfl ho21.1 ho21.2 (by omega) (by omega) (by omega) ?_
            refine jx_ld (pc' := 174) (l' := L36) (st' := [.int (i32 (r31)), .long (i64 (F7 (153) (0)))]) rfl (jl_iload g43) ?_
            refine jx_ar (pc' := 175) (st' := .long ((i32 (r31)).toInt64) :: [.long (i64 (F7 (153) (0)))]) rfl rfl rfl rfl ?_
            refine jx_lcmp0 (pc' := 176) rfl rfl (by rw [show F7 (153) (0 : Int) = r31 by omega]; exact i64_t2 (by omega) (by omega)) ?_
            refine jx_if_eq (pc' := 179) (tg := 181) rfl rfl rfl (by decide) (by decide) (fun h57 => ?_) (fun h57 => ?_)
            · have _q := h57
              refine jx_go (tg := 751) rfl rfl ?_
              refine jx_inc (pc' := 754) (l' := jSto1 L36 4 (.int (i32 (i + (4))))) (x := i) rfl g41 (by decide) rfl rfl ?_
              obtain ⟨L58, eL58⟩ : ∃ q : jL, q = jSto1 L36 4 (.int (i32 ((i + (4))))) := ⟨_, rfl⟩
              rw [← eL58]
              have g59 : jGet L58 0 = some (.ref 63) := eL58 ▸ jg_ne (by decide) g37 rfl
              have g60 : jGet L58 1 = some (rv (64)) := eL58 ▸ jg_nr (by decide) g38
              have g61 : jGet L58 2 = some (.ref 66) := eL58 ▸ jg_ne (by decide) g39 rfl
              have g62 : jGet L58 3 = some (rv (153)) := eL58 ▸ jg_nr (by decide) g40
              have g63 : jGet L58 5 = some (.int (i32 (r8))) := eL58 ▸ jg_ne (by decide) g42 rfl
              have g64 : jGet L58 6 = some (.int (i32 (r31))) := eL58 ▸ jg_ne (by decide) g43 rfl
              have g65 : jGet L58 4 = some (.int (i32 ((i + (4))))) := eL58 ▸ jg_eq
              clear eL58
              refine jx_go (tg := 23) rfl rfl ?_
              have q66 : F7 (64) (5 : Int) = F (64) (5 : Int) := (show F7 (64) (5 : Int) = F (64) (5 : Int) from hM11 _ _ o64.1 (own_z o64.1) (by rw [o64.2]; rfl))
              have q67 : tz (F7 (64) (5 : Int)) = tz (F (64) (5 : Int)) := by rw [q66]
              exact ih _ (by omega) L58 G31 A31 m6 tg6 ln6 F7 ((i + (4))) (n + 1) rfl g59 g60 g61 g62 g65 hC10 c16 (SB_m c17 (by omega)) c18 hR31 ⟨ho20.1, ho20.2⟩ ⟨ho21.1, ho21.2⟩ (by omega) ((show F7 (153) ((-1) : Int) = F (153) ((-1) : Int) from hM11 _ _ o153.1 (own_z o153.1) (by rw [o153.2]; rfl)).trans s153) (by omega) (by omega) (by omega) (by omega) (by omega)
            · have _q := h57
              exact absurd h57 (by omega)
        · have _q := h45
          refine jx_ar (pc' := 163) (st' := [.int (i32 (0))]) rfl rfl rfl rfl ?_
          exfalso
          omega
      by_cases h68 : z3 = 1
      · refine jx_swe (tg := 184) h68 rfl rfl rfl rfl ?_
        refine jx_ld (pc' := 185) (l' := L) (st' := [rv (64)]) rfl (jl_rvn g1) ?_
        refine jx_ld (pc' := 186) (l' := L) (st' := [.ref 63, rv (64)]) rfl (jl_aloadn g0) ?_
        refine jx_ld (pc' := 188) (l' := L) (st' := [.int (i32 (i)), .ref 63, rv (64)]) rfl (jl_iload g4) ?_
        refine jx_ar (pc' := 189) (st' := [.int (i32 (1)), .int (i32 (i)), .ref 63, rv (64)]) rfl rfl rfl rfl ?_
        refine jx_add (pc' := 190) rfl rfl ?_
        refine jx_sca (pc' := 191) (z := (i + 1)) rfl rfl (by omega) (by omega) hL ?_
        have b69 := sx_rg (X := X) (j := (i + 1))
        refine cx_st (st := []) (as := [rv (64), .int (i32 (sx X ((i + 1))))]) rfl rfl rfl ⟨rfl, (Nat.le_of_ble_eq_true rfl)⟩ rfl (k_LLaw_end (dd := d) (R := rR G A) (m := m) (tg := tg) (ln := ln) (F := F) (x := 64) (p0 := sx X ((i + 1))) (hd := by omega) (hC := hC) (o_x := o64.1) (t_x := o64.2) (h_p0 := by omega) (c_NP := c_NP) (kk := 30001 * n) (c_SB := c_SB) (c_T3 := c_T3)) (fun o V' hq => ?_)
        obtain ⟨m70, tg70, ln70, F71, r72, rfl, rfl, hx73, hC74, hM75, b76, p77, p78, p79, c80, c81, c82, -⟩ := hq
        have hM83 : Fq 0 [(1, 1), (1, 2), (1, 3), (1, 4), (1, 5), (1, 6), (2, 7), (2, 8), (2, 9), (2, 10), (2, 11), (3, 5), (3, 6), (3, 7), (3, 8), (3, 9), (3, 10), (3, 11), (3, 12), (3, 13), (3, 14), (3, 16), (3, 17), (3, 18), (3, 19), (3, 20), (4, 0), (5, 2), (5, 3), (5, 4), (5, 5), (5, 6), (5, 7), (6, 3), (6, 4), (6, 6), (6, 7), (6, 8), (7, 3), (7, 4), (7, 5), (7, 6), (7, 9), (7, 10), (7, 11), (7, 15), (8, 10), (8, 11), (8, 12), (8, 13), (8, 14), (8, 15), (8, 16), (8, 17), (8, 18), (9, 2), (9, 3), (10, 0), (10, 1), (10, 2), (10, 5), (10, 7), (10, 8), (10, 9), (11, 7), (11, 8), (11, 9), (11, 10), (11, 11), (11, 12), (11, 13), (11, 14), (11, 15), (11, 16), (11, 17), (11, 18), (12, 2), (12, 3), (12, 4), (20, -5), (21, -5), (22, -5), (24, -5), (25, -5), (26, -5), (27, -5)] m tg F F71 := Fq_t (ln := ln) (ln1 := ln) hM0 hX0 hM75 (by decide) (Or.inl rfl)
        have ho84 : own m70 (64) ∧ tg70 (64) = 1 := Ex_o hx73 ⟨o64.1, o64.2⟩
        have ho85 : own m70 (153) ∧ tg70 (153) = 22 := Ex_o hx73 ⟨o153.1, o153.2⟩
        have ln86 : ln70 (153) = 1 := (hx73.2 _ o153.1).2.trans hl
        clear hl
        have hX87 := Ex_t hX0 hx73
        refine Or.inr (Or.inl ⟨_, rfl, ?_⟩)
        refine jx_ld (pc' := 196) (l' := jSto1 L 5 (.int (i32 (r72)))) (st' := []) rfl rfl ?_
        obtain ⟨L88, eL88⟩ : ∃ q : jL, q = jSto1 L 5 (.int (i32 (r72))) := ⟨_, rfl⟩
        rw [← eL88]
        have g89 : jGet L88 0 = some (.ref 63) := eL88 ▸ jg_ne (by decide) g0 rfl
        have g90 : jGet L88 1 = some (rv (64)) := eL88 ▸ jg_nr (by decide) g1
        have g91 : jGet L88 2 = some (.ref 66) := eL88 ▸ jg_ne (by decide) g2 rfl
        have g92 : jGet L88 3 = some (rv (153)) := eL88 ▸ jg_nr (by decide) g3
        have g93 : jGet L88 4 = some (.int (i32 (i))) := eL88 ▸ jg_ne (by decide) g4 rfl
        have g94 : jGet L88 5 = some (.int (i32 (r72))) := eL88 ▸ jg_eq
        clear eL88
        refine jx_ld (pc' := 197) (l' := L88) (st' := [.ref 66]) rfl (jl_aloadn g91) ?_
        refine jx_ld (pc' := 198) (l' := L88) (st' := [.ref 63, .ref 66]) rfl (jl_aloadn g89) ?_
        refine jx_ld (pc' := 200) (l' := L88) (st' := [.int (i32 (i)), .ref 63, .ref 66]) rfl (jl_iload g93) ?_
        refine jx_ar (pc' := 201) (st' := [.int (i32 (1)), .int (i32 (i)), .ref 63, .ref 66]) rfl rfl rfl rfl ?_
        refine jx_add (pc' := 202) rfl rfl ?_
        refine jx_sca (pc' := 203) (z := (i + 1)) rfl rfl (by omega) (by omega) hL ?_
        refine rc_vi (pc' := 206) (m := m70) (G := G) (A := A) (st := []) (as := [.int (i32 (sx X ((i + 1))))]) (by have := hC74.1; omega) rfl rfl rfl rfl ⟨rfl, rfl, (Nat.le_of_ble_eq_true rfl)⟩ rfl rfl (ri_end (dd := d) (by omega) hR (by omega) (by omega)) (fun o V' hq => ?_)
        obtain ⟨G95, A95, rfl, rfl, hR95, hp95⟩ := hq
        refine Or.inl ⟨rfl, ?_⟩
        rw [← cr_V (by have := hC74.1; omega)]
        refine jx_go (tg := 751) rfl rfl ?_
        refine jx_inc (pc' := 754) (l' := jSto1 L88 4 (.int (i32 (i + (4))))) (x := i) rfl g93 (by decide) rfl rfl ?_
        obtain ⟨L96, eL96⟩ : ∃ q : jL, q = jSto1 L88 4 (.int (i32 ((i + (4))))) := ⟨_, rfl⟩
        rw [← eL96]
        have g97 : jGet L96 0 = some (.ref 63) := eL96 ▸ jg_ne (by decide) g89 rfl
        have g98 : jGet L96 1 = some (rv (64)) := eL96 ▸ jg_nr (by decide) g90
        have g99 : jGet L96 2 = some (.ref 66) := eL96 ▸ jg_ne (by decide) g91 rfl
        have g100 : jGet L96 3 = some (rv (153)) := eL96 ▸ jg_nr (by decide) g92
        have g101 : jGet L96 5 = some (.int (i32 (r72))) := eL96 ▸ jg_ne (by decide) g94 rfl
        have g102 : jGet L96 4 = some (.int (i32 ((i + (4))))) := eL96 ▸ jg_eq
        clear eL96
        refine jx_go (tg := 23) rfl rfl ?_
        have q103 : F71 (64) (5 : Int) = F (64) (5 : Int) := (show F71 (64) (5 : Int) = F (64) (5 : Int) from hM75 _ _ o64.1 (own_z o64.1) (by rw [o64.2]; rfl))
        have q104 : tz (F71 (64) (5 : Int)) = tz (F (64) (5 : Int)) := by rw [q103]
        exact ih _ (by omega) L96 G95 A95 m70 tg70 ln70 F71 ((i + (4))) (n + 1) rfl g97 g98 g99 g100 g102 hC74 c80 (SB_m c81 (by omega)) c82 hR95 ⟨ho84.1, ho84.2⟩ ⟨ho85.1, ho85.2⟩ (by omega) ((show F71 (153) ((-1) : Int) = F (153) ((-1) : Int) from hM75 _ _ o153.1 (own_z o153.1) (by rw [o153.2]; rfl)).trans s153) (by omega) (by omega) (by omega) (by omega) (by omega)
      by_cases h105 : z3 = 2
      · refine jx_swe (tg := 209) h105 rfl rfl rfl rfl ?_
        refine jx_ld (pc' := 210) (l' := L) (st' := [rv (64)]) rfl (jl_rvn g1) ?_
        refine cx_vi (c := 0) (a := 64) (st := []) (as := []) rfl rfl rfl o64.1 o64.2 (by decide) rfl ⟨rfl, rfl, (Nat.le_of_ble_eq_true rfl)⟩ rfl (k_LY_compile (dd := d) (R := rR G A) (m := m) (tg := tg) (ln := ln) (F := F) (me := 64) (hd := by omega) (hC := hC) (o_me := o64.1) (t_me := o64.2) (p_0 := by omega) (c_NP := c_NP) (kk := 30001 * n) (c_SB := c_SB) (c_T3 := c_T3)) (fun o V' hq => ?_)
        obtain ⟨m106, tg106, ln106, F107, r108, rfl, rfl, hx109, hC110, hM111, b112, p113, p114, p115, p116, c117, c118, c119, -⟩ := hq
        have hM120 : Fq 0 [(1, 1), (1, 2), (1, 3), (1, 4), (1, 5), (1, 6), (2, 7), (2, 8), (2, 9), (2, 10), (2, 11), (3, 5), (3, 6), (3, 7), (3, 8), (3, 9), (3, 10), (3, 11), (3, 12), (3, 13), (3, 14), (3, 16), (3, 17), (3, 18), (3, 19), (3, 20), (4, 0), (5, 2), (5, 3), (5, 4), (5, 5), (5, 6), (5, 7), (6, 3), (6, 4), (6, 6), (6, 7), (6, 8), (7, 3), (7, 4), (7, 5), (7, 6), (7, 9), (7, 10), (7, 11), (7, 15), (8, 10), (8, 11), (8, 12), (8, 13), (8, 14), (8, 15), (8, 16), (8, 17), (8, 18), (9, 2), (9, 3), (10, 0), (10, 1), (10, 2), (10, 5), (10, 7), (10, 8), (10, 9), (11, 7), (11, 8), (11, 9), (11, 10), (11, 11), (11, 12), (11, 13), (11, 14), (11, 15), (11, 16), (11, 17), (11, 18), (12, 2), (12, 3), (12, 4), (20, -5), (21, -5), (22, -5), (24, -5), (25, -5), (26, -5), (27, -5)] m tg F F107 := Fq_t (ln := ln) (ln1 := ln) hM0 hX0 hM111 (by decide) (Or.inl rfl)
        have ho121 : own m106 (64) ∧ tg106 (64) = 1 := Ex_o hx109 ⟨o64.1, o64.2⟩
        have ho122 : own m106 (153) ∧ tg106 (153) = 22 := Ex_o hx109 ⟨o153.1, o153.2⟩
        have ln123 : ln106 (153) = 1 := (hx109.2 _ o153.1).2.trans hl
        clear hl
        have hX124 := Ex_t hX0 hx109
        refine Or.inr (Or.inl ⟨_, rfl, ?_⟩)
        refine jx_ar (pc' := 214) (st' := []) rfl rfl rfl rfl ?_
        refine jx_ld (pc' := 215) (l' := L) (st' := [.ref 66]) rfl (jl_aloadn g2) ?_
        refine rc_vi (pc' := 218) (m := m106) (G := G) (A := A) (st := []) (as := []) (by have := hC110.1; omega) rfl rfl rfl rfl ⟨rfl, rfl, (Nat.le_of_ble_eq_true rfl)⟩ rfl rfl (ri_compile (dd := d) (by omega) hR (by omega) ) (fun o V' hq => ?_)
        obtain ⟨G125, A125, r125, rfl, rfl, hR125, hp125⟩ := hq
        refine Or.inr ⟨_, rfl, ?_⟩
        have _u := hp125
        rw [← cr_V (by have := hC110.1; omega)]
        refine jx_ar (pc' := 219) (st' := []) rfl rfl rfl rfl ?_
        refine jx_go (tg := 751) rfl rfl ?_
        refine jx_inc (pc' := 754) (l' := jSto1 L 4 (.int (i32 (i + (4))))) (x := i) rfl g4 (by decide) rfl rfl ?_
        obtain ⟨L126, eL126⟩ : ∃ q : jL, q = jSto1 L 4 (.int (i32 ((i + (4))))) := ⟨_, rfl⟩
        rw [← eL126]
        have g127 : jGet L126 0 = some (.ref 63) := eL126 ▸ jg_ne (by decide) g0 rfl
        have g128 : jGet L126 1 = some (rv (64)) := eL126 ▸ jg_nr (by decide) g1
        have g129 : jGet L126 2 = some (.ref 66) := eL126 ▸ jg_ne (by decide) g2 rfl
        have g130 : jGet L126 3 = some (rv (153)) := eL126 ▸ jg_nr (by decide) g3
        have g131 : jGet L126 4 = some (.int (i32 ((i + (4))))) := eL126 ▸ jg_eq
        clear eL126
        refine jx_go (tg := 23) rfl rfl ?_
        exact ih _ (by omega) L126 G125 A125 m106 tg106 ln106 F107 ((i + (4))) (n + 1) rfl g127 g128 g129 g130 g131 hC110 c117 (SB_m c118 (by omega)) c119 hR125 ⟨ho121.1, ho121.2⟩ ⟨ho122.1, ho122.2⟩ (by omega) ((show F107 (153) ((-1) : Int) = F (153) ((-1) : Int) from hM111 _ _ o153.1 (own_z o153.1) (by rw [o153.2]; rfl)).trans s153) (by omega) (by omega) (by omega) (by omega) (by omega)
      by_cases h132 : z3 = 3
      · refine jx_swe (tg := 222) h132 rfl rfl rfl rfl ?_
        refine jx_ld (pc' := 223) (l' := L) (st' := [rv (64)]) rfl (jl_rvn g1) ?_
        refine jx_ld (pc' := 224) (l' := L) (st' := [.ref 63, rv (64)]) rfl (jl_aloadn g0) ?_
        refine jx_ld (pc' := 226) (l' := L) (st' := [.int (i32 (i)), .ref 63, rv (64)]) rfl (jl_iload g4) ?_
        refine jx_ar (pc' := 227) (st' := [.int (i32 (1)), .int (i32 (i)), .ref 63, rv (64)]) rfl rfl rfl rfl ?_
        refine jx_add (pc' := 228) rfl rfl ?_
        refine jx_sca (pc' := 229) (z := (i + 1)) rfl rfl (by omega) (by omega) hL ?_
        have b133 := sx_rg (X := X) (j := (i + 1))
        refine jx_ld (pc' := 230) (l' := L) (st' := [rv (153), .int (i32 (sx X ((i + 1)))), rv (64)]) rfl (jl_rvn g3) ?_
        refine cx_st (st := []) (as := [rv (64), .int (i32 (sx X ((i + 1)))), rv (153)]) rfl rfl rfl ⟨rfl, (Nat.le_of_ble_eq_true rfl)⟩ rfl (k_LLaw_fault (dd := d) (R := rR G A) (m := m) (tg := tg) (ln := ln) (F := F) (x := 64) (p0 := sx X ((i + 1))) (ou := 153) (hd := by omega) (hC := hC) (o_x := o64.1) (t_x := o64.2) (h_p0 := by omega) (o_ou := o153.1) (t_ou := o153.2) (s_ou := s153) (p_0 := by omega) (c_NP := c_NP) (kk := 30001 * n) (c_SB := c_SB) (c_T3 := c_T3)) (fun o V' hq => ?_)
        obtain ⟨m134, tg134, ln134, F135, r136, rfl, rfl, hx137, hC138, hM139, b140, p141, p142, c143, c144, c145, -⟩ := hq
        have hM146 : Fq 0 [(1, 1), (1, 2), (1, 3), (1, 4), (1, 5), (1, 6), (2, 7), (2, 8), (2, 9), (2, 10), (2, 11), (3, 5), (3, 6), (3, 7), (3, 8), (3, 9), (3, 10), (3, 11), (3, 12), (3, 13), (3, 14), (3, 16), (3, 17), (3, 18), (3, 19), (3, 20), (4, 0), (5, 2), (5, 3), (5, 4), (5, 5), (5, 6), (5, 7), (6, 3), (6, 4), (6, 6), (6, 7), (6, 8), (7, 3), (7, 4), (7, 5), (7, 6), (7, 9), (7, 10), (7, 11), (7, 15), (8, 10), (8, 11), (8, 12), (8, 13), (8, 14), (8, 15), (8, 16), (8, 17), (8, 18), (9, 2), (9, 3), (10, 0), (10, 1), (10, 2), (10, 5), (10, 7), (10, 8), (10, 9), (11, 7), (11, 8), (11, 9), (11, 10), (11, 11), (11, 12), (11, 13), (11, 14), (11, 15), (11, 16), (11, 17), (11, 18), (12, 2), (12, 3), (12, 4), (20, -5), (21, -5), (22, -5), (24, -5), (25, -5), (26, -5), (27, -5)] m tg F F135 := Fq_t (ln := ln) (ln1 := ln) hM0 hX0 hM139 (by decide) (Or.inl rfl)
        have ho147 : own m134 (64) ∧ tg134 (64) = 1 := Ex_o hx137 ⟨o64.1, o64.2⟩
        have ho148 : own m134 (153) ∧ tg134 (153) = 22 := Ex_o hx137 ⟨o153.1, o153.2⟩
        have ln149 : ln134 (153) = 1 := (hx137.2 _ o153.1).2.trans hl
        clear hl
        have hX150 := Ex_t hX0 hx137
        refine Or.inr (Or.inl ⟨_, rfl, ?_⟩)
        refine jx_ld (pc' := 235) (l' := jSto1 L 5 (.int (i32 (r136)))) (st' := []) rfl rfl ?_
        obtain ⟨L151, eL151⟩ : ∃ q : jL, q = jSto1 L 5 (.int (i32 (r136))) := ⟨_, rfl⟩
        rw [← eL151]
        have g152 : jGet L151 0 = some (.ref 63) := eL151 ▸ jg_ne (by decide) g0 rfl
        have g153 : jGet L151 1 = some (rv (64)) := eL151 ▸ jg_nr (by decide) g1
        have g154 : jGet L151 2 = some (.ref 66) := eL151 ▸ jg_ne (by decide) g2 rfl
        have g155 : jGet L151 3 = some (rv (153)) := eL151 ▸ jg_nr (by decide) g3
        have g156 : jGet L151 4 = some (.int (i32 (i))) := eL151 ▸ jg_ne (by decide) g4 rfl
        have g157 : jGet L151 5 = some (.int (i32 (r136))) := eL151 ▸ jg_eq
        clear eL151
        refine jx_ld (pc' := 236) (l' := L151) (st' := [.ref 66]) rfl (jl_aloadn g154) ?_
        refine jx_ld (pc' := 237) (l' := L151) (st' := [.ref 63, .ref 66]) rfl (jl_aloadn g152) ?_
        refine jx_ld (pc' := 239) (l' := L151) (st' := [.int (i32 (i)), .ref 63, .ref 66]) rfl (jl_iload g156) ?_
        refine jx_ar (pc' := 240) (st' := [.int (i32 (1)), .int (i32 (i)), .ref 63, .ref 66]) rfl rfl rfl rfl ?_
        refine jx_add (pc' := 241) rfl rfl ?_
        refine jx_sca (pc' := 242) (z := (i + 1)) rfl rfl (by omega) (by omega) hL ?_
        refine rc_vi (pc' := 245) (m := m134) (G := G) (A := A) (st := []) (as := [.int (i32 (sx X ((i + 1))))]) (by have := hC138.1; omega) rfl rfl rfl rfl ⟨rfl, rfl, (Nat.le_of_ble_eq_true rfl)⟩ rfl rfl (ri_fault (dd := d) (by omega) hR (by omega) (by omega)) (fun o V' hq => ?_)
        obtain ⟨G158, A158, r158, rfl, rfl, hR158, hp158⟩ := hq
        refine Or.inr ⟨_, rfl, ?_⟩
        have _u := hp158
        rw [← cr_V (by have := hC138.1; omega)]
        refine jx_ld (pc' := 247) (l' := jSto1 L151 6 (.int (i32 (r158)))) (st' := []) rfl rfl ?_
        obtain ⟨L159, eL159⟩ : ∃ q : jL, q = jSto1 L151 6 (.int (i32 (r158))) := ⟨_, rfl⟩
        rw [← eL159]
        have g160 : jGet L159 0 = some (.ref 63) := eL159 ▸ jg_ne (by decide) g152 rfl
        have g161 : jGet L159 1 = some (rv (64)) := eL159 ▸ jg_nr (by decide) g153
        have g162 : jGet L159 2 = some (.ref 66) := eL159 ▸ jg_ne (by decide) g154 rfl
        have g163 : jGet L159 3 = some (rv (153)) := eL159 ▸ jg_nr (by decide) g155
        have g164 : jGet L159 4 = some (.int (i32 (i))) := eL159 ▸ jg_ne (by decide) g156 rfl
        have g165 : jGet L159 5 = some (.int (i32 (r136))) := eL159 ▸ jg_ne (by decide) g157 rfl
        have g166 : jGet L159 6 = some (.int (i32 (r158))) := eL159 ▸ jg_eq
        clear eL159
        refine jx_go (tg := 751) rfl rfl ?_
        refine jx_inc (pc' := 754) (l' := jSto1 L159 4 (.int (i32 (i + (4))))) (x := i) rfl g164 (by decide) rfl rfl ?_
        obtain ⟨L167, eL167⟩ : ∃ q : jL, q = jSto1 L159 4 (.int (i32 ((i + (4))))) := ⟨_, rfl⟩
        rw [← eL167]
        have g168 : jGet L167 0 = some (.ref 63) := eL167 ▸ jg_ne (by decide) g160 rfl
        have g169 : jGet L167 1 = some (rv (64)) := eL167 ▸ jg_nr (by decide) g161
        have g170 : jGet L167 2 = some (.ref 66) := eL167 ▸ jg_ne (by decide) g162 rfl
        have g171 : jGet L167 3 = some (rv (153)) := eL167 ▸ jg_nr (by decide) g163
        have g172 : jGet L167 5 = some (.int (i32 (r136))) := eL167 ▸ jg_ne (by decide) g165 rfl
        have g173 : jGet L167 6 = some (.int (i32 (r158))) := eL167 ▸ jg_ne (by decide) g166 rfl
        have g174 : jGet L167 4 = some (.int (i32 ((i + (4))))) := eL167 ▸ jg_eq
        clear eL167
        refine jx_go (tg := 23) rfl rfl ?_
        have q175 : F135 (64) (1 : Int) = F (64) (1 : Int) := (show F135 (64) (1 : Int) = F (64) (1 : Int) from hM139 _ _ o64.1 (own_z o64.1) (by rw [o64.2]; rfl))
        have q176 : F135 (64) (5 : Int) = F (64) (5 : Int) := (show F135 (64) (5 : Int) = F (64) (5 : Int) from hM139 _ _ o64.1 (own_z o64.1) (by rw [o64.2]; rfl))
        have q177 : tz (F135 (64) (5 : Int)) = tz (F (64) (5 : Int)) := by rw [q176]
        exact ih _ (by omega) L167 G158 A158 m134 tg134 ln134 F135 ((i + (4))) (n + 1) rfl g168 g169 g170 g171 g174 hC138 c143 (SB_m c144 (by omega)) c145 hR158 ⟨ho147.1, ho147.2⟩ ⟨ho148.1, ho148.2⟩ (by omega) ((show F135 (153) ((-1) : Int) = F (153) ((-1) : Int) from hM139 _ _ o153.1 (own_z o153.1) (by rw [o153.2]; rfl)).trans s153) (by omega) (by omega) (by omega) (by omega) (by omega)
      by_cases h178 : z3 = 4
      · refine jx_swe (tg := 250) h178 rfl rfl rfl rfl ?_
        refine jx_ld (pc' := 251) (l' := L) (st' := [rv (64)]) rfl (jl_rvn g1) ?_
        refine jx_ld (pc' := 252) (l' := L) (st' := [.ref 63, rv (64)]) rfl (jl_aloadn g0) ?_
        refine jx_ld (pc' := 254) (l' := L) (st' := [.int (i32 (i)), .ref 63, rv (64)]) rfl (jl_iload g4) ?_
        refine jx_ar (pc' := 255) (st' := [.int (i32 (1)), .int (i32 (i)), .ref 63, rv (64)]) rfl rfl rfl rfl ?_
        refine jx_add (pc' := 256) rfl rfl ?_
        refine jx_sca (pc' := 257) (z := (i + 1)) rfl rfl (by omega) (by omega) hL ?_
        have b179 := sx_rg (X := X) (j := (i + 1))
        refine jx_ld (pc' := 258) (l' := L) (st' := [.ref 63, .int (i32 (sx X ((i + 1)))), rv (64)]) rfl (jl_aloadn g0) ?_
        refine jx_ld (pc' := 260) (l' := L) (st' := [.int (i32 (i)), .ref 63, .int (i32 (sx X ((i + 1)))), rv (64)]) rfl (jl_iload g4) ?_
        refine jx_ar (pc' := 261) (st' := [.int (i32 (2)), .int (i32 (i)), .ref 63, .int (i32 (sx X ((i + 1)))), rv (64)]) rfl rfl rfl rfl ?_
        refine jx_add (pc' := 262) rfl rfl ?_
        refine jx_sca (pc' := 263) (z := (i + 2)) rfl rfl (by omega) (by omega) hL ?_
        have b180 := sx_rg (X := X) (j := (i + 2))
        refine jx_ld (pc' := 264) (l' := L) (st' := [rv (153), .int (i32 (sx X ((i + 2)))), .int (i32 (sx X ((i + 1)))), rv (64)]) rfl (jl_rvn g3) ?_
        refine cx_st (st := []) (as := [rv (64), .int (i32 (sx X ((i + 1)))), .int (i32 (sx X ((i + 2)))), rv (153)]) rfl rfl rfl ⟨rfl, (Nat.le_of_ble_eq_true rfl)⟩ rfl (k_LLaw_processor (dd := d) (R := rR G A) (m := m) (tg := tg) (ln := ln) (F := F) (x := 64) (p0 := sx X ((i + 1))) (p1 := sx X ((i + 2))) (ou := 153) (hd := by omega) (hC := hC) (o_x := o64.1) (t_x := o64.2) (h_p0 := by omega) (h_p1 := by omega) (o_ou := o153.1) (t_ou := o153.2) (s_ou := s153) (p_0 := by omega) (c_NP := c_NP) (kk := 30001 * n) (c_SB := c_SB) (c_T3 := c_T3)) (fun o V' hq => ?_)
        obtain ⟨m181, tg181, ln181, F182, r183, rfl, rfl, hx184, hC185, hM186, b187, p188, p189, c190, c191, c192, -⟩ := hq
        have hM193 : Fq 0 [(1, 1), (1, 2), (1, 3), (1, 4), (1, 5), (1, 6), (2, 7), (2, 8), (2, 9), (2, 10), (2, 11), (3, 5), (3, 6), (3, 7), (3, 8), (3, 9), (3, 10), (3, 11), (3, 12), (3, 13), (3, 14), (3, 16), (3, 17), (3, 18), (3, 19), (3, 20), (4, 0), (5, 2), (5, 3), (5, 4), (5, 5), (5, 6), (5, 7), (6, 3), (6, 4), (6, 6), (6, 7), (6, 8), (7, 3), (7, 4), (7, 5), (7, 6), (7, 9), (7, 10), (7, 11), (7, 15), (8, 10), (8, 11), (8, 12), (8, 13), (8, 14), (8, 15), (8, 16), (8, 17), (8, 18), (9, 2), (9, 3), (10, 0), (10, 1), (10, 2), (10, 5), (10, 7), (10, 8), (10, 9), (11, 7), (11, 8), (11, 9), (11, 10), (11, 11), (11, 12), (11, 13), (11, 14), (11, 15), (11, 16), (11, 17), (11, 18), (12, 2), (12, 3), (12, 4), (20, -5), (21, -5), (22, -5), (24, -5), (25, -5), (26, -5), (27, -5)] m tg F F182 := Fq_t (ln := ln) (ln1 := ln) hM0 hX0 hM186 (by decide) (Or.inl rfl)
        have ho194 : own m181 (64) ∧ tg181 (64) = 1 := Ex_o hx184 ⟨o64.1, o64.2⟩
        have ho195 : own m181 (153) ∧ tg181 (153) = 22 := Ex_o hx184 ⟨o153.1, o153.2⟩
        have ln196 : ln181 (153) = 1 := (hx184.2 _ o153.1).2.trans hl
        clear hl
        have hX197 := Ex_t hX0 hx184
        refine Or.inr (Or.inl ⟨_, rfl, ?_⟩)
        refine jx_ld (pc' := 269) (l' := jSto1 L 5 (.int (i32 (r183)))) (st' := []) rfl rfl ?_
        obtain ⟨L198, eL198⟩ : ∃ q : jL, q = jSto1 L 5 (.int (i32 (r183))) := ⟨_, rfl⟩
        rw [← eL198]
        have g199 : jGet L198 0 = some (.ref 63) := eL198 ▸ jg_ne (by decide) g0 rfl
        have g200 : jGet L198 1 = some (rv (64)) := eL198 ▸ jg_nr (by decide) g1
        have g201 : jGet L198 2 = some (.ref 66) := eL198 ▸ jg_ne (by decide) g2 rfl
        have g202 : jGet L198 3 = some (rv (153)) := eL198 ▸ jg_nr (by decide) g3
        have g203 : jGet L198 4 = some (.int (i32 (i))) := eL198 ▸ jg_ne (by decide) g4 rfl
        have g204 : jGet L198 5 = some (.int (i32 (r183))) := eL198 ▸ jg_eq
        clear eL198
        refine jx_ld (pc' := 270) (l' := L198) (st' := [.ref 66]) rfl (jl_aloadn g201) ?_
        refine jx_ld (pc' := 271) (l' := L198) (st' := [.ref 63, .ref 66]) rfl (jl_aloadn g199) ?_
        refine jx_ld (pc' := 273) (l' := L198) (st' := [.int (i32 (i)), .ref 63, .ref 66]) rfl (jl_iload g203) ?_
        refine jx_ar (pc' := 274) (st' := [.int (i32 (1)), .int (i32 (i)), .ref 63, .ref 66]) rfl rfl rfl rfl ?_
        refine jx_add (pc' := 275) rfl rfl ?_
        refine jx_sca (pc' := 276) (z := (i + 1)) rfl rfl (by omega) (by omega) hL ?_
        refine jx_ld (pc' := 277) (l' := L198) (st' := [.ref 63, .int (i32 (sx X ((i + 1)))), .ref 66]) rfl (jl_aloadn g199) ?_
        refine jx_ld (pc' := 279) (l' := L198) (st' := [.int (i32 (i)), .ref 63, .int (i32 (sx X ((i + 1)))), .ref 66]) rfl (jl_iload g203) ?_
        refine jx_ar (pc' := 280) (st' := [.int (i32 (2)), .int (i32 (i)), .ref 63, .int (i32 (sx X ((i + 1)))), .ref 66]) rfl rfl rfl rfl ?_
        refine jx_add (pc' := 281) rfl rfl ?_
        refine jx_sca (pc' := 282) (z := (i + 2)) rfl rfl (by omega) (by omega) hL ?_
        refine rc_vi (pc' := 285) (m := m181) (G := G) (A := A) (st := []) (as := [.int (i32 (sx X ((i + 1)))), .int (i32 (sx X ((i + 2))))]) (by have := hC185.1; omega) rfl rfl rfl rfl ⟨rfl, rfl, (Nat.le_of_ble_eq_true rfl)⟩ rfl rfl (ri_processor (dd := d) (by omega) hR (by omega) (by omega) (by omega)) (fun o V' hq => ?_)
        obtain ⟨G205, A205, r205, rfl, rfl, hR205, hp205⟩ := hq
        refine Or.inr ⟨_, rfl, ?_⟩
        have _u := hp205
        rw [← cr_V (by have := hC185.1; omega)]
        refine jx_ld (pc' := 287) (l' := jSto1 L198 6 (.int (i32 (r205)))) (st' := []) rfl rfl ?_
        obtain ⟨L206, eL206⟩ : ∃ q : jL, q = jSto1 L198 6 (.int (i32 (r205))) := ⟨_, rfl⟩
        rw [← eL206]
        have g207 : jGet L206 0 = some (.ref 63) := eL206 ▸ jg_ne (by decide) g199 rfl
        have g208 : jGet L206 1 = some (rv (64)) := eL206 ▸ jg_nr (by decide) g200
        have g209 : jGet L206 2 = some (.ref 66) := eL206 ▸ jg_ne (by decide) g201 rfl
        have g210 : jGet L206 3 = some (rv (153)) := eL206 ▸ jg_nr (by decide) g202
        have g211 : jGet L206 4 = some (.int (i32 (i))) := eL206 ▸ jg_ne (by decide) g203 rfl
        have g212 : jGet L206 5 = some (.int (i32 (r183))) := eL206 ▸ jg_ne (by decide) g204 rfl
        have g213 : jGet L206 6 = some (.int (i32 (r205))) := eL206 ▸ jg_eq
        clear eL206
        refine jx_go (tg := 751) rfl rfl ?_
        refine jx_inc (pc' := 754) (l' := jSto1 L206 4 (.int (i32 (i + (4))))) (x := i) rfl g211 (by decide) rfl rfl ?_
        obtain ⟨L214, eL214⟩ : ∃ q : jL, q = jSto1 L206 4 (.int (i32 ((i + (4))))) := ⟨_, rfl⟩
        rw [← eL214]
        have g215 : jGet L214 0 = some (.ref 63) := eL214 ▸ jg_ne (by decide) g207 rfl
        have g216 : jGet L214 1 = some (rv (64)) := eL214 ▸ jg_nr (by decide) g208
        have g217 : jGet L214 2 = some (.ref 66) := eL214 ▸ jg_ne (by decide) g209 rfl
        have g218 : jGet L214 3 = some (rv (153)) := eL214 ▸ jg_nr (by decide) g210
        have g219 : jGet L214 5 = some (.int (i32 (r183))) := eL214 ▸ jg_ne (by decide) g212 rfl
        have g220 : jGet L214 6 = some (.int (i32 (r205))) := eL214 ▸ jg_ne (by decide) g213 rfl
        have g221 : jGet L214 4 = some (.int (i32 ((i + (4))))) := eL214 ▸ jg_eq
        clear eL214
        refine jx_go (tg := 23) rfl rfl ?_
        have q222 : F182 (64) (1 : Int) = F (64) (1 : Int) := (show F182 (64) (1 : Int) = F (64) (1 : Int) from hM186 _ _ o64.1 (own_z o64.1) (by rw [o64.2]; rfl))
        have q223 : F182 (64) (5 : Int) = F (64) (5 : Int) := (show F182 (64) (5 : Int) = F (64) (5 : Int) from hM186 _ _ o64.1 (own_z o64.1) (by rw [o64.2]; rfl))
        have q224 : tz (F182 (64) (5 : Int)) = tz (F (64) (5 : Int)) := by rw [q223]
        exact ih _ (by omega) L214 G205 A205 m181 tg181 ln181 F182 ((i + (4))) (n + 1) rfl g215 g216 g217 g218 g221 hC185 c190 (SB_m c191 (by omega)) c192 hR205 ⟨ho194.1, ho194.2⟩ ⟨ho195.1, ho195.2⟩ (by omega) ((show F182 (153) ((-1) : Int) = F (153) ((-1) : Int) from hM186 _ _ o153.1 (own_z o153.1) (by rw [o153.2]; rfl)).trans s153) (by omega) (by omega) (by omega) (by omega) (by omega)
      by_cases h225 : z3 = 5
      · refine jx_swe (tg := 290) h225 rfl rfl rfl rfl ?_
        refine jx_ld (pc' := 291) (l' := L) (st' := [rv (64)]) rfl (jl_rvn g1) ?_
        refine jx_ld (pc' := 292) (l' := L) (st' := [.ref 63, rv (64)]) rfl (jl_aloadn g0) ?_
        refine jx_ld (pc' := 294) (l' := L) (st' := [.int (i32 (i)), .ref 63, rv (64)]) rfl (jl_iload g4) ?_
        refine jx_ar (pc' := 295) (st' := [.int (i32 (1)), .int (i32 (i)), .ref 63, rv (64)]) rfl rfl rfl rfl ?_
        refine jx_add (pc' := 296) rfl rfl ?_
        refine jx_sca (pc' := 297) (z := (i + 1)) rfl rfl (by omega) (by omega) hL ?_
        have b226 := sx_rg (X := X) (j := (i + 1))
        refine jx_ld (pc' := 298) (l' := L) (st' := [.ref 63, .int (i32 (sx X ((i + 1)))), rv (64)]) rfl (jl_aloadn g0) ?_
        refine jx_ld (pc' := 300) (l' := L) (st' := [.int (i32 (i)), .ref 63, .int (i32 (sx X ((i + 1)))), rv (64)]) rfl (jl_iload g4) ?_
        refine jx_ar (pc' := 301) (st' := [.int (i32 (2)), .int (i32 (i)), .ref 63, .int (i32 (sx X ((i + 1)))), rv (64)]) rfl rfl rfl rfl ?_
        refine jx_add (pc' := 302) rfl rfl ?_
        refine jx_sca (pc' := 303) (z := (i + 2)) rfl rfl (by omega) (by omega) hL ?_
        have b227 := sx_rg (X := X) (j := (i + 2))
        refine jx_ld (pc' := 304) (l' := L) (st' := [rv (153), .int (i32 (sx X ((i + 2)))), .int (i32 (sx X ((i + 1)))), rv (64)]) rfl (jl_rvn g3) ?_
        refine cx_st (st := []) (as := [rv (64), .int (i32 (sx X ((i + 1)))), .int (i32 (sx X ((i + 2)))), rv (153)]) rfl rfl rfl ⟨rfl, (Nat.le_of_ble_eq_true rfl)⟩ rfl (k_LLaw_code (dd := d) (R := rR G A) (m := m) (tg := tg) (ln := ln) (F := F) (x := 64) (p0 := sx X ((i + 1))) (p1 := sx X ((i + 2))) (ou := 153) (hd := by omega) (hC := hC) (o_x := o64.1) (t_x := o64.2) (h_p0 := by omega) (h_p1 := by omega) (o_ou := o153.1) (t_ou := o153.2) (s_ou := s153) (p_0 := by omega) (c_NP := c_NP) (kk := 30001 * n) (c_SB := c_SB) (c_T3 := c_T3)) (fun o V' hq => ?_)
        obtain ⟨m228, tg228, ln228, F229, r230, rfl, rfl, hx231, hC232, hM233, b234, p235, p236, c237, c238, c239, -⟩ := hq
        have hM240 : Fq 0 [(1, 1), (1, 2), (1, 3), (1, 4), (1, 5), (1, 6), (2, 7), (2, 8), (2, 9), (2, 10), (2, 11), (3, 5), (3, 6), (3, 7), (3, 8), (3, 9), (3, 10), (3, 11), (3, 12), (3, 13), (3, 14), (3, 16), (3, 17), (3, 18), (3, 19), (3, 20), (4, 0), (5, 2), (5, 3), (5, 4), (5, 5), (5, 6), (5, 7), (6, 3), (6, 4), (6, 6), (6, 7), (6, 8), (7, 3), (7, 4), (7, 5), (7, 6), (7, 9), (7, 10), (7, 11), (7, 15), (8, 10), (8, 11), (8, 12), (8, 13), (8, 14), (8, 15), (8, 16), (8, 17), (8, 18), (9, 2), (9, 3), (10, 0), (10, 1), (10, 2), (10, 5), (10, 7), (10, 8), (10, 9), (11, 7), (11, 8), (11, 9), (11, 10), (11, 11), (11, 12), (11, 13), (11, 14), (11, 15), (11, 16), (11, 17), (11, 18), (12, 2), (12, 3), (12, 4), (20, -5), (21, -5), (22, -5), (24, -5), (25, -5), (26, -5), (27, -5)] m tg F F229 := Fq_t (ln := ln) (ln1 := ln) hM0 hX0 hM233 (by decide) (Or.inl rfl)
        have ho241 : own m228 (64) ∧ tg228 (64) = 1 := Ex_o hx231 ⟨o64.1, o64.2⟩
        have ho242 : own m228 (153) ∧ tg228 (153) = 22 := Ex_o hx231 ⟨o153.1, o153.2⟩
        have ln243 : ln228 (153) = 1 := (hx231.2 _ o153.1).2.trans hl
        clear hl
        have hX244 := Ex_t hX0 hx231
        refine Or.inr (Or.inl ⟨_, rfl, ?_⟩)
        refine jx_ld (pc' := 309) (l' := jSto1 L 5 (.int (i32 (r230)))) (st' := []) rfl rfl ?_
        obtain ⟨L245, eL245⟩ : ∃ q : jL, q = jSto1 L 5 (.int (i32 (r230))) := ⟨_, rfl⟩
        rw [← eL245]
        have g246 : jGet L245 0 = some (.ref 63) := eL245 ▸ jg_ne (by decide) g0 rfl
        have g247 : jGet L245 1 = some (rv (64)) := eL245 ▸ jg_nr (by decide) g1
        have g248 : jGet L245 2 = some (.ref 66) := eL245 ▸ jg_ne (by decide) g2 rfl
        have g249 : jGet L245 3 = some (rv (153)) := eL245 ▸ jg_nr (by decide) g3
        have g250 : jGet L245 4 = some (.int (i32 (i))) := eL245 ▸ jg_ne (by decide) g4 rfl
        have g251 : jGet L245 5 = some (.int (i32 (r230))) := eL245 ▸ jg_eq
        clear eL245
        refine jx_ld (pc' := 310) (l' := L245) (st' := [.ref 66]) rfl (jl_aloadn g248) ?_
        refine jx_ld (pc' := 311) (l' := L245) (st' := [.ref 63, .ref 66]) rfl (jl_aloadn g246) ?_
        refine jx_ld (pc' := 313) (l' := L245) (st' := [.int (i32 (i)), .ref 63, .ref 66]) rfl (jl_iload g250) ?_
        refine jx_ar (pc' := 314) (st' := [.int (i32 (1)), .int (i32 (i)), .ref 63, .ref 66]) rfl rfl rfl rfl ?_
        refine jx_add (pc' := 315) rfl rfl ?_
        refine jx_sca (pc' := 316) (z := (i + 1)) rfl rfl (by omega) (by omega) hL ?_
        refine jx_ld (pc' := 317) (l' := L245) (st' := [.ref 63, .int (i32 (sx X ((i + 1)))), .ref 66]) rfl (jl_aloadn g246) ?_
        refine jx_ld (pc' := 319) (l' := L245) (st' := [.int (i32 (i)), .ref 63, .int (i32 (sx X ((i + 1)))), .ref 66]) rfl (jl_iload g250) ?_
        refine jx_ar (pc' := 320) (st' := [.int (i32 (2)), .int (i32 (i)), .ref 63, .int (i32 (sx X ((i + 1)))), .ref 66]) rfl rfl rfl rfl ?_
        refine jx_add (pc' := 321) rfl rfl ?_
        refine jx_sca (pc' := 322) (z := (i + 2)) rfl rfl (by omega) (by omega) hL ?_
        refine rc_vi (pc' := 325) (m := m228) (G := G) (A := A) (st := []) (as := [.int (i32 (sx X ((i + 1)))), .int (i32 (sx X ((i + 2))))]) (by have := hC232.1; omega) rfl rfl rfl rfl ⟨rfl, rfl, (Nat.le_of_ble_eq_true rfl)⟩ rfl rfl (ri_code (dd := d) (by omega) hR (by omega) (by omega) (by omega)) (fun o V' hq => ?_)
        obtain ⟨G252, A252, r252, rfl, rfl, hR252, hp252⟩ := hq
        refine Or.inr ⟨_, rfl, ?_⟩
        have _u := hp252
        rw [← cr_V (by have := hC232.1; omega)]
        refine jx_ld (pc' := 327) (l' := jSto1 L245 6 (.int (i32 (r252)))) (st' := []) rfl rfl ?_
        obtain ⟨L253, eL253⟩ : ∃ q : jL, q = jSto1 L245 6 (.int (i32 (r252))) := ⟨_, rfl⟩
        rw [← eL253]
        have g254 : jGet L253 0 = some (.ref 63) := eL253 ▸ jg_ne (by decide) g246 rfl
        have g255 : jGet L253 1 = some (rv (64)) := eL253 ▸ jg_nr (by decide) g247
        have g256 : jGet L253 2 = some (.ref 66) := eL253 ▸ jg_ne (by decide) g248 rfl
        have g257 : jGet L253 3 = some (rv (153)) := eL253 ▸ jg_nr (by decide) g249
        have g258 : jGet L253 4 = some (.int (i32 (i))) := eL253 ▸ jg_ne (by decide) g250 rfl
        have g259 : jGet L253 5 = some (.int (i32 (r230))) := eL253 ▸ jg_ne (by decide) g251 rfl
        have g260 : jGet L253 6 = some (.int (i32 (r252))) := eL253 ▸ jg_eq
        clear eL253
        refine jx_go (tg := 751) rfl rfl ?_
        refine jx_inc (pc' := 754) (l' := jSto1 L253 4 (.int (i32 (i + (4))))) (x := i) rfl g258 (by decide) rfl rfl ?_
        obtain ⟨L261, eL261⟩ : ∃ q : jL, q = jSto1 L253 4 (.int (i32 ((i + (4))))) := ⟨_, rfl⟩
        rw [← eL261]
        have g262 : jGet L261 0 = some (.ref 63) := eL261 ▸ jg_ne (by decide) g254 rfl
        have g263 : jGet L261 1 = some (rv (64)) := eL261 ▸ jg_nr (by decide) g255
        have g264 : jGet L261 2 = some (.ref 66) := eL261 ▸ jg_ne (by decide) g256 rfl
        have g265 : jGet L261 3 = some (rv (153)) := eL261 ▸ jg_nr (by decide) g257
        have g266 : jGet L261 5 = some (.int (i32 (r230))) := eL261 ▸ jg_ne (by decide) g259 rfl
        have g267 : jGet L261 6 = some (.int (i32 (r252))) := eL261 ▸ jg_ne (by decide) g260 rfl
        have g268 : jGet L261 4 = some (.int (i32 ((i + (4))))) := eL261 ▸ jg_eq
        clear eL261
        refine jx_go (tg := 23) rfl rfl ?_
        have q269 : F229 (64) (1 : Int) = F (64) (1 : Int) := (show F229 (64) (1 : Int) = F (64) (1 : Int) from hM233 _ _ o64.1 (own_z o64.1) (by rw [o64.2]; rfl))
        have q270 : F229 (64) (5 : Int) = F (64) (5 : Int) := (show F229 (64) (5 : Int) = F (64) (5 : Int) from hM233 _ _ o64.1 (own_z o64.1) (by rw [o64.2]; rfl))
        have q271 : tz (F229 (64) (5 : Int)) = tz (F (64) (5 : Int)) := by rw [q270]
        exact ih _ (by omega) L261 G252 A252 m228 tg228 ln228 F229 ((i + (4))) (n + 1) rfl g262 g263 g264 g265 g268 hC232 c237 (SB_m c238 (by omega)) c239 hR252 ⟨ho241.1, ho241.2⟩ ⟨ho242.1, ho242.2⟩ (by omega) ((show F229 (153) ((-1) : Int) = F (153) ((-1) : Int) from hM233 _ _ o153.1 (own_z o153.1) (by rw [o153.2]; rfl)).trans s153) (by omega) (by omega) (by omega) (by omega) (by omega)
      by_cases h272 : z3 = 6
      · refine jx_swe (tg := 330) h272 rfl rfl rfl rfl ?_
        refine jx_ld (pc' := 331) (l' := L) (st' := [rv (64)]) rfl (jl_rvn g1) ?_
        refine jx_ld (pc' := 332) (l' := L) (st' := [.ref 63, rv (64)]) rfl (jl_aloadn g0) ?_
        refine jx_ld (pc' := 334) (l' := L) (st' := [.int (i32 (i)), .ref 63, rv (64)]) rfl (jl_iload g4) ?_
        refine jx_ar (pc' := 335) (st' := [.int (i32 (1)), .int (i32 (i)), .ref 63, rv (64)]) rfl rfl rfl rfl ?_
        refine jx_add (pc' := 336) rfl rfl ?_
        refine jx_sca (pc' := 337) (z := (i + 1)) rfl rfl (by omega) (by omega) hL ?_
        have b273 := sx_rg (X := X) (j := (i + 1))
        refine jx_ld (pc' := 338) (l' := L) (st' := [.ref 63, .int (i32 (sx X ((i + 1)))), rv (64)]) rfl (jl_aloadn g0) ?_
        refine jx_ld (pc' := 340) (l' := L) (st' := [.int (i32 (i)), .ref 63, .int (i32 (sx X ((i + 1)))), rv (64)]) rfl (jl_iload g4) ?_
        refine jx_ar (pc' := 341) (st' := [.int (i32 (2)), .int (i32 (i)), .ref 63, .int (i32 (sx X ((i + 1)))), rv (64)]) rfl rfl rfl rfl ?_
        refine jx_add (pc' := 342) rfl rfl ?_
        refine jx_sca (pc' := 343) (z := (i + 2)) rfl rfl (by omega) (by omega) hL ?_
        have b274 := sx_rg (X := X) (j := (i + 2))
        refine jx_ld (pc' := 344) (l' := L) (st' := [.ref 63, .int (i32 (sx X ((i + 2)))), .int (i32 (sx X ((i + 1)))), rv (64)]) rfl (jl_aloadn g0) ?_
        refine jx_ld (pc' := 346) (l' := L) (st' := [.int (i32 (i)), .ref 63, .int (i32 (sx X ((i + 2)))), .int (i32 (sx X ((i + 1)))), rv (64)]) rfl (jl_iload g4) ?_
        refine jx_ar (pc' := 347) (st' := [.int (i32 (3)), .int (i32 (i)), .ref 63, .int (i32 (sx X ((i + 2)))), .int (i32 (sx X ((i + 1)))), rv (64)]) rfl rfl rfl rfl ?_
        refine jx_add (pc' := 348) rfl rfl ?_
        refine jx_sca (pc' := 349) (z := (i + 3)) rfl rfl (by omega) (by omega) hL ?_
        have b275 := sx_rg (X := X) (j := (i + 3))
        refine jx_ld (pc' := 350) (l' := L) (st' := [rv (153), .int (i32 (sx X ((i + 3)))), .int (i32 (sx X ((i + 2)))), .int (i32 (sx X ((i + 1)))), rv (64)]) rfl (jl_rvn g3) ?_
        refine cx_st (st := []) (as := [rv (64), .int (i32 (sx X ((i + 1)))), .int (i32 (sx X ((i + 2)))), .int (i32 (sx X ((i + 3)))), rv (153)]) rfl rfl rfl ⟨rfl, (Nat.le_of_ble_eq_true rfl)⟩ rfl (k_LLaw_instruction (dd := d) (R := rR G A) (m := m) (tg := tg) (ln := ln) (F := F) (x := 64) (p0 := sx X ((i + 1))) (p1 := sx X ((i + 2))) (p2 := sx X ((i + 3))) (ou := 153) (hd := by omega) (hC := hC) (o_x := o64.1) (t_x := o64.2) (h_p0 := by omega) (h_p1 := by omega) (h_p2 := by omega) (o_ou := o153.1) (t_ou := o153.2) (s_ou := s153) (p_0 := by omega) (c_NP := c_NP) (kk := 30001 * n) (c_SB := c_SB) (c_T3 := c_T3)) (fun o V' hq => ?_)
        obtain ⟨m276, tg276, ln276, F277, r278, rfl, rfl, hx279, hC280, hM281, b282, p283, p284, c285, c286, c287, -⟩ := hq
        have hM288 : Fq 0 [(1, 1), (1, 2), (1, 3), (1, 4), (1, 5), (1, 6), (2, 7), (2, 8), (2, 9), (2, 10), (2, 11), (3, 5), (3, 6), (3, 7), (3, 8), (3, 9), (3, 10), (3, 11), (3, 12), (3, 13), (3, 14), (3, 16), (3, 17), (3, 18), (3, 19), (3, 20), (4, 0), (5, 2), (5, 3), (5, 4), (5, 5), (5, 6), (5, 7), (6, 3), (6, 4), (6, 6), (6, 7), (6, 8), (7, 3), (7, 4), (7, 5), (7, 6), (7, 9), (7, 10), (7, 11), (7, 15), (8, 10), (8, 11), (8, 12), (8, 13), (8, 14), (8, 15), (8, 16), (8, 17), (8, 18), (9, 2), (9, 3), (10, 0), (10, 1), (10, 2), (10, 5), (10, 7), (10, 8), (10, 9), (11, 7), (11, 8), (11, 9), (11, 10), (11, 11), (11, 12), (11, 13), (11, 14), (11, 15), (11, 16), (11, 17), (11, 18), (12, 2), (12, 3), (12, 4), (20, -5), (21, -5), (22, -5), (24, -5), (25, -5), (26, -5), (27, -5)] m tg F F277 := Fq_t (ln := ln) (ln1 := ln) hM0 hX0 hM281 (by decide) (Or.inl rfl)
        have ho289 : own m276 (64) ∧ tg276 (64) = 1 := Ex_o hx279 ⟨o64.1, o64.2⟩
        have ho290 : own m276 (153) ∧ tg276 (153) = 22 := Ex_o hx279 ⟨o153.1, o153.2⟩
        have ln291 : ln276 (153) = 1 := (hx279.2 _ o153.1).2.trans hl
        clear hl
        have hX292 := Ex_t hX0 hx279
        refine Or.inr (Or.inl ⟨_, rfl, ?_⟩)
        refine jx_ld (pc' := 355) (l' := jSto1 L 5 (.int (i32 (r278)))) (st' := []) rfl rfl ?_
        obtain ⟨L293, eL293⟩ : ∃ q : jL, q = jSto1 L 5 (.int (i32 (r278))) := ⟨_, rfl⟩
        rw [← eL293]
        have g294 : jGet L293 0 = some (.ref 63) := eL293 ▸ jg_ne (by decide) g0 rfl
        have g295 : jGet L293 1 = some (rv (64)) := eL293 ▸ jg_nr (by decide) g1
        have g296 : jGet L293 2 = some (.ref 66) := eL293 ▸ jg_ne (by decide) g2 rfl
        have g297 : jGet L293 3 = some (rv (153)) := eL293 ▸ jg_nr (by decide) g3
        have g298 : jGet L293 4 = some (.int (i32 (i))) := eL293 ▸ jg_ne (by decide) g4 rfl
        have g299 : jGet L293 5 = some (.int (i32 (r278))) := eL293 ▸ jg_eq
        clear eL293
        refine jx_ld (pc' := 356) (l' := L293) (st' := [.ref 66]) rfl (jl_aloadn g296) ?_
        refine jx_ld (pc' := 357) (l' := L293) (st' := [.ref 63, .ref 66]) rfl (jl_aloadn g294) ?_
        refine jx_ld (pc' := 359) (l' := L293) (st' := [.int (i32 (i)), .ref 63, .ref 66]) rfl (jl_iload g298) ?_
        refine jx_ar (pc' := 360) (st' := [.int (i32 (1)), .int (i32 (i)), .ref 63, .ref 66]) rfl rfl rfl rfl ?_
        refine jx_add (pc' := 361) rfl rfl ?_
        refine jx_sca (pc' := 362) (z := (i + 1)) rfl rfl (by omega) (by omega) hL ?_
        refine jx_ld (pc' := 363) (l' := L293) (st' := [.ref 63, .int (i32 (sx X ((i + 1)))), .ref 66]) rfl (jl_aloadn g294) ?_
        refine jx_ld (pc' := 365) (l' := L293) (st' := [.int (i32 (i)), .ref 63, .int (i32 (sx X ((i + 1)))), .ref 66]) rfl (jl_iload g298) ?_
        refine jx_ar (pc' := 366) (st' := [.int (i32 (2)), .int (i32 (i)), .ref 63, .int (i32 (sx X ((i + 1)))), .ref 66]) rfl rfl rfl rfl ?_
        refine jx_add (pc' := 367) rfl rfl ?_
        refine jx_sca (pc' := 368) (z := (i + 2)) rfl rfl (by omega) (by omega) hL ?_
        refine jx_ld (pc' := 369) (l' := L293) (st' := [.ref 63, .int (i32 (sx X ((i + 2)))), .int (i32 (sx X ((i + 1)))), .ref 66]) rfl (jl_aloadn g294) ?_
        refine jx_ld (pc' := 371) (l' := L293) (st' := [.int (i32 (i)), .ref 63, .int (i32 (sx X ((i + 2)))), .int (i32 (sx X ((i + 1)))), .ref 66]) rfl (jl_iload g298) ?_
        refine jx_ar (pc' := 372) (st' := [.int (i32 (3)), .int (i32 (i)), .ref 63, .int (i32 (sx X ((i + 2)))), .int (i32 (sx X ((i + 1)))), .ref 66]) rfl rfl rfl rfl ?_
        refine jx_add (pc' := 373) rfl rfl ?_
        refine jx_sca (pc' := 374) (z := (i + 3)) rfl rfl (by omega) (by omega) hL ?_
        refine rc_vi (pc' := 377) (m := m276) (G := G) (A := A) (st := []) (as := [.int (i32 (sx X ((i + 1)))), .int (i32 (sx X ((i + 2)))), .int (i32 (sx X ((i + 3))))]) (by have := hC280.1; omega) rfl rfl rfl rfl ⟨rfl, rfl, (Nat.le_of_ble_eq_true rfl)⟩ rfl rfl (ri_instruction (dd := d) (by omega) hR (by omega) (by omega) (by omega) (by omega)) (fun o V' hq => ?_)
        obtain ⟨G300, A300, r300, rfl, rfl, hR300, hp300⟩ := hq
        refine Or.inr ⟨_, rfl, ?_⟩
        have _u := hp300
        rw [← cr_V (by have := hC280.1; omega)]
        refine jx_ld (pc' := 379) (l' := jSto1 L293 6 (.int (i32 (r300)))) (st' := []) rfl rfl ?_
        obtain ⟨L301, eL301⟩ : ∃ q : jL, q = jSto1 L293 6 (.int (i32 (r300))) := ⟨_, rfl⟩
        rw [← eL301]
        have g302 : jGet L301 0 = some (.ref 63) := eL301 ▸ jg_ne (by decide) g294 rfl
        have g303 : jGet L301 1 = some (rv (64)) := eL301 ▸ jg_nr (by decide) g295
        have g304 : jGet L301 2 = some (.ref 66) := eL301 ▸ jg_ne (by decide) g296 rfl
        have g305 : jGet L301 3 = some (rv (153)) := eL301 ▸ jg_nr (by decide) g297
        have g306 : jGet L301 4 = some (.int (i32 (i))) := eL301 ▸ jg_ne (by decide) g298 rfl
        have g307 : jGet L301 5 = some (.int (i32 (r278))) := eL301 ▸ jg_ne (by decide) g299 rfl
        have g308 : jGet L301 6 = some (.int (i32 (r300))) := eL301 ▸ jg_eq
        clear eL301
        refine jx_go (tg := 751) rfl rfl ?_
        refine jx_inc (pc' := 754) (l' := jSto1 L301 4 (.int (i32 (i + (4))))) (x := i) rfl g306 (by decide) rfl rfl ?_
        obtain ⟨L309, eL309⟩ : ∃ q : jL, q = jSto1 L301 4 (.int (i32 ((i + (4))))) := ⟨_, rfl⟩
        rw [← eL309]
        have g310 : jGet L309 0 = some (.ref 63) := eL309 ▸ jg_ne (by decide) g302 rfl
        have g311 : jGet L309 1 = some (rv (64)) := eL309 ▸ jg_nr (by decide) g303
        have g312 : jGet L309 2 = some (.ref 66) := eL309 ▸ jg_ne (by decide) g304 rfl
        have g313 : jGet L309 3 = some (rv (153)) := eL309 ▸ jg_nr (by decide) g305
        have g314 : jGet L309 5 = some (.int (i32 (r278))) := eL309 ▸ jg_ne (by decide) g307 rfl
        have g315 : jGet L309 6 = some (.int (i32 (r300))) := eL309 ▸ jg_ne (by decide) g308 rfl
        have g316 : jGet L309 4 = some (.int (i32 ((i + (4))))) := eL309 ▸ jg_eq
        clear eL309
        refine jx_go (tg := 23) rfl rfl ?_
        have q317 : F277 (64) (1 : Int) = F (64) (1 : Int) := (show F277 (64) (1 : Int) = F (64) (1 : Int) from hM281 _ _ o64.1 (own_z o64.1) (by rw [o64.2]; rfl))
        have q318 : F277 (64) (5 : Int) = F (64) (5 : Int) := (show F277 (64) (5 : Int) = F (64) (5 : Int) from hM281 _ _ o64.1 (own_z o64.1) (by rw [o64.2]; rfl))
        have q319 : tz (F277 (64) (5 : Int)) = tz (F (64) (5 : Int)) := by rw [q318]
        exact ih _ (by omega) L309 G300 A300 m276 tg276 ln276 F277 ((i + (4))) (n + 1) rfl g310 g311 g312 g313 g316 hC280 c285 (SB_m c286 (by omega)) c287 hR300 ⟨ho289.1, ho289.2⟩ ⟨ho290.1, ho290.2⟩ (by omega) ((show F277 (153) ((-1) : Int) = F (153) ((-1) : Int) from hM281 _ _ o153.1 (own_z o153.1) (by rw [o153.2]; rfl)).trans s153) (by omega) (by omega) (by omega) (by omega) (by omega)
      by_cases h320 : z3 = 7
      · refine jx_swe (tg := 382) h320 rfl rfl rfl rfl ?_
        refine jx_ld (pc' := 383) (l' := L) (st' := [rv (64)]) rfl (jl_rvn g1) ?_
        refine jx_ld (pc' := 384) (l' := L) (st' := [.ref 63, rv (64)]) rfl (jl_aloadn g0) ?_
        refine jx_ld (pc' := 386) (l' := L) (st' := [.int (i32 (i)), .ref 63, rv (64)]) rfl (jl_iload g4) ?_
        refine jx_ar (pc' := 387) (st' := [.int (i32 (1)), .int (i32 (i)), .ref 63, rv (64)]) rfl rfl rfl rfl ?_
        refine jx_add (pc' := 388) rfl rfl ?_
        refine jx_sca (pc' := 389) (z := (i + 1)) rfl rfl (by omega) (by omega) hL ?_
        have b321 := sx_rg (X := X) (j := (i + 1))
        refine jx_ld (pc' := 390) (l' := L) (st' := [.ref 63, .int (i32 (sx X ((i + 1)))), rv (64)]) rfl (jl_aloadn g0) ?_
        refine jx_ld (pc' := 392) (l' := L) (st' := [.int (i32 (i)), .ref 63, .int (i32 (sx X ((i + 1)))), rv (64)]) rfl (jl_iload g4) ?_
        refine jx_ar (pc' := 393) (st' := [.int (i32 (2)), .int (i32 (i)), .ref 63, .int (i32 (sx X ((i + 1)))), rv (64)]) rfl rfl rfl rfl ?_
        refine jx_add (pc' := 394) rfl rfl ?_
        refine jx_sca (pc' := 395) (z := (i + 2)) rfl rfl (by omega) (by omega) hL ?_
        have b322 := sx_rg (X := X) (j := (i + 2))
        refine jx_ld (pc' := 396) (l' := L) (st' := [rv (153), .int (i32 (sx X ((i + 2)))), .int (i32 (sx X ((i + 1)))), rv (64)]) rfl (jl_rvn g3) ?_
        refine cx_st (st := []) (as := [rv (64), .int (i32 (sx X ((i + 1)))), .int (i32 (sx X ((i + 2)))), rv (153)]) rfl rfl rfl ⟨rfl, (Nat.le_of_ble_eq_true rfl)⟩ rfl (k_LLaw_link (dd := d) (R := rR G A) (m := m) (tg := tg) (ln := ln) (F := F) (x := 64) (p0 := sx X ((i + 1))) (p1 := sx X ((i + 2))) (ou := 153) (hd := by omega) (hC := hC) (o_x := o64.1) (t_x := o64.2) (h_p0 := by omega) (h_p1 := by omega) (o_ou := o153.1) (t_ou := o153.2) (s_ou := s153) (p_0 := by omega) (c_NP := c_NP) (kk := 30001 * n) (c_SB := c_SB) (c_T3 := c_T3)) (fun o V' hq => ?_)
        obtain ⟨m323, tg323, ln323, F324, r325, rfl, rfl, hx326, hC327, hM328, b329, p330, p331, c332, c333, c334, -⟩ := hq
        have hM335 : Fq 0 [(1, 1), (1, 2), (1, 3), (1, 4), (1, 5), (1, 6), (2, 7), (2, 8), (2, 9), (2, 10), (2, 11), (3, 5), (3, 6), (3, 7), (3, 8), (3, 9), (3, 10), (3, 11), (3, 12), (3, 13), (3, 14), (3, 16), (3, 17), (3, 18), (3, 19), (3, 20), (4, 0), (5, 2), (5, 3), (5, 4), (5, 5), (5, 6), (5, 7), (6, 3), (6, 4), (6, 6), (6, 7), (6, 8), (7, 3), (7, 4), (7, 5), (7, 6), (7, 9), (7, 10), (7, 11), (7, 15), (8, 10), (8, 11), (8, 12), (8, 13), (8, 14), (8, 15), (8, 16), (8, 17), (8, 18), (9, 2), (9, 3), (10, 0), (10, 1), (10, 2), (10, 5), (10, 7), (10, 8), (10, 9), (11, 7), (11, 8), (11, 9), (11, 10), (11, 11), (11, 12), (11, 13), (11, 14), (11, 15), (11, 16), (11, 17), (11, 18), (12, 2), (12, 3), (12, 4), (20, -5), (21, -5), (22, -5), (24, -5), (25, -5), (26, -5), (27, -5)] m tg F F324 := Fq_t (ln := ln) (ln1 := ln) hM0 hX0 hM328 (by decide) (Or.inl rfl)
        have ho336 : own m323 (64) ∧ tg323 (64) = 1 := Ex_o hx326 ⟨o64.1, o64.2⟩
        have ho337 : own m323 (153) ∧ tg323 (153) = 22 := Ex_o hx326 ⟨o153.1, o153.2⟩
        have ln338 : ln323 (153) = 1 := (hx326.2 _ o153.1).2.trans hl
        clear hl
        have hX339 := Ex_t hX0 hx326
        refine Or.inr (Or.inl ⟨_, rfl, ?_⟩)
        refine jx_ld (pc' := 401) (l' := jSto1 L 5 (.int (i32 (r325)))) (st' := []) rfl rfl ?_
        obtain ⟨L340, eL340⟩ : ∃ q : jL, q = jSto1 L 5 (.int (i32 (r325))) := ⟨_, rfl⟩
        rw [← eL340]
        have g341 : jGet L340 0 = some (.ref 63) := eL340 ▸ jg_ne (by decide) g0 rfl
        have g342 : jGet L340 1 = some (rv (64)) := eL340 ▸ jg_nr (by decide) g1
        have g343 : jGet L340 2 = some (.ref 66) := eL340 ▸ jg_ne (by decide) g2 rfl
        have g344 : jGet L340 3 = some (rv (153)) := eL340 ▸ jg_nr (by decide) g3
        have g345 : jGet L340 4 = some (.int (i32 (i))) := eL340 ▸ jg_ne (by decide) g4 rfl
        have g346 : jGet L340 5 = some (.int (i32 (r325))) := eL340 ▸ jg_eq
        clear eL340
        refine jx_ld (pc' := 402) (l' := L340) (st' := [.ref 66]) rfl (jl_aloadn g343) ?_
        refine jx_ld (pc' := 403) (l' := L340) (st' := [.ref 63, .ref 66]) rfl (jl_aloadn g341) ?_
        refine jx_ld (pc' := 405) (l' := L340) (st' := [.int (i32 (i)), .ref 63, .ref 66]) rfl (jl_iload g345) ?_
        refine jx_ar (pc' := 406) (st' := [.int (i32 (1)), .int (i32 (i)), .ref 63, .ref 66]) rfl rfl rfl rfl ?_
        refine jx_add (pc' := 407) rfl rfl ?_
        refine jx_sca (pc' := 408) (z := (i + 1)) rfl rfl (by omega) (by omega) hL ?_
        refine jx_ld (pc' := 409) (l' := L340) (st' := [.ref 63, .int (i32 (sx X ((i + 1)))), .ref 66]) rfl (jl_aloadn g341) ?_
        refine jx_ld (pc' := 411) (l' := L340) (st' := [.int (i32 (i)), .ref 63, .int (i32 (sx X ((i + 1)))), .ref 66]) rfl (jl_iload g345) ?_
        refine jx_ar (pc' := 412) (st' := [.int (i32 (2)), .int (i32 (i)), .ref 63, .int (i32 (sx X ((i + 1)))), .ref 66]) rfl rfl rfl rfl ?_
        refine jx_add (pc' := 413) rfl rfl ?_
        refine jx_sca (pc' := 414) (z := (i + 2)) rfl rfl (by omega) (by omega) hL ?_
        refine rc_vi (pc' := 417) (m := m323) (G := G) (A := A) (st := []) (as := [.int (i32 (sx X ((i + 1)))), .int (i32 (sx X ((i + 2))))]) (by have := hC327.1; omega) rfl rfl rfl rfl ⟨rfl, rfl, (Nat.le_of_ble_eq_true rfl)⟩ rfl rfl (ri_link (dd := d) (by omega) hR (by omega) (by omega) (by omega)) (fun o V' hq => ?_)
        obtain ⟨G347, A347, r347, rfl, rfl, hR347, hp347⟩ := hq
        refine Or.inr ⟨_, rfl, ?_⟩
        have _u := hp347
        rw [← cr_V (by have := hC327.1; omega)]
        refine jx_ld (pc' := 419) (l' := jSto1 L340 6 (.int (i32 (r347)))) (st' := []) rfl rfl ?_
        obtain ⟨L348, eL348⟩ : ∃ q : jL, q = jSto1 L340 6 (.int (i32 (r347))) := ⟨_, rfl⟩
        rw [← eL348]
        have g349 : jGet L348 0 = some (.ref 63) := eL348 ▸ jg_ne (by decide) g341 rfl
        have g350 : jGet L348 1 = some (rv (64)) := eL348 ▸ jg_nr (by decide) g342
        have g351 : jGet L348 2 = some (.ref 66) := eL348 ▸ jg_ne (by decide) g343 rfl
        have g352 : jGet L348 3 = some (rv (153)) := eL348 ▸ jg_nr (by decide) g344
        have g353 : jGet L348 4 = some (.int (i32 (i))) := eL348 ▸ jg_ne (by decide) g345 rfl
        have g354 : jGet L348 5 = some (.int (i32 (r325))) := eL348 ▸ jg_ne (by decide) g346 rfl
        have g355 : jGet L348 6 = some (.int (i32 (r347))) := eL348 ▸ jg_eq
        clear eL348
        refine jx_go (tg := 751) rfl rfl ?_
        refine jx_inc (pc' := 754) (l' := jSto1 L348 4 (.int (i32 (i + (4))))) (x := i) rfl g353 (by decide) rfl rfl ?_
        obtain ⟨L356, eL356⟩ : ∃ q : jL, q = jSto1 L348 4 (.int (i32 ((i + (4))))) := ⟨_, rfl⟩
        rw [← eL356]
        have g357 : jGet L356 0 = some (.ref 63) := eL356 ▸ jg_ne (by decide) g349 rfl
        have g358 : jGet L356 1 = some (rv (64)) := eL356 ▸ jg_nr (by decide) g350
        have g359 : jGet L356 2 = some (.ref 66) := eL356 ▸ jg_ne (by decide) g351 rfl
        have g360 : jGet L356 3 = some (rv (153)) := eL356 ▸ jg_nr (by decide) g352
        have g361 : jGet L356 5 = some (.int (i32 (r325))) := eL356 ▸ jg_ne (by decide) g354 rfl
        have g362 : jGet L356 6 = some (.int (i32 (r347))) := eL356 ▸ jg_ne (by decide) g355 rfl
        have g363 : jGet L356 4 = some (.int (i32 ((i + (4))))) := eL356 ▸ jg_eq
        clear eL356
        refine jx_go (tg := 23) rfl rfl ?_
        have q364 : F324 (64) (1 : Int) = F (64) (1 : Int) := (show F324 (64) (1 : Int) = F (64) (1 : Int) from hM328 _ _ o64.1 (own_z o64.1) (by rw [o64.2]; rfl))
        have q365 : F324 (64) (5 : Int) = F (64) (5 : Int) := (show F324 (64) (5 : Int) = F (64) (5 : Int) from hM328 _ _ o64.1 (own_z o64.1) (by rw [o64.2]; rfl))
        have q366 : tz (F324 (64) (5 : Int)) = tz (F (64) (5 : Int)) := by rw [q365]
        exact ih _ (by omega) L356 G347 A347 m323 tg323 ln323 F324 ((i + (4))) (n + 1) rfl g357 g358 g359 g360 g363 hC327 c332 (SB_m c333 (by omega)) c334 hR347 ⟨ho336.1, ho336.2⟩ ⟨ho337.1, ho337.2⟩ (by omega) ((show F324 (153) ((-1) : Int) = F (153) ((-1) : Int) from hM328 _ _ o153.1 (own_z o153.1) (by rw [o153.2]; rfl)).trans s153) (by omega) (by omega) (by omega) (by omega) (by omega)
      by_cases h367 : z3 = 8
      · refine jx_swe (tg := 422) h367 rfl rfl rfl rfl ?_
        refine jx_ld (pc' := 423) (l' := L) (st' := [rv (64)]) rfl (jl_rvn g1) ?_
        refine cx_st (st := []) (as := [rv (64)]) rfl rfl rfl ⟨rfl, (Nat.le_of_ble_eq_true rfl)⟩ rfl (k_LLaw_begin (dd := d) (R := rR G A) (m := m) (tg := tg) (ln := ln) (F := F) (x := 64) (hd := by omega) (hC := hC) (o_x := o64.1) (t_x := o64.2) (p_0 := by omega) (c_NP := c_NP) (kk := 30001 * n) (c_SB := c_SB) (c_T3 := c_T3)) (fun o V' hq => ?_)
        obtain ⟨m368, tg368, ln368, F369, r370, rfl, rfl, hx371, hC372, hM373, b374, p375, p376, c377, c378, c379, -⟩ := hq
        have hM380 : Fq 0 [(1, 1), (1, 2), (1, 3), (1, 4), (1, 5), (1, 6), (2, 7), (2, 8), (2, 9), (2, 10), (2, 11), (3, 5), (3, 6), (3, 7), (3, 8), (3, 9), (3, 10), (3, 11), (3, 12), (3, 13), (3, 14), (3, 16), (3, 17), (3, 18), (3, 19), (3, 20), (4, 0), (5, 2), (5, 3), (5, 4), (5, 5), (5, 6), (5, 7), (6, 3), (6, 4), (6, 6), (6, 7), (6, 8), (7, 3), (7, 4), (7, 5), (7, 6), (7, 9), (7, 10), (7, 11), (7, 15), (8, 10), (8, 11), (8, 12), (8, 13), (8, 14), (8, 15), (8, 16), (8, 17), (8, 18), (9, 2), (9, 3), (10, 0), (10, 1), (10, 2), (10, 5), (10, 7), (10, 8), (10, 9), (11, 7), (11, 8), (11, 9), (11, 10), (11, 11), (11, 12), (11, 13), (11, 14), (11, 15), (11, 16), (11, 17), (11, 18), (12, 2), (12, 3), (12, 4), (20, -5), (21, -5), (22, -5), (24, -5), (25, -5), (26, -5), (27, -5)] m tg F F369 := Fq_t (ln := ln) (ln1 := ln) hM0 hX0 hM373 (by decide) (Or.inl rfl)
        have ho381 : own m368 (64) ∧ tg368 (64) = 1 := Ex_o hx371 ⟨o64.1, o64.2⟩
        have ho382 : own m368 (153) ∧ tg368 (153) = 22 := Ex_o hx371 ⟨o153.1, o153.2⟩
        have ln383 : ln368 (153) = 1 := (hx371.2 _ o153.1).2.trans hl
        clear hl
        have hX384 := Ex_t hX0 hx371
        refine Or.inr (Or.inl ⟨_, rfl, ?_⟩)
        refine jx_ld (pc' := 428) (l' := jSto1 L 5 (.int (i32 (r370)))) (st' := []) rfl rfl ?_
        obtain ⟨L385, eL385⟩ : ∃ q : jL, q = jSto1 L 5 (.int (i32 (r370))) := ⟨_, rfl⟩
        rw [← eL385]
        have g386 : jGet L385 0 = some (.ref 63) := eL385 ▸ jg_ne (by decide) g0 rfl
        have g387 : jGet L385 1 = some (rv (64)) := eL385 ▸ jg_nr (by decide) g1
        have g388 : jGet L385 2 = some (.ref 66) := eL385 ▸ jg_ne (by decide) g2 rfl
        have g389 : jGet L385 3 = some (rv (153)) := eL385 ▸ jg_nr (by decide) g3
        have g390 : jGet L385 4 = some (.int (i32 (i))) := eL385 ▸ jg_ne (by decide) g4 rfl
        have g391 : jGet L385 5 = some (.int (i32 (r370))) := eL385 ▸ jg_eq
        clear eL385
        refine jx_ld (pc' := 429) (l' := L385) (st' := [.ref 66]) rfl (jl_aloadn g388) ?_
        refine rc_vi (pc' := 432) (m := m368) (G := G) (A := A) (st := []) (as := []) (by have := hC372.1; omega) rfl rfl rfl rfl ⟨rfl, rfl, (Nat.le_of_ble_eq_true rfl)⟩ rfl rfl (ri_begin (dd := d) (by omega) hR (by omega) ) (fun o V' hq => ?_)
        obtain ⟨G392, A392, rfl, rfl, hR392, hp392⟩ := hq
        refine Or.inl ⟨rfl, ?_⟩
        have _u := hp392
        rw [← cr_V (by have := hC372.1; omega)]
        refine jx_go (tg := 751) rfl rfl ?_
        refine jx_inc (pc' := 754) (l' := jSto1 L385 4 (.int (i32 (i + (4))))) (x := i) rfl g390 (by decide) rfl rfl ?_
        obtain ⟨L393, eL393⟩ : ∃ q : jL, q = jSto1 L385 4 (.int (i32 ((i + (4))))) := ⟨_, rfl⟩
        rw [← eL393]
        have g394 : jGet L393 0 = some (.ref 63) := eL393 ▸ jg_ne (by decide) g386 rfl
        have g395 : jGet L393 1 = some (rv (64)) := eL393 ▸ jg_nr (by decide) g387
        have g396 : jGet L393 2 = some (.ref 66) := eL393 ▸ jg_ne (by decide) g388 rfl
        have g397 : jGet L393 3 = some (rv (153)) := eL393 ▸ jg_nr (by decide) g389
        have g398 : jGet L393 5 = some (.int (i32 (r370))) := eL393 ▸ jg_ne (by decide) g391 rfl
        have g399 : jGet L393 4 = some (.int (i32 ((i + (4))))) := eL393 ▸ jg_eq
        clear eL393
        refine jx_go (tg := 23) rfl rfl ?_
        have q400 : F369 (64) (1 : Int) = F (64) (1 : Int) := (show F369 (64) (1 : Int) = F (64) (1 : Int) from hM373 _ _ o64.1 (own_z o64.1) (by rw [o64.2]; rfl))
        have q401 : F369 (64) (5 : Int) = F (64) (5 : Int) := (show F369 (64) (5 : Int) = F (64) (5 : Int) from hM373 _ _ o64.1 (own_z o64.1) (by rw [o64.2]; rfl))
        have q402 : tz (F369 (64) (5 : Int)) = tz (F (64) (5 : Int)) := by rw [q401]
        exact ih _ (by omega) L393 G392 A392 m368 tg368 ln368 F369 ((i + (4))) (n + 1) rfl g394 g395 g396 g397 g399 hC372 c377 (SB_m c378 (by omega)) c379 hR392 ⟨ho381.1, ho381.2⟩ ⟨ho382.1, ho382.2⟩ (by omega) ((show F369 (153) ((-1) : Int) = F (153) ((-1) : Int) from hM373 _ _ o153.1 (own_z o153.1) (by rw [o153.2]; rfl)).trans s153) (by omega) (by omega) (by omega) (by omega) (by omega)
      by_cases h403 : z3 = 9
      · refine jx_swe (tg := 435) h403 rfl rfl rfl rfl ?_
        refine jx_ld (pc' := 436) (l' := L) (st' := [rv (64)]) rfl (jl_rvn g1) ?_
        refine jx_ld (pc' := 437) (l' := L) (st' := [.ref 63, rv (64)]) rfl (jl_aloadn g0) ?_
        refine jx_ld (pc' := 439) (l' := L) (st' := [.int (i32 (i)), .ref 63, rv (64)]) rfl (jl_iload g4) ?_
        refine jx_ar (pc' := 440) (st' := [.int (i32 (1)), .int (i32 (i)), .ref 63, rv (64)]) rfl rfl rfl rfl ?_
        refine jx_add (pc' := 441) rfl rfl ?_
        refine jx_sca (pc' := 442) (z := (i + 1)) rfl rfl (by omega) (by omega) hL ?_
        have b404 := sx_rg (X := X) (j := (i + 1))
        refine jx_ld (pc' := 443) (l' := L) (st' := [rv (153), .int (i32 (sx X ((i + 1)))), rv (64)]) rfl (jl_rvn g3) ?_
        refine cx_st (st := []) (as := [rv (64), .int (i32 (sx X ((i + 1)))), rv (153)]) rfl rfl rfl ⟨rfl, (Nat.le_of_ble_eq_true rfl)⟩ rfl (k_LLaw_input (dd := d) (R := rR G A) (m := m) (tg := tg) (ln := ln) (F := F) (x := 64) (p0 := sx X ((i + 1))) (ou := 153) (hd := by omega) (hC := hC) (o_x := o64.1) (t_x := o64.2) (h_p0 := by omega) (o_ou := o153.1) (t_ou := o153.2) (s_ou := s153) (p_0 := by omega) (c_NP := c_NP) (kk := 30001 * n) (c_SB := c_SB) (c_T3 := c_T3)) (fun o V' hq => ?_)
        obtain ⟨m405, tg405, ln405, F406, r407, rfl, rfl, hx408, hC409, hM410, b411, p412, p413, c414, c415, c416, -⟩ := hq
        have hM417 : Fq 0 [(1, 1), (1, 2), (1, 3), (1, 4), (1, 5), (1, 6), (2, 7), (2, 8), (2, 9), (2, 10), (2, 11), (3, 5), (3, 6), (3, 7), (3, 8), (3, 9), (3, 10), (3, 11), (3, 12), (3, 13), (3, 14), (3, 16), (3, 17), (3, 18), (3, 19), (3, 20), (4, 0), (5, 2), (5, 3), (5, 4), (5, 5), (5, 6), (5, 7), (6, 3), (6, 4), (6, 6), (6, 7), (6, 8), (7, 3), (7, 4), (7, 5), (7, 6), (7, 9), (7, 10), (7, 11), (7, 15), (8, 10), (8, 11), (8, 12), (8, 13), (8, 14), (8, 15), (8, 16), (8, 17), (8, 18), (9, 2), (9, 3), (10, 0), (10, 1), (10, 2), (10, 5), (10, 7), (10, 8), (10, 9), (11, 7), (11, 8), (11, 9), (11, 10), (11, 11), (11, 12), (11, 13), (11, 14), (11, 15), (11, 16), (11, 17), (11, 18), (12, 2), (12, 3), (12, 4), (20, -5), (21, -5), (22, -5), (24, -5), (25, -5), (26, -5), (27, -5)] m tg F F406 := Fq_t (ln := ln) (ln1 := ln) hM0 hX0 hM410 (by decide) (Or.inl rfl)
        have ho418 : own m405 (64) ∧ tg405 (64) = 1 := Ex_o hx408 ⟨o64.1, o64.2⟩
        have ho419 : own m405 (153) ∧ tg405 (153) = 22 := Ex_o hx408 ⟨o153.1, o153.2⟩
        have ln420 : ln405 (153) = 1 := (hx408.2 _ o153.1).2.trans hl
        clear hl
        have hX421 := Ex_t hX0 hx408
        refine Or.inr (Or.inl ⟨_, rfl, ?_⟩)
        refine jx_ld (pc' := 448) (l' := jSto1 L 5 (.int (i32 (r407)))) (st' := []) rfl rfl ?_
        obtain ⟨L422, eL422⟩ : ∃ q : jL, q = jSto1 L 5 (.int (i32 (r407))) := ⟨_, rfl⟩
        rw [← eL422]
        have g423 : jGet L422 0 = some (.ref 63) := eL422 ▸ jg_ne (by decide) g0 rfl
        have g424 : jGet L422 1 = some (rv (64)) := eL422 ▸ jg_nr (by decide) g1
        have g425 : jGet L422 2 = some (.ref 66) := eL422 ▸ jg_ne (by decide) g2 rfl
        have g426 : jGet L422 3 = some (rv (153)) := eL422 ▸ jg_nr (by decide) g3
        have g427 : jGet L422 4 = some (.int (i32 (i))) := eL422 ▸ jg_ne (by decide) g4 rfl
        have g428 : jGet L422 5 = some (.int (i32 (r407))) := eL422 ▸ jg_eq
        clear eL422
        refine jx_ld (pc' := 449) (l' := L422) (st' := [.ref 66]) rfl (jl_aloadn g425) ?_
        refine jx_ld (pc' := 450) (l' := L422) (st' := [.ref 63, .ref 66]) rfl (jl_aloadn g423) ?_
        refine jx_ld (pc' := 452) (l' := L422) (st' := [.int (i32 (i)), .ref 63, .ref 66]) rfl (jl_iload g427) ?_
        refine jx_ar (pc' := 453) (st' := [.int (i32 (1)), .int (i32 (i)), .ref 63, .ref 66]) rfl rfl rfl rfl ?_
        refine jx_add (pc' := 454) rfl rfl ?_
        refine jx_sca (pc' := 455) (z := (i + 1)) rfl rfl (by omega) (by omega) hL ?_
        refine rc_vi (pc' := 458) (m := m405) (G := G) (A := A) (st := []) (as := [.int (i32 (sx X ((i + 1))))]) (by have := hC409.1; omega) rfl rfl rfl rfl ⟨rfl, rfl, (Nat.le_of_ble_eq_true rfl)⟩ rfl rfl (ri_input (dd := d) (by omega) hR (by omega) (by omega)) (fun o V' hq => ?_)
        obtain ⟨G429, A429, r429, rfl, rfl, hR429, hp429⟩ := hq
        refine Or.inr ⟨_, rfl, ?_⟩
        have _u := hp429
        rw [← cr_V (by have := hC409.1; omega)]
        refine jx_ld (pc' := 460) (l' := jSto1 L422 6 (.int (i32 (r429)))) (st' := []) rfl rfl ?_
        obtain ⟨L430, eL430⟩ : ∃ q : jL, q = jSto1 L422 6 (.int (i32 (r429))) := ⟨_, rfl⟩
        rw [← eL430]
        have g431 : jGet L430 0 = some (.ref 63) := eL430 ▸ jg_ne (by decide) g423 rfl
        have g432 : jGet L430 1 = some (rv (64)) := eL430 ▸ jg_nr (by decide) g424
        have g433 : jGet L430 2 = some (.ref 66) := eL430 ▸ jg_ne (by decide) g425 rfl
        have g434 : jGet L430 3 = some (rv (153)) := eL430 ▸ jg_nr (by decide) g426
        have g435 : jGet L430 4 = some (.int (i32 (i))) := eL430 ▸ jg_ne (by decide) g427 rfl
        have g436 : jGet L430 5 = some (.int (i32 (r407))) := eL430 ▸ jg_ne (by decide) g428 rfl
        have g437 : jGet L430 6 = some (.int (i32 (r429))) := eL430 ▸ jg_eq
        clear eL430
        refine jx_go (tg := 751) rfl rfl ?_
        refine jx_inc (pc' := 754) (l' := jSto1 L430 4 (.int (i32 (i + (4))))) (x := i) rfl g435 (by decide) rfl rfl ?_
        obtain ⟨L438, eL438⟩ : ∃ q : jL, q = jSto1 L430 4 (.int (i32 ((i + (4))))) := ⟨_, rfl⟩
        rw [← eL438]
        have g439 : jGet L438 0 = some (.ref 63) := eL438 ▸ jg_ne (by decide) g431 rfl
        have g440 : jGet L438 1 = some (rv (64)) := eL438 ▸ jg_nr (by decide) g432
        have g441 : jGet L438 2 = some (.ref 66) := eL438 ▸ jg_ne (by decide) g433 rfl
        have g442 : jGet L438 3 = some (rv (153)) := eL438 ▸ jg_nr (by decide) g434
        have g443 : jGet L438 5 = some (.int (i32 (r407))) := eL438 ▸ jg_ne (by decide) g436 rfl
        have g444 : jGet L438 6 = some (.int (i32 (r429))) := eL438 ▸ jg_ne (by decide) g437 rfl
        have g445 : jGet L438 4 = some (.int (i32 ((i + (4))))) := eL438 ▸ jg_eq
        clear eL438
        refine jx_go (tg := 23) rfl rfl ?_
        have q446 : F406 (64) (1 : Int) = F (64) (1 : Int) := (show F406 (64) (1 : Int) = F (64) (1 : Int) from hM410 _ _ o64.1 (own_z o64.1) (by rw [o64.2]; rfl))
        have q447 : F406 (64) (5 : Int) = F (64) (5 : Int) := (show F406 (64) (5 : Int) = F (64) (5 : Int) from hM410 _ _ o64.1 (own_z o64.1) (by rw [o64.2]; rfl))
        have q448 : tz (F406 (64) (5 : Int)) = tz (F (64) (5 : Int)) := by rw [q447]
        exact ih _ (by omega) L438 G429 A429 m405 tg405 ln405 F406 ((i + (4))) (n + 1) rfl g439 g440 g441 g442 g445 hC409 c414 (SB_m c415 (by omega)) c416 hR429 ⟨ho418.1, ho418.2⟩ ⟨ho419.1, ho419.2⟩ (by omega) ((show F406 (153) ((-1) : Int) = F (153) ((-1) : Int) from hM410 _ _ o153.1 (own_z o153.1) (by rw [o153.2]; rfl)).trans s153) (by omega) (by omega) (by omega) (by omega) (by omega)
      by_cases h449 : z3 = 10
      · refine jx_swe (tg := 463) h449 rfl rfl rfl rfl ?_
        refine jx_ld (pc' := 464) (l' := L) (st' := [rv (64)]) rfl (jl_rvn g1) ?_
        refine jx_ld (pc' := 465) (l' := L) (st' := [.ref 63, rv (64)]) rfl (jl_aloadn g0) ?_
        refine jx_ld (pc' := 467) (l' := L) (st' := [.int (i32 (i)), .ref 63, rv (64)]) rfl (jl_iload g4) ?_
        refine jx_ar (pc' := 468) (st' := [.int (i32 (1)), .int (i32 (i)), .ref 63, rv (64)]) rfl rfl rfl rfl ?_
        refine jx_add (pc' := 469) rfl rfl ?_
        refine jx_sca (pc' := 470) (z := (i + 1)) rfl rfl (by omega) (by omega) hL ?_
        have b450 := sx_rg (X := X) (j := (i + 1))
        refine jx_ld (pc' := 471) (l' := L) (st' := [.ref 63, .int (i32 (sx X ((i + 1)))), rv (64)]) rfl (jl_aloadn g0) ?_
        refine jx_ld (pc' := 473) (l' := L) (st' := [.int (i32 (i)), .ref 63, .int (i32 (sx X ((i + 1)))), rv (64)]) rfl (jl_iload g4) ?_
        refine jx_ar (pc' := 474) (st' := [.int (i32 (2)), .int (i32 (i)), .ref 63, .int (i32 (sx X ((i + 1)))), rv (64)]) rfl rfl rfl rfl ?_
        refine jx_add (pc' := 475) rfl rfl ?_
        refine jx_sca (pc' := 476) (z := (i + 2)) rfl rfl (by omega) (by omega) hL ?_
        have b451 := sx_rg (X := X) (j := (i + 2))
        refine jx_ld (pc' := 477) (l' := L) (st' := [rv (153), .int (i32 (sx X ((i + 2)))), .int (i32 (sx X ((i + 1)))), rv (64)]) rfl (jl_rvn g3) ?_
        refine cx_st (st := []) (as := [rv (64), .int (i32 (sx X ((i + 1)))), .int (i32 (sx X ((i + 2)))), rv (153)]) rfl rfl rfl ⟨rfl, (Nat.le_of_ble_eq_true rfl)⟩ rfl (k_LLaw_run (dd := d) (R := rR G A) (m := m) (tg := tg) (ln := ln) (F := F) (x := 64) (p0 := sx X ((i + 1))) (p1 := sx X ((i + 2))) (ou := 153) (hd := by omega) (hC := hC) (o_x := o64.1) (t_x := o64.2) (h_p0 := by omega) (h_p1 := by omega) (o_ou := o153.1) (t_ou := o153.2) (s_ou := s153) (p_0 := by omega) (p_1 := by omega) (p_2 := by omega) (c_NP := c_NP) (kk := 30001 * n) (c_SB := c_SB) (c_T3 := c_T3)) (fun o V' hq => ?_)
        obtain ⟨m452, tg452, ln452, F453, r454, rfl, rfl, hx455, hC456, hM457, b458, p459, p460, c461, c462, c463, -⟩ := hq
        have hM464 : Fq 0 [(1, 1), (1, 2), (1, 3), (1, 4), (1, 5), (1, 6), (2, 7), (2, 8), (2, 9), (2, 10), (2, 11), (3, 5), (3, 6), (3, 7), (3, 8), (3, 9), (3, 10), (3, 11), (3, 12), (3, 13), (3, 14), (3, 16), (3, 17), (3, 18), (3, 19), (3, 20), (4, 0), (5, 2), (5, 3), (5, 4), (5, 5), (5, 6), (5, 7), (6, 3), (6, 4), (6, 6), (6, 7), (6, 8), (7, 3), (7, 4), (7, 5), (7, 6), (7, 9), (7, 10), (7, 11), (7, 15), (8, 10), (8, 11), (8, 12), (8, 13), (8, 14), (8, 15), (8, 16), (8, 17), (8, 18), (9, 2), (9, 3), (10, 0), (10, 1), (10, 2), (10, 5), (10, 7), (10, 8), (10, 9), (11, 7), (11, 8), (11, 9), (11, 10), (11, 11), (11, 12), (11, 13), (11, 14), (11, 15), (11, 16), (11, 17), (11, 18), (12, 2), (12, 3), (12, 4), (20, -5), (21, -5), (22, -5), (24, -5), (25, -5), (26, -5), (27, -5)] m tg F F453 := Fq_t (ln := ln) (ln1 := ln) hM0 hX0 hM457 (by decide) (Or.inl rfl)
        have ho465 : own m452 (64) ∧ tg452 (64) = 1 := Ex_o hx455 ⟨o64.1, o64.2⟩
        have ho466 : own m452 (153) ∧ tg452 (153) = 22 := Ex_o hx455 ⟨o153.1, o153.2⟩
        have ln467 : ln452 (153) = 1 := (hx455.2 _ o153.1).2.trans hl
        clear hl
        have hX468 := Ex_t hX0 hx455
        refine Or.inr (Or.inl ⟨_, rfl, ?_⟩)
        refine jx_ld (pc' := 482) (l' := jSto1 L 5 (.int (i32 (r454)))) (st' := []) rfl rfl ?_
        obtain ⟨L469, eL469⟩ : ∃ q : jL, q = jSto1 L 5 (.int (i32 (r454))) := ⟨_, rfl⟩
        rw [← eL469]
        have g470 : jGet L469 0 = some (.ref 63) := eL469 ▸ jg_ne (by decide) g0 rfl
        have g471 : jGet L469 1 = some (rv (64)) := eL469 ▸ jg_nr (by decide) g1
        have g472 : jGet L469 2 = some (.ref 66) := eL469 ▸ jg_ne (by decide) g2 rfl
        have g473 : jGet L469 3 = some (rv (153)) := eL469 ▸ jg_nr (by decide) g3
        have g474 : jGet L469 4 = some (.int (i32 (i))) := eL469 ▸ jg_ne (by decide) g4 rfl
        have g475 : jGet L469 5 = some (.int (i32 (r454))) := eL469 ▸ jg_eq
        clear eL469
        refine jx_ld (pc' := 483) (l' := L469) (st' := [.ref 66]) rfl (jl_aloadn g472) ?_
        refine jx_ld (pc' := 484) (l' := L469) (st' := [.ref 63, .ref 66]) rfl (jl_aloadn g470) ?_
        refine jx_ld (pc' := 486) (l' := L469) (st' := [.int (i32 (i)), .ref 63, .ref 66]) rfl (jl_iload g474) ?_
        refine jx_ar (pc' := 487) (st' := [.int (i32 (1)), .int (i32 (i)), .ref 63, .ref 66]) rfl rfl rfl rfl ?_
        refine jx_add (pc' := 488) rfl rfl ?_
        refine jx_sca (pc' := 489) (z := (i + 1)) rfl rfl (by omega) (by omega) hL ?_
        refine jx_ld (pc' := 490) (l' := L469) (st' := [.ref 63, .int (i32 (sx X ((i + 1)))), .ref 66]) rfl (jl_aloadn g470) ?_
        refine jx_ld (pc' := 492) (l' := L469) (st' := [.int (i32 (i)), .ref 63, .int (i32 (sx X ((i + 1)))), .ref 66]) rfl (jl_iload g474) ?_
        refine jx_ar (pc' := 493) (st' := [.int (i32 (2)), .int (i32 (i)), .ref 63, .int (i32 (sx X ((i + 1)))), .ref 66]) rfl rfl rfl rfl ?_
        refine jx_add (pc' := 494) rfl rfl ?_
        refine jx_sca (pc' := 495) (z := (i + 2)) rfl rfl (by omega) (by omega) hL ?_
        refine rc_vi (pc' := 498) (m := m452) (G := G) (A := A) (st := []) (as := [.int (i32 (sx X ((i + 1)))), .int (i32 (sx X ((i + 2))))]) (by have := hC456.1; omega) rfl rfl rfl rfl ⟨rfl, rfl, (Nat.le_of_ble_eq_true rfl)⟩ rfl rfl (ri_run (dd := d) (by omega) hR (by omega) (by omega) (by omega)) (fun o V' hq => ?_)
        obtain ⟨G476, A476, r476, rfl, rfl, hR476, hp476⟩ := hq
        refine Or.inr ⟨_, rfl, ?_⟩
        have _u := hp476
        rw [← cr_V (by have := hC456.1; omega)]
        refine jx_ld (pc' := 500) (l' := jSto1 L469 6 (.int (i32 (r476)))) (st' := []) rfl rfl ?_
        obtain ⟨L477, eL477⟩ : ∃ q : jL, q = jSto1 L469 6 (.int (i32 (r476))) := ⟨_, rfl⟩
        rw [← eL477]
        have g478 : jGet L477 0 = some (.ref 63) := eL477 ▸ jg_ne (by decide) g470 rfl
        have g479 : jGet L477 1 = some (rv (64)) := eL477 ▸ jg_nr (by decide) g471
        have g480 : jGet L477 2 = some (.ref 66) := eL477 ▸ jg_ne (by decide) g472 rfl
        have g481 : jGet L477 3 = some (rv (153)) := eL477 ▸ jg_nr (by decide) g473
        have g482 : jGet L477 4 = some (.int (i32 (i))) := eL477 ▸ jg_ne (by decide) g474 rfl
        have g483 : jGet L477 5 = some (.int (i32 (r454))) := eL477 ▸ jg_ne (by decide) g475 rfl
        have g484 : jGet L477 6 = some (.int (i32 (r476))) := eL477 ▸ jg_eq
        clear eL477
        refine jx_go (tg := 751) rfl rfl ?_
        refine jx_inc (pc' := 754) (l' := jSto1 L477 4 (.int (i32 (i + (4))))) (x := i) rfl g482 (by decide) rfl rfl ?_
        obtain ⟨L485, eL485⟩ : ∃ q : jL, q = jSto1 L477 4 (.int (i32 ((i + (4))))) := ⟨_, rfl⟩
        rw [← eL485]
        have g486 : jGet L485 0 = some (.ref 63) := eL485 ▸ jg_ne (by decide) g478 rfl
        have g487 : jGet L485 1 = some (rv (64)) := eL485 ▸ jg_nr (by decide) g479
        have g488 : jGet L485 2 = some (.ref 66) := eL485 ▸ jg_ne (by decide) g480 rfl
        have g489 : jGet L485 3 = some (rv (153)) := eL485 ▸ jg_nr (by decide) g481
        have g490 : jGet L485 5 = some (.int (i32 (r454))) := eL485 ▸ jg_ne (by decide) g483 rfl
        have g491 : jGet L485 6 = some (.int (i32 (r476))) := eL485 ▸ jg_ne (by decide) g484 rfl
        have g492 : jGet L485 4 = some (.int (i32 ((i + (4))))) := eL485 ▸ jg_eq
        clear eL485
        refine jx_go (tg := 23) rfl rfl ?_
        have q493 : F453 (64) (1 : Int) = F (64) (1 : Int) := (show F453 (64) (1 : Int) = F (64) (1 : Int) from hM457 _ _ o64.1 (own_z o64.1) (by rw [o64.2]; rfl))
        have q494 : F453 (64) (5 : Int) = F (64) (5 : Int) := (show F453 (64) (5 : Int) = F (64) (5 : Int) from hM457 _ _ o64.1 (own_z o64.1) (by rw [o64.2]; rfl))
        have q495 : tz (F453 (64) (5 : Int)) = tz (F (64) (5 : Int)) := by rw [q494]
        exact ih _ (by omega) L485 G476 A476 m452 tg452 ln452 F453 ((i + (4))) (n + 1) rfl g486 g487 g488 g489 g492 hC456 c461 (SB_m c462 (by omega)) c463 hR476 ⟨ho465.1, ho465.2⟩ ⟨ho466.1, ho466.2⟩ (by omega) ((show F453 (153) ((-1) : Int) = F (153) ((-1) : Int) from hM457 _ _ o153.1 (own_z o153.1) (by rw [o153.2]; rfl)).trans s153) (by omega) (by omega) (by omega) (by omega) (by omega)
      by_cases h496 : z3 = 11
      · refine jx_swe (tg := 503) h496 rfl rfl rfl rfl ?_
        refine jx_ld (pc' := 504) (l' := L) (st' := [rv (64)]) rfl (jl_rvn g1) ?_
        refine jx_ld (pc' := 505) (l' := L) (st' := [.ref 63, rv (64)]) rfl (jl_aloadn g0) ?_
        refine jx_ld (pc' := 507) (l' := L) (st' := [.int (i32 (i)), .ref 63, rv (64)]) rfl (jl_iload g4) ?_
        refine jx_ar (pc' := 508) (st' := [.int (i32 (1)), .int (i32 (i)), .ref 63, rv (64)]) rfl rfl rfl rfl ?_
        refine jx_add (pc' := 509) rfl rfl ?_
        refine jx_sca (pc' := 510) (z := (i + 1)) rfl rfl (by omega) (by omega) hL ?_
        have b497 := sx_rg (X := X) (j := (i + 1))
        refine jx_ld (pc' := 511) (l' := L) (st' := [rv (153), .int (i32 (sx X ((i + 1)))), rv (64)]) rfl (jl_rvn g3) ?_
        refine cx_st (st := []) (as := [rv (64), .int (i32 (sx X ((i + 1)))), rv (153)]) rfl rfl rfl ⟨rfl, (Nat.le_of_ble_eq_true rfl)⟩ rfl (k_LLaw_beat (dd := d) (R := rR G A) (m := m) (tg := tg) (ln := ln) (F := F) (x := 64) (p0 := sx X ((i + 1))) (ou := 153) (hd := by omega) (hC := hC) (o_x := o64.1) (t_x := o64.2) (h_p0 := by omega) (o_ou := o153.1) (t_ou := o153.2) (s_ou := s153) (p_0 := by omega) (p_1 := by omega) (p_2 := by omega) (c_NP := c_NP) (kk := 30001 * n) (c_SB := c_SB) (c_T3 := c_T3)) (fun o V' hq => ?_)
        obtain ⟨m498, tg498, ln498, F499, r500, rfl, rfl, hx501, hC502, hM503, b504, p505, p506, c507, c508, c509, -⟩ := hq
        have hM510 : Fq 0 [(1, 1), (1, 2), (1, 3), (1, 4), (1, 5), (1, 6), (2, 7), (2, 8), (2, 9), (2, 10), (2, 11), (3, 5), (3, 6), (3, 7), (3, 8), (3, 9), (3, 10), (3, 11), (3, 12), (3, 13), (3, 14), (3, 16), (3, 17), (3, 18), (3, 19), (3, 20), (4, 0), (5, 2), (5, 3), (5, 4), (5, 5), (5, 6), (5, 7), (6, 3), (6, 4), (6, 6), (6, 7), (6, 8), (7, 3), (7, 4), (7, 5), (7, 6), (7, 9), (7, 10), (7, 11), (7, 15), (8, 10), (8, 11), (8, 12), (8, 13), (8, 14), (8, 15), (8, 16), (8, 17), (8, 18), (9, 2), (9, 3), (10, 0), (10, 1), (10, 2), (10, 5), (10, 7), (10, 8), (10, 9), (11, 7), (11, 8), (11, 9), (11, 10), (11, 11), (11, 12), (11, 13), (11, 14), (11, 15), (11, 16), (11, 17), (11, 18), (12, 2), (12, 3), (12, 4), (20, -5), (21, -5), (22, -5), (24, -5), (25, -5), (26, -5), (27, -5)] m tg F F499 := Fq_t (ln := ln) (ln1 := ln) hM0 hX0 hM503 (by decide) (Or.inl rfl)
        have ho511 : own m498 (64) ∧ tg498 (64) = 1 := Ex_o hx501 ⟨o64.1, o64.2⟩
        have ho512 : own m498 (153) ∧ tg498 (153) = 22 := Ex_o hx501 ⟨o153.1, o153.2⟩
        have ln513 : ln498 (153) = 1 := (hx501.2 _ o153.1).2.trans hl
        clear hl
        have hX514 := Ex_t hX0 hx501
        refine Or.inr (Or.inl ⟨_, rfl, ?_⟩)
        refine jx_ld (pc' := 516) (l' := jSto1 L 5 (.int (i32 (r500)))) (st' := []) rfl rfl ?_
        obtain ⟨L515, eL515⟩ : ∃ q : jL, q = jSto1 L 5 (.int (i32 (r500))) := ⟨_, rfl⟩
        rw [← eL515]
        have g516 : jGet L515 0 = some (.ref 63) := eL515 ▸ jg_ne (by decide) g0 rfl
        have g517 : jGet L515 1 = some (rv (64)) := eL515 ▸ jg_nr (by decide) g1
        have g518 : jGet L515 2 = some (.ref 66) := eL515 ▸ jg_ne (by decide) g2 rfl
        have g519 : jGet L515 3 = some (rv (153)) := eL515 ▸ jg_nr (by decide) g3
        have g520 : jGet L515 4 = some (.int (i32 (i))) := eL515 ▸ jg_ne (by decide) g4 rfl
        have g521 : jGet L515 5 = some (.int (i32 (r500))) := eL515 ▸ jg_eq
        clear eL515
        refine jx_ld (pc' := 517) (l' := L515) (st' := [.ref 66]) rfl (jl_aloadn g518) ?_
        refine jx_ld (pc' := 518) (l' := L515) (st' := [.ref 63, .ref 66]) rfl (jl_aloadn g516) ?_
        refine jx_ld (pc' := 520) (l' := L515) (st' := [.int (i32 (i)), .ref 63, .ref 66]) rfl (jl_iload g520) ?_
        refine jx_ar (pc' := 521) (st' := [.int (i32 (1)), .int (i32 (i)), .ref 63, .ref 66]) rfl rfl rfl rfl ?_
        refine jx_add (pc' := 522) rfl rfl ?_
        refine jx_sca (pc' := 523) (z := (i + 1)) rfl rfl (by omega) (by omega) hL ?_
        refine rc_vi (pc' := 526) (m := m498) (G := G) (A := A) (st := []) (as := [.int (i32 (sx X ((i + 1))))]) (by have := hC502.1; omega) rfl rfl rfl rfl ⟨rfl, rfl, (Nat.le_of_ble_eq_true rfl)⟩ rfl rfl (ri_beat (dd := d) (by omega) hR (by omega) (by omega)) (fun o V' hq => ?_)
        obtain ⟨G522, A522, r522, rfl, rfl, hR522, hp522⟩ := hq
        refine Or.inr ⟨_, rfl, ?_⟩
        have _u := hp522
        rw [← cr_V (by have := hC502.1; omega)]
        refine jx_ld (pc' := 528) (l' := jSto1 L515 6 (.int (i32 (r522)))) (st' := []) rfl rfl ?_
        obtain ⟨L523, eL523⟩ : ∃ q : jL, q = jSto1 L515 6 (.int (i32 (r522))) := ⟨_, rfl⟩
        rw [← eL523]
        have g524 : jGet L523 0 = some (.ref 63) := eL523 ▸ jg_ne (by decide) g516 rfl
        have g525 : jGet L523 1 = some (rv (64)) := eL523 ▸ jg_nr (by decide) g517
        have g526 : jGet L523 2 = some (.ref 66) := eL523 ▸ jg_ne (by decide) g518 rfl
        have g527 : jGet L523 3 = some (rv (153)) := eL523 ▸ jg_nr (by decide) g519
        have g528 : jGet L523 4 = some (.int (i32 (i))) := eL523 ▸ jg_ne (by decide) g520 rfl
        have g529 : jGet L523 5 = some (.int (i32 (r500))) := eL523 ▸ jg_ne (by decide) g521 rfl
        have g530 : jGet L523 6 = some (.int (i32 (r522))) := eL523 ▸ jg_eq
        clear eL523
        refine jx_go (tg := 751) rfl rfl ?_
        refine jx_inc (pc' := 754) (l' := jSto1 L523 4 (.int (i32 (i + (4))))) (x := i) rfl g528 (by decide) rfl rfl ?_
        obtain ⟨L531, eL531⟩ : ∃ q : jL, q = jSto1 L523 4 (.int (i32 ((i + (4))))) := ⟨_, rfl⟩
        rw [← eL531]
        have g532 : jGet L531 0 = some (.ref 63) := eL531 ▸ jg_ne (by decide) g524 rfl
        have g533 : jGet L531 1 = some (rv (64)) := eL531 ▸ jg_nr (by decide) g525
        have g534 : jGet L531 2 = some (.ref 66) := eL531 ▸ jg_ne (by decide) g526 rfl
        have g535 : jGet L531 3 = some (rv (153)) := eL531 ▸ jg_nr (by decide) g527
        have g536 : jGet L531 5 = some (.int (i32 (r500))) := eL531 ▸ jg_ne (by decide) g529 rfl
        have g537 : jGet L531 6 = some (.int (i32 (r522))) := eL531 ▸ jg_ne (by decide) g530 rfl
        have g538 : jGet L531 4 = some (.int (i32 ((i + (4))))) := eL531 ▸ jg_eq
        clear eL531
        refine jx_go (tg := 23) rfl rfl ?_
        have q539 : F499 (64) (1 : Int) = F (64) (1 : Int) := (show F499 (64) (1 : Int) = F (64) (1 : Int) from hM503 _ _ o64.1 (own_z o64.1) (by rw [o64.2]; rfl))
        have q540 : F499 (64) (5 : Int) = F (64) (5 : Int) := (show F499 (64) (5 : Int) = F (64) (5 : Int) from hM503 _ _ o64.1 (own_z o64.1) (by rw [o64.2]; rfl))
        have q541 : tz (F499 (64) (5 : Int)) = tz (F (64) (5 : Int)) := by rw [q540]
        exact ih _ (by omega) L531 G522 A522 m498 tg498 ln498 F499 ((i + (4))) (n + 1) rfl g532 g533 g534 g535 g538 hC502 c507 (SB_m c508 (by omega)) c509 hR522 ⟨ho511.1, ho511.2⟩ ⟨ho512.1, ho512.2⟩ (by omega) ((show F499 (153) ((-1) : Int) = F (153) ((-1) : Int) from hM503 _ _ o153.1 (own_z o153.1) (by rw [o153.2]; rfl)).trans s153) (by omega) (by omega) (by omega) (by omega) (by omega)
      by_cases h542 : z3 = 12
      · refine jx_swe (tg := 531) h542 rfl rfl rfl rfl ?_
        refine jx_ld (pc' := 532) (l' := L) (st' := [rv (64)]) rfl (jl_rvn g1) ?_
        refine jx_ld (pc' := 533) (l' := L) (st' := [.ref 63, rv (64)]) rfl (jl_aloadn g0) ?_
        refine jx_ld (pc' := 535) (l' := L) (st' := [.int (i32 (i)), .ref 63, rv (64)]) rfl (jl_iload g4) ?_
        refine jx_ar (pc' := 536) (st' := [.int (i32 (1)), .int (i32 (i)), .ref 63, rv (64)]) rfl rfl rfl rfl ?_
        refine jx_add (pc' := 537) rfl rfl ?_
        refine jx_sca (pc' := 538) (z := (i + 1)) rfl rfl (by omega) (by omega) hL ?_
        have b543 := sx_rg (X := X) (j := (i + 1))
        refine jx_ld (pc' := 539) (l' := L) (st' := [rv (153), .int (i32 (sx X ((i + 1)))), rv (64)]) rfl (jl_rvn g3) ?_
        refine cx_st (st := []) (as := [rv (64), .int (i32 (sx X ((i + 1)))), rv (153)]) rfl rfl rfl ⟨rfl, (Nat.le_of_ble_eq_true rfl)⟩ rfl (k_LLaw_rounds (dd := d) (R := rR G A) (m := m) (tg := tg) (ln := ln) (F := F) (x := 64) (p0 := sx X ((i + 1))) (ou := 153) (hd := by omega) (hC := hC) (o_x := o64.1) (t_x := o64.2) (h_p0 := by omega) (o_ou := o153.1) (t_ou := o153.2) (s_ou := s153) (p_0 := by omega) (p_1 := by omega) (p_2 := by omega) (c_NP := c_NP) (kk := 30001 * n) (c_SB := c_SB) (c_T3 := c_T3)) (fun o V' hq => ?_)
        obtain ⟨m544, tg544, ln544, F545, r546, rfl, rfl, hx547, hC548, hM549, b550, p551, p552, c553, c554, c555, -⟩ := hq
        have hM556 : Fq 0 [(1, 1), (1, 2), (1, 3), (1, 4), (1, 5), (1, 6), (2, 7), (2, 8), (2, 9), (2, 10), (2, 11), (3, 5), (3, 6), (3, 7), (3, 8), (3, 9), (3, 10), (3, 11), (3, 12), (3, 13), (3, 14), (3, 16), (3, 17), (3, 18), (3, 19), (3, 20), (4, 0), (5, 2), (5, 3), (5, 4), (5, 5), (5, 6), (5, 7), (6, 3), (6, 4), (6, 6), (6, 7), (6, 8), (7, 3), (7, 4), (7, 5), (7, 6), (7, 9), (7, 10), (7, 11), (7, 15), (8, 10), (8, 11), (8, 12), (8, 13), (8, 14), (8, 15), (8, 16), (8, 17), (8, 18), (9, 2), (9, 3), (10, 0), (10, 1), (10, 2), (10, 5), (10, 7), (10, 8), (10, 9), (11, 7), (11, 8), (11, 9), (11, 10), (11, 11), (11, 12), (11, 13), (11, 14), (11, 15), (11, 16), (11, 17), (11, 18), (12, 2), (12, 3), (12, 4), (20, -5), (21, -5), (22, -5), (24, -5), (25, -5), (26, -5), (27, -5)] m tg F F545 := Fq_t (ln := ln) (ln1 := ln) hM0 hX0 hM549 (by decide) (Or.inl rfl)
        have ho557 : own m544 (64) ∧ tg544 (64) = 1 := Ex_o hx547 ⟨o64.1, o64.2⟩
        have ho558 : own m544 (153) ∧ tg544 (153) = 22 := Ex_o hx547 ⟨o153.1, o153.2⟩
        have ln559 : ln544 (153) = 1 := (hx547.2 _ o153.1).2.trans hl
        clear hl
        have hX560 := Ex_t hX0 hx547
        refine Or.inr (Or.inl ⟨_, rfl, ?_⟩)
        refine jx_ld (pc' := 544) (l' := jSto1 L 5 (.int (i32 (r546)))) (st' := []) rfl rfl ?_
        obtain ⟨L561, eL561⟩ : ∃ q : jL, q = jSto1 L 5 (.int (i32 (r546))) := ⟨_, rfl⟩
        rw [← eL561]
        have g562 : jGet L561 0 = some (.ref 63) := eL561 ▸ jg_ne (by decide) g0 rfl
        have g563 : jGet L561 1 = some (rv (64)) := eL561 ▸ jg_nr (by decide) g1
        have g564 : jGet L561 2 = some (.ref 66) := eL561 ▸ jg_ne (by decide) g2 rfl
        have g565 : jGet L561 3 = some (rv (153)) := eL561 ▸ jg_nr (by decide) g3
        have g566 : jGet L561 4 = some (.int (i32 (i))) := eL561 ▸ jg_ne (by decide) g4 rfl
        have g567 : jGet L561 5 = some (.int (i32 (r546))) := eL561 ▸ jg_eq
        clear eL561
        refine jx_ld (pc' := 545) (l' := L561) (st' := [.ref 66]) rfl (jl_aloadn g564) ?_
        refine jx_ld (pc' := 546) (l' := L561) (st' := [.ref 63, .ref 66]) rfl (jl_aloadn g562) ?_
        refine jx_ld (pc' := 548) (l' := L561) (st' := [.int (i32 (i)), .ref 63, .ref 66]) rfl (jl_iload g566) ?_
        refine jx_ar (pc' := 549) (st' := [.int (i32 (1)), .int (i32 (i)), .ref 63, .ref 66]) rfl rfl rfl rfl ?_
        refine jx_add (pc' := 550) rfl rfl ?_
        refine jx_sca (pc' := 551) (z := (i + 1)) rfl rfl (by omega) (by omega) hL ?_
        refine rc_vi (pc' := 554) (m := m544) (G := G) (A := A) (st := []) (as := [.int (i32 (sx X ((i + 1))))]) (by have := hC548.1; omega) rfl rfl rfl rfl ⟨rfl, rfl, (Nat.le_of_ble_eq_true rfl)⟩ rfl rfl (ri_rounds (dd := d) (by omega) hR (by omega) (by omega)) (fun o V' hq => ?_)
        obtain ⟨G568, A568, r568, rfl, rfl, hR568, hp568⟩ := hq
        refine Or.inr ⟨_, rfl, ?_⟩
        have _u := hp568
        rw [← cr_V (by have := hC548.1; omega)]
        refine jx_ld (pc' := 556) (l' := jSto1 L561 6 (.int (i32 (r568)))) (st' := []) rfl rfl ?_
        obtain ⟨L569, eL569⟩ : ∃ q : jL, q = jSto1 L561 6 (.int (i32 (r568))) := ⟨_, rfl⟩
        rw [← eL569]
        have g570 : jGet L569 0 = some (.ref 63) := eL569 ▸ jg_ne (by decide) g562 rfl
        have g571 : jGet L569 1 = some (rv (64)) := eL569 ▸ jg_nr (by decide) g563
        have g572 : jGet L569 2 = some (.ref 66) := eL569 ▸ jg_ne (by decide) g564 rfl
        have g573 : jGet L569 3 = some (rv (153)) := eL569 ▸ jg_nr (by decide) g565
        have g574 : jGet L569 4 = some (.int (i32 (i))) := eL569 ▸ jg_ne (by decide) g566 rfl
        have g575 : jGet L569 5 = some (.int (i32 (r546))) := eL569 ▸ jg_ne (by decide) g567 rfl
        have g576 : jGet L569 6 = some (.int (i32 (r568))) := eL569 ▸ jg_eq
        clear eL569
        refine jx_go (tg := 751) rfl rfl ?_
        refine jx_inc (pc' := 754) (l' := jSto1 L569 4 (.int (i32 (i + (4))))) (x := i) rfl g574 (by decide) rfl rfl ?_
        obtain ⟨L577, eL577⟩ : ∃ q : jL, q = jSto1 L569 4 (.int (i32 ((i + (4))))) := ⟨_, rfl⟩
        rw [← eL577]
        have g578 : jGet L577 0 = some (.ref 63) := eL577 ▸ jg_ne (by decide) g570 rfl
        have g579 : jGet L577 1 = some (rv (64)) := eL577 ▸ jg_nr (by decide) g571
        have g580 : jGet L577 2 = some (.ref 66) := eL577 ▸ jg_ne (by decide) g572 rfl
        have g581 : jGet L577 3 = some (rv (153)) := eL577 ▸ jg_nr (by decide) g573
        have g582 : jGet L577 5 = some (.int (i32 (r546))) := eL577 ▸ jg_ne (by decide) g575 rfl
        have g583 : jGet L577 6 = some (.int (i32 (r568))) := eL577 ▸ jg_ne (by decide) g576 rfl
        have g584 : jGet L577 4 = some (.int (i32 ((i + (4))))) := eL577 ▸ jg_eq
        clear eL577
        refine jx_go (tg := 23) rfl rfl ?_
        have q585 : F545 (64) (1 : Int) = F (64) (1 : Int) := (show F545 (64) (1 : Int) = F (64) (1 : Int) from hM549 _ _ o64.1 (own_z o64.1) (by rw [o64.2]; rfl))
        have q586 : F545 (64) (5 : Int) = F (64) (5 : Int) := (show F545 (64) (5 : Int) = F (64) (5 : Int) from hM549 _ _ o64.1 (own_z o64.1) (by rw [o64.2]; rfl))
        have q587 : tz (F545 (64) (5 : Int)) = tz (F (64) (5 : Int)) := by rw [q586]
        exact ih _ (by omega) L577 G568 A568 m544 tg544 ln544 F545 ((i + (4))) (n + 1) rfl g578 g579 g580 g581 g584 hC548 c553 (SB_m c554 (by omega)) c555 hR568 ⟨ho557.1, ho557.2⟩ ⟨ho558.1, ho558.2⟩ (by omega) ((show F545 (153) ((-1) : Int) = F (153) ((-1) : Int) from hM549 _ _ o153.1 (own_z o153.1) (by rw [o153.2]; rfl)).trans s153) (by omega) (by omega) (by omega) (by omega) (by omega)
      by_cases h588 : z3 = 13
      · refine jx_swe (tg := 559) h588 rfl rfl rfl rfl ?_
        refine jx_ld (pc' := 560) (l' := L) (st' := [rv (64)]) rfl (jl_rvn g1) ?_
        refine jx_ld (pc' := 561) (l' := L) (st' := [rv (153), rv (64)]) rfl (jl_rvn g3) ?_
        refine cx_st (st := []) (as := [rv (64), rv (153)]) rfl rfl rfl ⟨rfl, (Nat.le_of_ble_eq_true rfl)⟩ rfl (k_LLaw_outcome (dd := d) (R := rR G A) (m := m) (tg := tg) (ln := ln) (F := F) (x := 64) (ou := 153) (hd := by omega) (hC := hC) (o_x := o64.1) (t_x := o64.2) (o_ou := o153.1) (t_ou := o153.2) (s_ou := s153) (p_0 := by omega) (c_NP := c_NP) (kk := 30001 * n) (c_SB := c_SB) (c_T3 := c_T3)) (fun o V' hq => ?_)
        obtain ⟨m589, tg589, ln589, F590, r591, rfl, rfl, hx592, hC593, hM594, b595, p596, p597, c598, c599, c600, -⟩ := hq
        have hM601 : Fq 0 [(1, 1), (1, 2), (1, 3), (1, 4), (1, 5), (1, 6), (2, 7), (2, 8), (2, 9), (2, 10), (2, 11), (3, 5), (3, 6), (3, 7), (3, 8), (3, 9), (3, 10), (3, 11), (3, 12), (3, 13), (3, 14), (3, 16), (3, 17), (3, 18), (3, 19), (3, 20), (4, 0), (5, 2), (5, 3), (5, 4), (5, 5), (5, 6), (5, 7), (6, 3), (6, 4), (6, 6), (6, 7), (6, 8), (7, 3), (7, 4), (7, 5), (7, 6), (7, 9), (7, 10), (7, 11), (7, 15), (8, 10), (8, 11), (8, 12), (8, 13), (8, 14), (8, 15), (8, 16), (8, 17), (8, 18), (9, 2), (9, 3), (10, 0), (10, 1), (10, 2), (10, 5), (10, 7), (10, 8), (10, 9), (11, 7), (11, 8), (11, 9), (11, 10), (11, 11), (11, 12), (11, 13), (11, 14), (11, 15), (11, 16), (11, 17), (11, 18), (12, 2), (12, 3), (12, 4), (20, -5), (21, -5), (22, -5), (24, -5), (25, -5), (26, -5), (27, -5)] m tg F F590 := Fq_t (ln := ln) (ln1 := ln) hM0 hX0 hM594 (by decide) (Or.inl rfl)
        have ho602 : own m589 (64) ∧ tg589 (64) = 1 := Ex_o hx592 ⟨o64.1, o64.2⟩
        have ho603 : own m589 (153) ∧ tg589 (153) = 22 := Ex_o hx592 ⟨o153.1, o153.2⟩
        have ln604 : ln589 (153) = 1 := (hx592.2 _ o153.1).2.trans hl
        clear hl
        have hX605 := Ex_t hX0 hx592
        refine Or.inr (Or.inl ⟨_, rfl, ?_⟩)
        refine jx_ld (pc' := 566) (l' := jSto1 L 5 (.int (i32 (r591)))) (st' := []) rfl rfl ?_
        obtain ⟨L606, eL606⟩ : ∃ q : jL, q = jSto1 L 5 (.int (i32 (r591))) := ⟨_, rfl⟩
        rw [← eL606]
        have g607 : jGet L606 0 = some (.ref 63) := eL606 ▸ jg_ne (by decide) g0 rfl
        have g608 : jGet L606 1 = some (rv (64)) := eL606 ▸ jg_nr (by decide) g1
        have g609 : jGet L606 2 = some (.ref 66) := eL606 ▸ jg_ne (by decide) g2 rfl
        have g610 : jGet L606 3 = some (rv (153)) := eL606 ▸ jg_nr (by decide) g3
        have g611 : jGet L606 4 = some (.int (i32 (i))) := eL606 ▸ jg_ne (by decide) g4 rfl
        have g612 : jGet L606 5 = some (.int (i32 (r591))) := eL606 ▸ jg_eq
        clear eL606
        refine jx_ld (pc' := 567) (l' := L606) (st' := [.ref 66]) rfl (jl_aloadn g609) ?_
        refine rc_vi (pc' := 570) (m := m589) (G := G) (A := A) (st := []) (as := []) (by have := hC593.1; omega) rfl rfl rfl rfl ⟨rfl, rfl, (Nat.le_of_ble_eq_true rfl)⟩ rfl rfl (ri_outcome (dd := d) (by omega) hR (by omega) ) (fun o V' hq => ?_)
        obtain ⟨G613, A613, r613, rfl, rfl, hR613, hp613⟩ := hq
        refine Or.inr ⟨_, rfl, ?_⟩
        have _u := hp613
        rw [← cr_V (by have := hC593.1; omega)]
        refine jx_ld (pc' := 572) (l' := jSto1 L606 6 (.int (i32 (r613)))) (st' := []) rfl rfl ?_
        obtain ⟨L614, eL614⟩ : ∃ q : jL, q = jSto1 L606 6 (.int (i32 (r613))) := ⟨_, rfl⟩
        rw [← eL614]
        have g615 : jGet L614 0 = some (.ref 63) := eL614 ▸ jg_ne (by decide) g607 rfl
        have g616 : jGet L614 1 = some (rv (64)) := eL614 ▸ jg_nr (by decide) g608
        have g617 : jGet L614 2 = some (.ref 66) := eL614 ▸ jg_ne (by decide) g609 rfl
        have g618 : jGet L614 3 = some (rv (153)) := eL614 ▸ jg_nr (by decide) g610
        have g619 : jGet L614 4 = some (.int (i32 (i))) := eL614 ▸ jg_ne (by decide) g611 rfl
        have g620 : jGet L614 5 = some (.int (i32 (r591))) := eL614 ▸ jg_ne (by decide) g612 rfl
        have g621 : jGet L614 6 = some (.int (i32 (r613))) := eL614 ▸ jg_eq
        clear eL614
        refine jx_go (tg := 751) rfl rfl ?_
        refine jx_inc (pc' := 754) (l' := jSto1 L614 4 (.int (i32 (i + (4))))) (x := i) rfl g619 (by decide) rfl rfl ?_
        obtain ⟨L622, eL622⟩ : ∃ q : jL, q = jSto1 L614 4 (.int (i32 ((i + (4))))) := ⟨_, rfl⟩
        rw [← eL622]
        have g623 : jGet L622 0 = some (.ref 63) := eL622 ▸ jg_ne (by decide) g615 rfl
        have g624 : jGet L622 1 = some (rv (64)) := eL622 ▸ jg_nr (by decide) g616
        have g625 : jGet L622 2 = some (.ref 66) := eL622 ▸ jg_ne (by decide) g617 rfl
        have g626 : jGet L622 3 = some (rv (153)) := eL622 ▸ jg_nr (by decide) g618
        have g627 : jGet L622 5 = some (.int (i32 (r591))) := eL622 ▸ jg_ne (by decide) g620 rfl
        have g628 : jGet L622 6 = some (.int (i32 (r613))) := eL622 ▸ jg_ne (by decide) g621 rfl
        have g629 : jGet L622 4 = some (.int (i32 ((i + (4))))) := eL622 ▸ jg_eq
        clear eL622
        refine jx_go (tg := 23) rfl rfl ?_
        have q630 : F590 (64) (1 : Int) = F (64) (1 : Int) := (show F590 (64) (1 : Int) = F (64) (1 : Int) from hM594 _ _ o64.1 (own_z o64.1) (by rw [o64.2]; rfl))
        have q631 : F590 (64) (5 : Int) = F (64) (5 : Int) := (show F590 (64) (5 : Int) = F (64) (5 : Int) from hM594 _ _ o64.1 (own_z o64.1) (by rw [o64.2]; rfl))
        have q632 : tz (F590 (64) (5 : Int)) = tz (F (64) (5 : Int)) := by rw [q631]
        exact ih _ (by omega) L622 G613 A613 m589 tg589 ln589 F590 ((i + (4))) (n + 1) rfl g623 g624 g625 g626 g629 hC593 c598 (SB_m c599 (by omega)) c600 hR613 ⟨ho602.1, ho602.2⟩ ⟨ho603.1, ho603.2⟩ (by omega) ((show F590 (153) ((-1) : Int) = F (153) ((-1) : Int) from hM594 _ _ o153.1 (own_z o153.1) (by rw [o153.2]; rfl)).trans s153) (by omega) (by omega) (by omega) (by omega) (by omega)
      by_cases h633 : z3 = 14
      · refine jx_swe (tg := 575) h633 rfl rfl rfl rfl ?_
        refine jx_ld (pc' := 576) (l' := L) (st' := [rv (64)]) rfl (jl_rvn g1) ?_
        refine jx_ld (pc' := 577) (l' := L) (st' := [.ref 63, rv (64)]) rfl (jl_aloadn g0) ?_
        refine jx_ld (pc' := 579) (l' := L) (st' := [.int (i32 (i)), .ref 63, rv (64)]) rfl (jl_iload g4) ?_
        refine jx_ar (pc' := 580) (st' := [.int (i32 (1)), .int (i32 (i)), .ref 63, rv (64)]) rfl rfl rfl rfl ?_
        refine jx_add (pc' := 581) rfl rfl ?_
        refine jx_sca (pc' := 582) (z := (i + 1)) rfl rfl (by omega) (by omega) hL ?_
        have b634 := sx_rg (X := X) (j := (i + 1))
        refine jx_ld (pc' := 583) (l' := L) (st' := [.ref 63, .int (i32 (sx X ((i + 1)))), rv (64)]) rfl (jl_aloadn g0) ?_
        refine jx_ld (pc' := 585) (l' := L) (st' := [.int (i32 (i)), .ref 63, .int (i32 (sx X ((i + 1)))), rv (64)]) rfl (jl_iload g4) ?_
        refine jx_ar (pc' := 586) (st' := [.int (i32 (2)), .int (i32 (i)), .ref 63, .int (i32 (sx X ((i + 1)))), rv (64)]) rfl rfl rfl rfl ?_
        refine jx_add (pc' := 587) rfl rfl ?_
        refine jx_sca (pc' := 588) (z := (i + 2)) rfl rfl (by omega) (by omega) hL ?_
        have b635 := sx_rg (X := X) (j := (i + 2))
        refine jx_ld (pc' := 589) (l' := L) (st' := [rv (153), .int (i32 (sx X ((i + 2)))), .int (i32 (sx X ((i + 1)))), rv (64)]) rfl (jl_rvn g3) ?_
        refine cx_st (st := []) (as := [rv (64), .int (i32 (sx X ((i + 1)))), .int (i32 (sx X ((i + 2)))), rv (153)]) rfl rfl rfl ⟨rfl, (Nat.le_of_ble_eq_true rfl)⟩ rfl (k_LLaw_core (dd := d) (R := rR G A) (m := m) (tg := tg) (ln := ln) (F := F) (x := 64) (p0 := sx X ((i + 1))) (p1 := sx X ((i + 2))) (ou := 153) (hd := by omega) (hC := hC) (o_x := o64.1) (t_x := o64.2) (h_p0 := by omega) (h_p1 := by omega) (o_ou := o153.1) (t_ou := o153.2) (s_ou := s153) (p_0 := by omega) (c_NP := c_NP) (kk := 30001 * n) (c_SB := c_SB) (c_T3 := c_T3)) (fun o V' hq => ?_)
        obtain ⟨m636, tg636, ln636, F637, r638, rfl, rfl, hx639, hC640, hM641, b642, p643, p644, c645, c646, c647, -⟩ := hq
        have hM648 : Fq 0 [(1, 1), (1, 2), (1, 3), (1, 4), (1, 5), (1, 6), (2, 7), (2, 8), (2, 9), (2, 10), (2, 11), (3, 5), (3, 6), (3, 7), (3, 8), (3, 9), (3, 10), (3, 11), (3, 12), (3, 13), (3, 14), (3, 16), (3, 17), (3, 18), (3, 19), (3, 20), (4, 0), (5, 2), (5, 3), (5, 4), (5, 5), (5, 6), (5, 7), (6, 3), (6, 4), (6, 6), (6, 7), (6, 8), (7, 3), (7, 4), (7, 5), (7, 6), (7, 9), (7, 10), (7, 11), (7, 15), (8, 10), (8, 11), (8, 12), (8, 13), (8, 14), (8, 15), (8, 16), (8, 17), (8, 18), (9, 2), (9, 3), (10, 0), (10, 1), (10, 2), (10, 5), (10, 7), (10, 8), (10, 9), (11, 7), (11, 8), (11, 9), (11, 10), (11, 11), (11, 12), (11, 13), (11, 14), (11, 15), (11, 16), (11, 17), (11, 18), (12, 2), (12, 3), (12, 4), (20, -5), (21, -5), (22, -5), (24, -5), (25, -5), (26, -5), (27, -5)] m tg F F637 := Fq_t (ln := ln) (ln1 := ln) hM0 hX0 hM641 (by decide) (Or.inl rfl)
        have ho649 : own m636 (64) ∧ tg636 (64) = 1 := Ex_o hx639 ⟨o64.1, o64.2⟩
        have ho650 : own m636 (153) ∧ tg636 (153) = 22 := Ex_o hx639 ⟨o153.1, o153.2⟩
        have ln651 : ln636 (153) = 1 := (hx639.2 _ o153.1).2.trans hl
        clear hl
        have hX652 := Ex_t hX0 hx639
        refine Or.inr (Or.inl ⟨_, rfl, ?_⟩)
        refine jx_ld (pc' := 594) (l' := jSto1 L 5 (.int (i32 (r638)))) (st' := []) rfl rfl ?_
        obtain ⟨L653, eL653⟩ : ∃ q : jL, q = jSto1 L 5 (.int (i32 (r638))) := ⟨_, rfl⟩
        rw [← eL653]
        have g654 : jGet L653 0 = some (.ref 63) := eL653 ▸ jg_ne (by decide) g0 rfl
        have g655 : jGet L653 1 = some (rv (64)) := eL653 ▸ jg_nr (by decide) g1
        have g656 : jGet L653 2 = some (.ref 66) := eL653 ▸ jg_ne (by decide) g2 rfl
        have g657 : jGet L653 3 = some (rv (153)) := eL653 ▸ jg_nr (by decide) g3
        have g658 : jGet L653 4 = some (.int (i32 (i))) := eL653 ▸ jg_ne (by decide) g4 rfl
        have g659 : jGet L653 5 = some (.int (i32 (r638))) := eL653 ▸ jg_eq
        clear eL653
        refine jx_ld (pc' := 595) (l' := L653) (st' := [.ref 66]) rfl (jl_aloadn g656) ?_
        refine jx_ld (pc' := 596) (l' := L653) (st' := [.ref 63, .ref 66]) rfl (jl_aloadn g654) ?_
        refine jx_ld (pc' := 598) (l' := L653) (st' := [.int (i32 (i)), .ref 63, .ref 66]) rfl (jl_iload g658) ?_
        refine jx_ar (pc' := 599) (st' := [.int (i32 (1)), .int (i32 (i)), .ref 63, .ref 66]) rfl rfl rfl rfl ?_
        refine jx_add (pc' := 600) rfl rfl ?_
        refine jx_sca (pc' := 601) (z := (i + 1)) rfl rfl (by omega) (by omega) hL ?_
        refine jx_ld (pc' := 602) (l' := L653) (st' := [.ref 63, .int (i32 (sx X ((i + 1)))), .ref 66]) rfl (jl_aloadn g654) ?_
        refine jx_ld (pc' := 604) (l' := L653) (st' := [.int (i32 (i)), .ref 63, .int (i32 (sx X ((i + 1)))), .ref 66]) rfl (jl_iload g658) ?_
        refine jx_ar (pc' := 605) (st' := [.int (i32 (2)), .int (i32 (i)), .ref 63, .int (i32 (sx X ((i + 1)))), .ref 66]) rfl rfl rfl rfl ?_
        refine jx_add (pc' := 606) rfl rfl ?_
        refine jx_sca (pc' := 607) (z := (i + 2)) rfl rfl (by omega) (by omega) hL ?_
        refine rc_vi (pc' := 610) (m := m636) (G := G) (A := A) (st := []) (as := [.int (i32 (sx X ((i + 1)))), .int (i32 (sx X ((i + 2))))]) (by have := hC640.1; omega) rfl rfl rfl rfl ⟨rfl, rfl, (Nat.le_of_ble_eq_true rfl)⟩ rfl rfl (ri_core (dd := d) (by omega) hR (by omega) (by omega) (by omega)) (fun o V' hq => ?_)
        obtain ⟨G660, A660, r660, rfl, rfl, hR660, hp660⟩ := hq
        refine Or.inr ⟨_, rfl, ?_⟩
        have _u := hp660
        rw [← cr_V (by have := hC640.1; omega)]
        refine jx_ld (pc' := 612) (l' := jSto1 L653 6 (.int (i32 (r660)))) (st' := []) rfl rfl ?_
        obtain ⟨L661, eL661⟩ : ∃ q : jL, q = jSto1 L653 6 (.int (i32 (r660))) := ⟨_, rfl⟩
        rw [← eL661]
        have g662 : jGet L661 0 = some (.ref 63) := eL661 ▸ jg_ne (by decide) g654 rfl
        have g663 : jGet L661 1 = some (rv (64)) := eL661 ▸ jg_nr (by decide) g655
        have g664 : jGet L661 2 = some (.ref 66) := eL661 ▸ jg_ne (by decide) g656 rfl
        have g665 : jGet L661 3 = some (rv (153)) := eL661 ▸ jg_nr (by decide) g657
        have g666 : jGet L661 4 = some (.int (i32 (i))) := eL661 ▸ jg_ne (by decide) g658 rfl
        have g667 : jGet L661 5 = some (.int (i32 (r638))) := eL661 ▸ jg_ne (by decide) g659 rfl
        have g668 : jGet L661 6 = some (.int (i32 (r660))) := eL661 ▸ jg_eq
        clear eL661
        refine jx_go (tg := 751) rfl rfl ?_
        refine jx_inc (pc' := 754) (l' := jSto1 L661 4 (.int (i32 (i + (4))))) (x := i) rfl g666 (by decide) rfl rfl ?_
        obtain ⟨L669, eL669⟩ : ∃ q : jL, q = jSto1 L661 4 (.int (i32 ((i + (4))))) := ⟨_, rfl⟩
        rw [← eL669]
        have g670 : jGet L669 0 = some (.ref 63) := eL669 ▸ jg_ne (by decide) g662 rfl
        have g671 : jGet L669 1 = some (rv (64)) := eL669 ▸ jg_nr (by decide) g663
        have g672 : jGet L669 2 = some (.ref 66) := eL669 ▸ jg_ne (by decide) g664 rfl
        have g673 : jGet L669 3 = some (rv (153)) := eL669 ▸ jg_nr (by decide) g665
        have g674 : jGet L669 5 = some (.int (i32 (r638))) := eL669 ▸ jg_ne (by decide) g667 rfl
        have g675 : jGet L669 6 = some (.int (i32 (r660))) := eL669 ▸ jg_ne (by decide) g668 rfl
        have g676 : jGet L669 4 = some (.int (i32 ((i + (4))))) := eL669 ▸ jg_eq
        clear eL669
        refine jx_go (tg := 23) rfl rfl ?_
        have q677 : F637 (64) (1 : Int) = F (64) (1 : Int) := (show F637 (64) (1 : Int) = F (64) (1 : Int) from hM641 _ _ o64.1 (own_z o64.1) (by rw [o64.2]; rfl))
        have q678 : F637 (64) (5 : Int) = F (64) (5 : Int) := (show F637 (64) (5 : Int) = F (64) (5 : Int) from hM641 _ _ o64.1 (own_z o64.1) (by rw [o64.2]; rfl))
        have q679 : tz (F637 (64) (5 : Int)) = tz (F (64) (5 : Int)) := by rw [q678]
        exact ih _ (by omega) L669 G660 A660 m636 tg636 ln636 F637 ((i + (4))) (n + 1) rfl g670 g671 g672 g673 g676 hC640 c645 (SB_m c646 (by omega)) c647 hR660 ⟨ho649.1, ho649.2⟩ ⟨ho650.1, ho650.2⟩ (by omega) ((show F637 (153) ((-1) : Int) = F (153) ((-1) : Int) from hM641 _ _ o153.1 (own_z o153.1) (by rw [o153.2]; rfl)).trans s153) (by omega) (by omega) (by omega) (by omega) (by omega)
      by_cases h680 : z3 = 15
      · refine jx_swe (tg := 615) h680 rfl rfl rfl rfl ?_
        refine jx_ld (pc' := 616) (l' := L) (st' := [rv (64)]) rfl (jl_rvn g1) ?_
        refine jx_ld (pc' := 617) (l' := L) (st' := [.ref 63, rv (64)]) rfl (jl_aloadn g0) ?_
        refine jx_ld (pc' := 619) (l' := L) (st' := [.int (i32 (i)), .ref 63, rv (64)]) rfl (jl_iload g4) ?_
        refine jx_ar (pc' := 620) (st' := [.int (i32 (1)), .int (i32 (i)), .ref 63, rv (64)]) rfl rfl rfl rfl ?_
        refine jx_add (pc' := 621) rfl rfl ?_
        refine jx_sca (pc' := 622) (z := (i + 1)) rfl rfl (by omega) (by omega) hL ?_
        have b681 := sx_rg (X := X) (j := (i + 1))
        refine jx_ld (pc' := 623) (l' := L) (st' := [.ref 63, .int (i32 (sx X ((i + 1)))), rv (64)]) rfl (jl_aloadn g0) ?_
        refine jx_ld (pc' := 625) (l' := L) (st' := [.int (i32 (i)), .ref 63, .int (i32 (sx X ((i + 1)))), rv (64)]) rfl (jl_iload g4) ?_
        refine jx_ar (pc' := 626) (st' := [.int (i32 (2)), .int (i32 (i)), .ref 63, .int (i32 (sx X ((i + 1)))), rv (64)]) rfl rfl rfl rfl ?_
        refine jx_add (pc' := 627) rfl rfl ?_
        refine jx_sca (pc' := 628) (z := (i + 2)) rfl rfl (by omega) (by omega) hL ?_
        have b682 := sx_rg (X := X) (j := (i + 2))
        refine jx_ld (pc' := 629) (l' := L) (st' := [rv (153), .int (i32 (sx X ((i + 2)))), .int (i32 (sx X ((i + 1)))), rv (64)]) rfl (jl_rvn g3) ?_
        refine cx_st (st := []) (as := [rv (64), .int (i32 (sx X ((i + 1)))), .int (i32 (sx X ((i + 2)))), rv (153)]) rfl rfl rfl ⟨rfl, (Nat.le_of_ble_eq_true rfl)⟩ rfl (k_LLaw_ready (dd := d) (R := rR G A) (m := m) (tg := tg) (ln := ln) (F := F) (x := 64) (p0 := sx X ((i + 1))) (p1 := sx X ((i + 2))) (ou := 153) (hd := by omega) (hC := hC) (o_x := o64.1) (t_x := o64.2) (h_p0 := by omega) (h_p1 := by omega) (o_ou := o153.1) (t_ou := o153.2) (s_ou := s153) (p_0 := by omega) (c_NP := c_NP) (kk := 30001 * n) (c_SB := c_SB) (c_T3 := c_T3)) (fun o V' hq => ?_)
        obtain ⟨m683, tg683, ln683, F684, r685, rfl, rfl, hx686, hC687, hM688, b689, p690, p691, c692, c693, c694, -⟩ := hq
        have hM695 : Fq 0 [(1, 1), (1, 2), (1, 3), (1, 4), (1, 5), (1, 6), (2, 7), (2, 8), (2, 9), (2, 10), (2, 11), (3, 5), (3, 6), (3, 7), (3, 8), (3, 9), (3, 10), (3, 11), (3, 12), (3, 13), (3, 14), (3, 16), (3, 17), (3, 18), (3, 19), (3, 20), (4, 0), (5, 2), (5, 3), (5, 4), (5, 5), (5, 6), (5, 7), (6, 3), (6, 4), (6, 6), (6, 7), (6, 8), (7, 3), (7, 4), (7, 5), (7, 6), (7, 9), (7, 10), (7, 11), (7, 15), (8, 10), (8, 11), (8, 12), (8, 13), (8, 14), (8, 15), (8, 16), (8, 17), (8, 18), (9, 2), (9, 3), (10, 0), (10, 1), (10, 2), (10, 5), (10, 7), (10, 8), (10, 9), (11, 7), (11, 8), (11, 9), (11, 10), (11, 11), (11, 12), (11, 13), (11, 14), (11, 15), (11, 16), (11, 17), (11, 18), (12, 2), (12, 3), (12, 4), (20, -5), (21, -5), (22, -5), (24, -5), (25, -5), (26, -5), (27, -5)] m tg F F684 := Fq_t (ln := ln) (ln1 := ln) hM0 hX0 hM688 (by decide) (Or.inl rfl)
        have ho696 : own m683 (64) ∧ tg683 (64) = 1 := Ex_o hx686 ⟨o64.1, o64.2⟩
        have ho697 : own m683 (153) ∧ tg683 (153) = 22 := Ex_o hx686 ⟨o153.1, o153.2⟩
        have ln698 : ln683 (153) = 1 := (hx686.2 _ o153.1).2.trans hl
        clear hl
        have hX699 := Ex_t hX0 hx686
        refine Or.inr (Or.inl ⟨_, rfl, ?_⟩)
        refine jx_ld (pc' := 634) (l' := jSto1 L 5 (.int (i32 (r685)))) (st' := []) rfl rfl ?_
        obtain ⟨L700, eL700⟩ : ∃ q : jL, q = jSto1 L 5 (.int (i32 (r685))) := ⟨_, rfl⟩
        rw [← eL700]
        have g701 : jGet L700 0 = some (.ref 63) := eL700 ▸ jg_ne (by decide) g0 rfl
        have g702 : jGet L700 1 = some (rv (64)) := eL700 ▸ jg_nr (by decide) g1
        have g703 : jGet L700 2 = some (.ref 66) := eL700 ▸ jg_ne (by decide) g2 rfl
        have g704 : jGet L700 3 = some (rv (153)) := eL700 ▸ jg_nr (by decide) g3
        have g705 : jGet L700 4 = some (.int (i32 (i))) := eL700 ▸ jg_ne (by decide) g4 rfl
        have g706 : jGet L700 5 = some (.int (i32 (r685))) := eL700 ▸ jg_eq
        clear eL700
        refine jx_ld (pc' := 635) (l' := L700) (st' := [.ref 66]) rfl (jl_aloadn g703) ?_
        refine jx_ld (pc' := 636) (l' := L700) (st' := [.ref 63, .ref 66]) rfl (jl_aloadn g701) ?_
        refine jx_ld (pc' := 638) (l' := L700) (st' := [.int (i32 (i)), .ref 63, .ref 66]) rfl (jl_iload g705) ?_
        refine jx_ar (pc' := 639) (st' := [.int (i32 (1)), .int (i32 (i)), .ref 63, .ref 66]) rfl rfl rfl rfl ?_
        refine jx_add (pc' := 640) rfl rfl ?_
        refine jx_sca (pc' := 641) (z := (i + 1)) rfl rfl (by omega) (by omega) hL ?_
        refine jx_ld (pc' := 642) (l' := L700) (st' := [.ref 63, .int (i32 (sx X ((i + 1)))), .ref 66]) rfl (jl_aloadn g701) ?_
        refine jx_ld (pc' := 644) (l' := L700) (st' := [.int (i32 (i)), .ref 63, .int (i32 (sx X ((i + 1)))), .ref 66]) rfl (jl_iload g705) ?_
        refine jx_ar (pc' := 645) (st' := [.int (i32 (2)), .int (i32 (i)), .ref 63, .int (i32 (sx X ((i + 1)))), .ref 66]) rfl rfl rfl rfl ?_
        refine jx_add (pc' := 646) rfl rfl ?_
        refine jx_sca (pc' := 647) (z := (i + 2)) rfl rfl (by omega) (by omega) hL ?_
        refine rc_vi (pc' := 650) (m := m683) (G := G) (A := A) (st := []) (as := [.int (i32 (sx X ((i + 1)))), .int (i32 (sx X ((i + 2))))]) (by have := hC687.1; omega) rfl rfl rfl rfl ⟨rfl, rfl, (Nat.le_of_ble_eq_true rfl)⟩ rfl rfl (ri_ready (dd := d) (by omega) hR (by omega) (by omega) (by omega)) (fun o V' hq => ?_)
        obtain ⟨G707, A707, r707, rfl, rfl, hR707, hp707⟩ := hq
        refine Or.inr ⟨_, rfl, ?_⟩
        have _u := hp707
        rw [← cr_V (by have := hC687.1; omega)]
        refine jx_ld (pc' := 652) (l' := jSto1 L700 6 (.int (i32 (r707)))) (st' := []) rfl rfl ?_
        obtain ⟨L708, eL708⟩ : ∃ q : jL, q = jSto1 L700 6 (.int (i32 (r707))) := ⟨_, rfl⟩
        rw [← eL708]
        have g709 : jGet L708 0 = some (.ref 63) := eL708 ▸ jg_ne (by decide) g701 rfl
        have g710 : jGet L708 1 = some (rv (64)) := eL708 ▸ jg_nr (by decide) g702
        have g711 : jGet L708 2 = some (.ref 66) := eL708 ▸ jg_ne (by decide) g703 rfl
        have g712 : jGet L708 3 = some (rv (153)) := eL708 ▸ jg_nr (by decide) g704
        have g713 : jGet L708 4 = some (.int (i32 (i))) := eL708 ▸ jg_ne (by decide) g705 rfl
        have g714 : jGet L708 5 = some (.int (i32 (r685))) := eL708 ▸ jg_ne (by decide) g706 rfl
        have g715 : jGet L708 6 = some (.int (i32 (r707))) := eL708 ▸ jg_eq
        clear eL708
        refine jx_go (tg := 751) rfl rfl ?_
        refine jx_inc (pc' := 754) (l' := jSto1 L708 4 (.int (i32 (i + (4))))) (x := i) rfl g713 (by decide) rfl rfl ?_
        obtain ⟨L716, eL716⟩ : ∃ q : jL, q = jSto1 L708 4 (.int (i32 ((i + (4))))) := ⟨_, rfl⟩
        rw [← eL716]
        have g717 : jGet L716 0 = some (.ref 63) := eL716 ▸ jg_ne (by decide) g709 rfl
        have g718 : jGet L716 1 = some (rv (64)) := eL716 ▸ jg_nr (by decide) g710
        have g719 : jGet L716 2 = some (.ref 66) := eL716 ▸ jg_ne (by decide) g711 rfl
        have g720 : jGet L716 3 = some (rv (153)) := eL716 ▸ jg_nr (by decide) g712
        have g721 : jGet L716 5 = some (.int (i32 (r685))) := eL716 ▸ jg_ne (by decide) g714 rfl
        have g722 : jGet L716 6 = some (.int (i32 (r707))) := eL716 ▸ jg_ne (by decide) g715 rfl
        have g723 : jGet L716 4 = some (.int (i32 ((i + (4))))) := eL716 ▸ jg_eq
        clear eL716
        refine jx_go (tg := 23) rfl rfl ?_
        have q724 : F684 (64) (1 : Int) = F (64) (1 : Int) := (show F684 (64) (1 : Int) = F (64) (1 : Int) from hM688 _ _ o64.1 (own_z o64.1) (by rw [o64.2]; rfl))
        have q725 : F684 (64) (5 : Int) = F (64) (5 : Int) := (show F684 (64) (5 : Int) = F (64) (5 : Int) from hM688 _ _ o64.1 (own_z o64.1) (by rw [o64.2]; rfl))
        have q726 : tz (F684 (64) (5 : Int)) = tz (F (64) (5 : Int)) := by rw [q725]
        exact ih _ (by omega) L716 G707 A707 m683 tg683 ln683 F684 ((i + (4))) (n + 1) rfl g717 g718 g719 g720 g723 hC687 c692 (SB_m c693 (by omega)) c694 hR707 ⟨ho696.1, ho696.2⟩ ⟨ho697.1, ho697.2⟩ (by omega) ((show F684 (153) ((-1) : Int) = F (153) ((-1) : Int) from hM688 _ _ o153.1 (own_z o153.1) (by rw [o153.2]; rfl)).trans s153) (by omega) (by omega) (by omega) (by omega) (by omega)
      by_cases h727 : z3 = 16
      · refine jx_swe (tg := 655) h727 rfl rfl rfl rfl ?_
        refine jx_ld (pc' := 656) (l' := L) (st' := [rv (64)]) rfl (jl_rvn g1) ?_
        refine jx_ld (pc' := 657) (l' := L) (st' := [.ref 63, rv (64)]) rfl (jl_aloadn g0) ?_
        refine jx_ld (pc' := 659) (l' := L) (st' := [.int (i32 (i)), .ref 63, rv (64)]) rfl (jl_iload g4) ?_
        refine jx_ar (pc' := 660) (st' := [.int (i32 (1)), .int (i32 (i)), .ref 63, rv (64)]) rfl rfl rfl rfl ?_
        refine jx_add (pc' := 661) rfl rfl ?_
        refine jx_sca (pc' := 662) (z := (i + 1)) rfl rfl (by omega) (by omega) hL ?_
        have b728 := sx_rg (X := X) (j := (i + 1))
        refine jx_ld (pc' := 663) (l' := L) (st' := [.ref 63, .int (i32 (sx X ((i + 1)))), rv (64)]) rfl (jl_aloadn g0) ?_
        refine jx_ld (pc' := 665) (l' := L) (st' := [.int (i32 (i)), .ref 63, .int (i32 (sx X ((i + 1)))), rv (64)]) rfl (jl_iload g4) ?_
        refine jx_ar (pc' := 666) (st' := [.int (i32 (2)), .int (i32 (i)), .ref 63, .int (i32 (sx X ((i + 1)))), rv (64)]) rfl rfl rfl rfl ?_
        refine jx_add (pc' := 667) rfl rfl ?_
        refine jx_sca (pc' := 668) (z := (i + 2)) rfl rfl (by omega) (by omega) hL ?_
        have b729 := sx_rg (X := X) (j := (i + 2))
        refine jx_ld (pc' := 669) (l' := L) (st' := [rv (153), .int (i32 (sx X ((i + 2)))), .int (i32 (sx X ((i + 1)))), rv (64)]) rfl (jl_rvn g3) ?_
        refine cx_st (st := []) (as := [rv (64), .int (i32 (sx X ((i + 1)))), .int (i32 (sx X ((i + 2)))), rv (153)]) rfl rfl rfl ⟨rfl, (Nat.le_of_ble_eq_true rfl)⟩ rfl (k_LLaw_word (dd := d) (R := rR G A) (m := m) (tg := tg) (ln := ln) (F := F) (x := 64) (p0 := sx X ((i + 1))) (p1 := sx X ((i + 2))) (ou := 153) (hd := by omega) (hC := hC) (o_x := o64.1) (t_x := o64.2) (h_p0 := by omega) (h_p1 := by omega) (o_ou := o153.1) (t_ou := o153.2) (s_ou := s153) (p_0 := by omega) (c_NP := c_NP) (kk := 30001 * n) (c_SB := c_SB) (c_T3 := c_T3)) (fun o V' hq => ?_)
        obtain ⟨m730, tg730, ln730, F731, r732, rfl, rfl, hx733, hC734, hM735, b736, p737, p738, c739, c740, c741, -⟩ := hq
        have hM742 : Fq 0 [(1, 1), (1, 2), (1, 3), (1, 4), (1, 5), (1, 6), (2, 7), (2, 8), (2, 9), (2, 10), (2, 11), (3, 5), (3, 6), (3, 7), (3, 8), (3, 9), (3, 10), (3, 11), (3, 12), (3, 13), (3, 14), (3, 16), (3, 17), (3, 18), (3, 19), (3, 20), (4, 0), (5, 2), (5, 3), (5, 4), (5, 5), (5, 6), (5, 7), (6, 3), (6, 4), (6, 6), (6, 7), (6, 8), (7, 3), (7, 4), (7, 5), (7, 6), (7, 9), (7, 10), (7, 11), (7, 15), (8, 10), (8, 11), (8, 12), (8, 13), (8, 14), (8, 15), (8, 16), (8, 17), (8, 18), (9, 2), (9, 3), (10, 0), (10, 1), (10, 2), (10, 5), (10, 7), (10, 8), (10, 9), (11, 7), (11, 8), (11, 9), (11, 10), (11, 11), (11, 12), (11, 13), (11, 14), (11, 15), (11, 16), (11, 17), (11, 18), (12, 2), (12, 3), (12, 4), (20, -5), (21, -5), (22, -5), (24, -5), (25, -5), (26, -5), (27, -5)] m tg F F731 := Fq_t (ln := ln) (ln1 := ln) hM0 hX0 hM735 (by decide) (Or.inl rfl)
        have ho743 : own m730 (64) ∧ tg730 (64) = 1 := Ex_o hx733 ⟨o64.1, o64.2⟩
        have ho744 : own m730 (153) ∧ tg730 (153) = 22 := Ex_o hx733 ⟨o153.1, o153.2⟩
        have ln745 : ln730 (153) = 1 := (hx733.2 _ o153.1).2.trans hl
        clear hl
        have hX746 := Ex_t hX0 hx733
        refine Or.inr (Or.inl ⟨_, rfl, ?_⟩)
        refine jx_ld (pc' := 674) (l' := jSto1 L 5 (.int (i32 (r732)))) (st' := []) rfl rfl ?_
        obtain ⟨L747, eL747⟩ : ∃ q : jL, q = jSto1 L 5 (.int (i32 (r732))) := ⟨_, rfl⟩
        rw [← eL747]
        have g748 : jGet L747 0 = some (.ref 63) := eL747 ▸ jg_ne (by decide) g0 rfl
        have g749 : jGet L747 1 = some (rv (64)) := eL747 ▸ jg_nr (by decide) g1
        have g750 : jGet L747 2 = some (.ref 66) := eL747 ▸ jg_ne (by decide) g2 rfl
        have g751 : jGet L747 3 = some (rv (153)) := eL747 ▸ jg_nr (by decide) g3
        have g752 : jGet L747 4 = some (.int (i32 (i))) := eL747 ▸ jg_ne (by decide) g4 rfl
        have g753 : jGet L747 5 = some (.int (i32 (r732))) := eL747 ▸ jg_eq
        clear eL747
        refine jx_ld (pc' := 675) (l' := L747) (st' := [.ref 66]) rfl (jl_aloadn g750) ?_
        refine jx_ld (pc' := 676) (l' := L747) (st' := [.ref 63, .ref 66]) rfl (jl_aloadn g748) ?_
        refine jx_ld (pc' := 678) (l' := L747) (st' := [.int (i32 (i)), .ref 63, .ref 66]) rfl (jl_iload g752) ?_
        refine jx_ar (pc' := 679) (st' := [.int (i32 (1)), .int (i32 (i)), .ref 63, .ref 66]) rfl rfl rfl rfl ?_
        refine jx_add (pc' := 680) rfl rfl ?_
        refine jx_sca (pc' := 681) (z := (i + 1)) rfl rfl (by omega) (by omega) hL ?_
        refine jx_ld (pc' := 682) (l' := L747) (st' := [.ref 63, .int (i32 (sx X ((i + 1)))), .ref 66]) rfl (jl_aloadn g748) ?_
        refine jx_ld (pc' := 684) (l' := L747) (st' := [.int (i32 (i)), .ref 63, .int (i32 (sx X ((i + 1)))), .ref 66]) rfl (jl_iload g752) ?_
        refine jx_ar (pc' := 685) (st' := [.int (i32 (2)), .int (i32 (i)), .ref 63, .int (i32 (sx X ((i + 1)))), .ref 66]) rfl rfl rfl rfl ?_
        refine jx_add (pc' := 686) rfl rfl ?_
        refine jx_sca (pc' := 687) (z := (i + 2)) rfl rfl (by omega) (by omega) hL ?_
        refine rc_vi (pc' := 690) (m := m730) (G := G) (A := A) (st := []) (as := [.int (i32 (sx X ((i + 1)))), .int (i32 (sx X ((i + 2))))]) (by have := hC734.1; omega) rfl rfl rfl rfl ⟨rfl, rfl, (Nat.le_of_ble_eq_true rfl)⟩ rfl rfl (ri_word (dd := d) (by omega) hR (by omega) (by omega) (by omega)) (fun o V' hq => ?_)
        obtain ⟨G754, A754, r754, rfl, rfl, hR754, hp754⟩ := hq
        refine Or.inr ⟨_, rfl, ?_⟩
        have _u := hp754
        rw [← cr_V (by have := hC734.1; omega)]
        refine jx_ld (pc' := 692) (l' := jSto1 L747 6 (.int (i32 (r754)))) (st' := []) rfl rfl ?_
        obtain ⟨L755, eL755⟩ : ∃ q : jL, q = jSto1 L747 6 (.int (i32 (r754))) := ⟨_, rfl⟩
        rw [← eL755]
        have g756 : jGet L755 0 = some (.ref 63) := eL755 ▸ jg_ne (by decide) g748 rfl
        have g757 : jGet L755 1 = some (rv (64)) := eL755 ▸ jg_nr (by decide) g749
        have g758 : jGet L755 2 = some (.ref 66) := eL755 ▸ jg_ne (by decide) g750 rfl
        have g759 : jGet L755 3 = some (rv (153)) := eL755 ▸ jg_nr (by decide) g751
        have g760 : jGet L755 4 = some (.int (i32 (i))) := eL755 ▸ jg_ne (by decide) g752 rfl
        have g761 : jGet L755 5 = some (.int (i32 (r732))) := eL755 ▸ jg_ne (by decide) g753 rfl
        have g762 : jGet L755 6 = some (.int (i32 (r754))) := eL755 ▸ jg_eq
        clear eL755
        refine jx_go (tg := 751) rfl rfl ?_
        refine jx_inc (pc' := 754) (l' := jSto1 L755 4 (.int (i32 (i + (4))))) (x := i) rfl g760 (by decide) rfl rfl ?_
        obtain ⟨L763, eL763⟩ : ∃ q : jL, q = jSto1 L755 4 (.int (i32 ((i + (4))))) := ⟨_, rfl⟩
        rw [← eL763]
        have g764 : jGet L763 0 = some (.ref 63) := eL763 ▸ jg_ne (by decide) g756 rfl
        have g765 : jGet L763 1 = some (rv (64)) := eL763 ▸ jg_nr (by decide) g757
        have g766 : jGet L763 2 = some (.ref 66) := eL763 ▸ jg_ne (by decide) g758 rfl
        have g767 : jGet L763 3 = some (rv (153)) := eL763 ▸ jg_nr (by decide) g759
        have g768 : jGet L763 5 = some (.int (i32 (r732))) := eL763 ▸ jg_ne (by decide) g761 rfl
        have g769 : jGet L763 6 = some (.int (i32 (r754))) := eL763 ▸ jg_ne (by decide) g762 rfl
        have g770 : jGet L763 4 = some (.int (i32 ((i + (4))))) := eL763 ▸ jg_eq
        clear eL763
        refine jx_go (tg := 23) rfl rfl ?_
        have q771 : F731 (64) (1 : Int) = F (64) (1 : Int) := (show F731 (64) (1 : Int) = F (64) (1 : Int) from hM735 _ _ o64.1 (own_z o64.1) (by rw [o64.2]; rfl))
        have q772 : F731 (64) (5 : Int) = F (64) (5 : Int) := (show F731 (64) (5 : Int) = F (64) (5 : Int) from hM735 _ _ o64.1 (own_z o64.1) (by rw [o64.2]; rfl))
        have q773 : tz (F731 (64) (5 : Int)) = tz (F (64) (5 : Int)) := by rw [q772]
        exact ih _ (by omega) L763 G754 A754 m730 tg730 ln730 F731 ((i + (4))) (n + 1) rfl g764 g765 g766 g767 g770 hC734 c739 (SB_m c740 (by omega)) c741 hR754 ⟨ho743.1, ho743.2⟩ ⟨ho744.1, ho744.2⟩ (by omega) ((show F731 (153) ((-1) : Int) = F (153) ((-1) : Int) from hM735 _ _ o153.1 (own_z o153.1) (by rw [o153.2]; rfl)).trans s153) (by omega) (by omega) (by omega) (by omega) (by omega)
      by_cases h774 : z3 = 17
      · refine jx_swe (tg := 695) h774 rfl rfl rfl rfl ?_
        refine jx_ld (pc' := 696) (l' := L) (st' := [rv (64)]) rfl (jl_rvn g1) ?_
        refine jx_ld (pc' := 697) (l' := L) (st' := [.ref 63, rv (64)]) rfl (jl_aloadn g0) ?_
        refine jx_ld (pc' := 699) (l' := L) (st' := [.int (i32 (i)), .ref 63, rv (64)]) rfl (jl_iload g4) ?_
        refine jx_ar (pc' := 700) (st' := [.int (i32 (1)), .int (i32 (i)), .ref 63, rv (64)]) rfl rfl rfl rfl ?_
        refine jx_add (pc' := 701) rfl rfl ?_
        refine jx_sca (pc' := 702) (z := (i + 1)) rfl rfl (by omega) (by omega) hL ?_
        have b775 := sx_rg (X := X) (j := (i + 1))
        refine jx_ld (pc' := 703) (l' := L) (st' := [rv (153), .int (i32 (sx X ((i + 1)))), rv (64)]) rfl (jl_rvn g3) ?_
        refine cx_st (st := []) (as := [rv (64), .int (i32 (sx X ((i + 1)))), rv (153)]) rfl rfl rfl ⟨rfl, (Nat.le_of_ble_eq_true rfl)⟩ rfl (k_LLaw_output (dd := d) (R := rR G A) (m := m) (tg := tg) (ln := ln) (F := F) (x := 64) (p0 := sx X ((i + 1))) (ou := 153) (hd := by omega) (hC := hC) (o_x := o64.1) (t_x := o64.2) (h_p0 := by omega) (o_ou := o153.1) (t_ou := o153.2) (s_ou := s153) (p_0 := by omega) (c_NP := c_NP) (kk := 30001 * n) (c_SB := c_SB) (c_T3 := c_T3)) (fun o V' hq => ?_)
        obtain ⟨m776, tg776, ln776, F777, r778, rfl, rfl, hx779, hC780, hM781, b782, p783, p784, c785, c786, c787, -⟩ := hq
        have hM788 : Fq 0 [(1, 1), (1, 2), (1, 3), (1, 4), (1, 5), (1, 6), (2, 7), (2, 8), (2, 9), (2, 10), (2, 11), (3, 5), (3, 6), (3, 7), (3, 8), (3, 9), (3, 10), (3, 11), (3, 12), (3, 13), (3, 14), (3, 16), (3, 17), (3, 18), (3, 19), (3, 20), (4, 0), (5, 2), (5, 3), (5, 4), (5, 5), (5, 6), (5, 7), (6, 3), (6, 4), (6, 6), (6, 7), (6, 8), (7, 3), (7, 4), (7, 5), (7, 6), (7, 9), (7, 10), (7, 11), (7, 15), (8, 10), (8, 11), (8, 12), (8, 13), (8, 14), (8, 15), (8, 16), (8, 17), (8, 18), (9, 2), (9, 3), (10, 0), (10, 1), (10, 2), (10, 5), (10, 7), (10, 8), (10, 9), (11, 7), (11, 8), (11, 9), (11, 10), (11, 11), (11, 12), (11, 13), (11, 14), (11, 15), (11, 16), (11, 17), (11, 18), (12, 2), (12, 3), (12, 4), (20, -5), (21, -5), (22, -5), (24, -5), (25, -5), (26, -5), (27, -5)] m tg F F777 := Fq_t (ln := ln) (ln1 := ln) hM0 hX0 hM781 (by decide) (Or.inl rfl)
        have ho789 : own m776 (64) ∧ tg776 (64) = 1 := Ex_o hx779 ⟨o64.1, o64.2⟩
        have ho790 : own m776 (153) ∧ tg776 (153) = 22 := Ex_o hx779 ⟨o153.1, o153.2⟩
        have ln791 : ln776 (153) = 1 := (hx779.2 _ o153.1).2.trans hl
        clear hl
        have hX792 := Ex_t hX0 hx779
        refine Or.inr (Or.inl ⟨_, rfl, ?_⟩)
        refine jx_ld (pc' := 708) (l' := jSto1 L 5 (.int (i32 (r778)))) (st' := []) rfl rfl ?_
        obtain ⟨L793, eL793⟩ : ∃ q : jL, q = jSto1 L 5 (.int (i32 (r778))) := ⟨_, rfl⟩
        rw [← eL793]
        have g794 : jGet L793 0 = some (.ref 63) := eL793 ▸ jg_ne (by decide) g0 rfl
        have g795 : jGet L793 1 = some (rv (64)) := eL793 ▸ jg_nr (by decide) g1
        have g796 : jGet L793 2 = some (.ref 66) := eL793 ▸ jg_ne (by decide) g2 rfl
        have g797 : jGet L793 3 = some (rv (153)) := eL793 ▸ jg_nr (by decide) g3
        have g798 : jGet L793 4 = some (.int (i32 (i))) := eL793 ▸ jg_ne (by decide) g4 rfl
        have g799 : jGet L793 5 = some (.int (i32 (r778))) := eL793 ▸ jg_eq
        clear eL793
        refine jx_ld (pc' := 709) (l' := L793) (st' := [.ref 66]) rfl (jl_aloadn g796) ?_
        refine jx_ld (pc' := 710) (l' := L793) (st' := [.ref 63, .ref 66]) rfl (jl_aloadn g794) ?_
        refine jx_ld (pc' := 712) (l' := L793) (st' := [.int (i32 (i)), .ref 63, .ref 66]) rfl (jl_iload g798) ?_
        refine jx_ar (pc' := 713) (st' := [.int (i32 (1)), .int (i32 (i)), .ref 63, .ref 66]) rfl rfl rfl rfl ?_
        refine jx_add (pc' := 714) rfl rfl ?_
        refine jx_sca (pc' := 715) (z := (i + 1)) rfl rfl (by omega) (by omega) hL ?_
        refine rc_vi (pc' := 718) (m := m776) (G := G) (A := A) (st := []) (as := [.int (i32 (sx X ((i + 1))))]) (by have := hC780.1; omega) rfl rfl rfl rfl ⟨rfl, rfl, (Nat.le_of_ble_eq_true rfl)⟩ rfl rfl (ri_output (dd := d) (by omega) hR (by omega) (by omega)) (fun o V' hq => ?_)
        obtain ⟨G800, A800, r800, rfl, rfl, hR800, hp800⟩ := hq
        refine Or.inr ⟨_, rfl, ?_⟩
        have _u := hp800
        rw [← cr_V (by have := hC780.1; omega)]
        refine jx_ld (pc' := 720) (l' := jSto1 L793 6 (.int (i32 (r800)))) (st' := []) rfl rfl ?_
        obtain ⟨L801, eL801⟩ : ∃ q : jL, q = jSto1 L793 6 (.int (i32 (r800))) := ⟨_, rfl⟩
        rw [← eL801]
        have g802 : jGet L801 0 = some (.ref 63) := eL801 ▸ jg_ne (by decide) g794 rfl
        have g803 : jGet L801 1 = some (rv (64)) := eL801 ▸ jg_nr (by decide) g795
        have g804 : jGet L801 2 = some (.ref 66) := eL801 ▸ jg_ne (by decide) g796 rfl
        have g805 : jGet L801 3 = some (rv (153)) := eL801 ▸ jg_nr (by decide) g797
        have g806 : jGet L801 4 = some (.int (i32 (i))) := eL801 ▸ jg_ne (by decide) g798 rfl
        have g807 : jGet L801 5 = some (.int (i32 (r778))) := eL801 ▸ jg_ne (by decide) g799 rfl
        have g808 : jGet L801 6 = some (.int (i32 (r800))) := eL801 ▸ jg_eq
        clear eL801
        refine jx_go (tg := 751) rfl rfl ?_
        refine jx_inc (pc' := 754) (l' := jSto1 L801 4 (.int (i32 (i + (4))))) (x := i) rfl g806 (by decide) rfl rfl ?_
        obtain ⟨L809, eL809⟩ : ∃ q : jL, q = jSto1 L801 4 (.int (i32 ((i + (4))))) := ⟨_, rfl⟩
        rw [← eL809]
        have g810 : jGet L809 0 = some (.ref 63) := eL809 ▸ jg_ne (by decide) g802 rfl
        have g811 : jGet L809 1 = some (rv (64)) := eL809 ▸ jg_nr (by decide) g803
        have g812 : jGet L809 2 = some (.ref 66) := eL809 ▸ jg_ne (by decide) g804 rfl
        have g813 : jGet L809 3 = some (rv (153)) := eL809 ▸ jg_nr (by decide) g805
        have g814 : jGet L809 5 = some (.int (i32 (r778))) := eL809 ▸ jg_ne (by decide) g807 rfl
        have g815 : jGet L809 6 = some (.int (i32 (r800))) := eL809 ▸ jg_ne (by decide) g808 rfl
        have g816 : jGet L809 4 = some (.int (i32 ((i + (4))))) := eL809 ▸ jg_eq
        clear eL809
        refine jx_go (tg := 23) rfl rfl ?_
        have q817 : F777 (64) (1 : Int) = F (64) (1 : Int) := (show F777 (64) (1 : Int) = F (64) (1 : Int) from hM781 _ _ o64.1 (own_z o64.1) (by rw [o64.2]; rfl))
        have q818 : F777 (64) (5 : Int) = F (64) (5 : Int) := (show F777 (64) (5 : Int) = F (64) (5 : Int) from hM781 _ _ o64.1 (own_z o64.1) (by rw [o64.2]; rfl))
        have q819 : tz (F777 (64) (5 : Int)) = tz (F (64) (5 : Int)) := by rw [q818]
        exact ih _ (by omega) L809 G800 A800 m776 tg776 ln776 F777 ((i + (4))) (n + 1) rfl g810 g811 g812 g813 g816 hC780 c785 (SB_m c786 (by omega)) c787 hR800 ⟨ho789.1, ho789.2⟩ ⟨ho790.1, ho790.2⟩ (by omega) ((show F777 (153) ((-1) : Int) = F (153) ((-1) : Int) from hM781 _ _ o153.1 (own_z o153.1) (by rw [o153.2]; rfl)).trans s153) (by omega) (by omega) (by omega) (by omega) (by omega)
      by_cases h820 : z3 = 18
      · refine jx_swe (tg := 723) h820 rfl rfl rfl rfl ?_
        refine jx_ld (pc' := 724) (l' := L) (st' := [rv (64)]) rfl (jl_rvn g1) ?_
        refine jx_ld (pc' := 725) (l' := L) (st' := [.ref 63, rv (64)]) rfl (jl_aloadn g0) ?_
        refine jx_ld (pc' := 727) (l' := L) (st' := [.int (i32 (i)), .ref 63, rv (64)]) rfl (jl_iload g4) ?_
        refine jx_ar (pc' := 728) (st' := [.int (i32 (1)), .int (i32 (i)), .ref 63, rv (64)]) rfl rfl rfl rfl ?_
        refine jx_add (pc' := 729) rfl rfl ?_
        refine jx_sca (pc' := 730) (z := (i + 1)) rfl rfl (by omega) (by omega) hL ?_
        have b821 := sx_rg (X := X) (j := (i + 1))
        refine jx_ld (pc' := 731) (l' := L) (st' := [rv (153), .int (i32 (sx X ((i + 1)))), rv (64)]) rfl (jl_rvn g3) ?_
        refine cx_st (st := []) (as := [rv (64), .int (i32 (sx X ((i + 1)))), rv (153)]) rfl rfl rfl ⟨rfl, (Nat.le_of_ble_eq_true rfl)⟩ rfl (k_LLaw_about (dd := d) (R := rR G A) (m := m) (tg := tg) (ln := ln) (F := F) (x := 64) (p0 := sx X ((i + 1))) (ou := 153) (hd := by omega) (hC := hC) (o_x := o64.1) (t_x := o64.2) (h_p0 := by omega) (o_ou := o153.1) (t_ou := o153.2) (s_ou := s153) (p_0 := by omega) (c_NP := c_NP) (kk := 30001 * n) (c_SB := c_SB) (c_T3 := c_T3)) (fun o V' hq => ?_)
        obtain ⟨m822, tg822, ln822, F823, r824, rfl, rfl, hx825, hC826, hM827, b828, p829, p830, c831, c832, c833, -⟩ := hq
        have hM834 : Fq 0 [(1, 1), (1, 2), (1, 3), (1, 4), (1, 5), (1, 6), (2, 7), (2, 8), (2, 9), (2, 10), (2, 11), (3, 5), (3, 6), (3, 7), (3, 8), (3, 9), (3, 10), (3, 11), (3, 12), (3, 13), (3, 14), (3, 16), (3, 17), (3, 18), (3, 19), (3, 20), (4, 0), (5, 2), (5, 3), (5, 4), (5, 5), (5, 6), (5, 7), (6, 3), (6, 4), (6, 6), (6, 7), (6, 8), (7, 3), (7, 4), (7, 5), (7, 6), (7, 9), (7, 10), (7, 11), (7, 15), (8, 10), (8, 11), (8, 12), (8, 13), (8, 14), (8, 15), (8, 16), (8, 17), (8, 18), (9, 2), (9, 3), (10, 0), (10, 1), (10, 2), (10, 5), (10, 7), (10, 8), (10, 9), (11, 7), (11, 8), (11, 9), (11, 10), (11, 11), (11, 12), (11, 13), (11, 14), (11, 15), (11, 16), (11, 17), (11, 18), (12, 2), (12, 3), (12, 4), (20, -5), (21, -5), (22, -5), (24, -5), (25, -5), (26, -5), (27, -5)] m tg F F823 := Fq_t (ln := ln) (ln1 := ln) hM0 hX0 hM827 (by decide) (Or.inl rfl)
        have ho835 : own m822 (64) ∧ tg822 (64) = 1 := Ex_o hx825 ⟨o64.1, o64.2⟩
        have ho836 : own m822 (153) ∧ tg822 (153) = 22 := Ex_o hx825 ⟨o153.1, o153.2⟩
        have ln837 : ln822 (153) = 1 := (hx825.2 _ o153.1).2.trans hl
        clear hl
        have hX838 := Ex_t hX0 hx825
        refine Or.inr (Or.inl ⟨_, rfl, ?_⟩)
        refine jx_ld (pc' := 736) (l' := jSto1 L 5 (.int (i32 (r824)))) (st' := []) rfl rfl ?_
        obtain ⟨L839, eL839⟩ : ∃ q : jL, q = jSto1 L 5 (.int (i32 (r824))) := ⟨_, rfl⟩
        rw [← eL839]
        have g840 : jGet L839 0 = some (.ref 63) := eL839 ▸ jg_ne (by decide) g0 rfl
        have g841 : jGet L839 1 = some (rv (64)) := eL839 ▸ jg_nr (by decide) g1
        have g842 : jGet L839 2 = some (.ref 66) := eL839 ▸ jg_ne (by decide) g2 rfl
        have g843 : jGet L839 3 = some (rv (153)) := eL839 ▸ jg_nr (by decide) g3
        have g844 : jGet L839 4 = some (.int (i32 (i))) := eL839 ▸ jg_ne (by decide) g4 rfl
        have g845 : jGet L839 5 = some (.int (i32 (r824))) := eL839 ▸ jg_eq
        clear eL839
        refine jx_ld (pc' := 737) (l' := L839) (st' := [.ref 66]) rfl (jl_aloadn g842) ?_
        refine jx_ld (pc' := 738) (l' := L839) (st' := [.ref 63, .ref 66]) rfl (jl_aloadn g840) ?_
        refine jx_ld (pc' := 740) (l' := L839) (st' := [.int (i32 (i)), .ref 63, .ref 66]) rfl (jl_iload g844) ?_
        refine jx_ar (pc' := 741) (st' := [.int (i32 (1)), .int (i32 (i)), .ref 63, .ref 66]) rfl rfl rfl rfl ?_
        refine jx_add (pc' := 742) rfl rfl ?_
        refine jx_sca (pc' := 743) (z := (i + 1)) rfl rfl (by omega) (by omega) hL ?_
        refine rc_vi (pc' := 746) (m := m822) (G := G) (A := A) (st := []) (as := [.int (i32 (sx X ((i + 1))))]) (by have := hC826.1; omega) rfl rfl rfl rfl ⟨rfl, rfl, (Nat.le_of_ble_eq_true rfl)⟩ rfl rfl (ri_about (dd := d) (by omega) hR (by omega) (by omega)) (fun o V' hq => ?_)
        obtain ⟨G846, A846, r846, rfl, rfl, hR846, hp846⟩ := hq
        refine Or.inr ⟨_, rfl, ?_⟩
        have _u := hp846
        rw [← cr_V (by have := hC826.1; omega)]
        refine jx_ld (pc' := 748) (l' := jSto1 L839 6 (.int (i32 (r846)))) (st' := []) rfl rfl ?_
        obtain ⟨L847, eL847⟩ : ∃ q : jL, q = jSto1 L839 6 (.int (i32 (r846))) := ⟨_, rfl⟩
        rw [← eL847]
        have g848 : jGet L847 0 = some (.ref 63) := eL847 ▸ jg_ne (by decide) g840 rfl
        have g849 : jGet L847 1 = some (rv (64)) := eL847 ▸ jg_nr (by decide) g841
        have g850 : jGet L847 2 = some (.ref 66) := eL847 ▸ jg_ne (by decide) g842 rfl
        have g851 : jGet L847 3 = some (rv (153)) := eL847 ▸ jg_nr (by decide) g843
        have g852 : jGet L847 4 = some (.int (i32 (i))) := eL847 ▸ jg_ne (by decide) g844 rfl
        have g853 : jGet L847 5 = some (.int (i32 (r824))) := eL847 ▸ jg_ne (by decide) g845 rfl
        have g854 : jGet L847 6 = some (.int (i32 (r846))) := eL847 ▸ jg_eq
        clear eL847
        refine jx_go (tg := 751) rfl rfl ?_
        refine jx_inc (pc' := 754) (l' := jSto1 L847 4 (.int (i32 (i + (4))))) (x := i) rfl g852 (by decide) rfl rfl ?_
        obtain ⟨L855, eL855⟩ : ∃ q : jL, q = jSto1 L847 4 (.int (i32 ((i + (4))))) := ⟨_, rfl⟩
        rw [← eL855]
        have g856 : jGet L855 0 = some (.ref 63) := eL855 ▸ jg_ne (by decide) g848 rfl
        have g857 : jGet L855 1 = some (rv (64)) := eL855 ▸ jg_nr (by decide) g849
        have g858 : jGet L855 2 = some (.ref 66) := eL855 ▸ jg_ne (by decide) g850 rfl
        have g859 : jGet L855 3 = some (rv (153)) := eL855 ▸ jg_nr (by decide) g851
        have g860 : jGet L855 5 = some (.int (i32 (r824))) := eL855 ▸ jg_ne (by decide) g853 rfl
        have g861 : jGet L855 6 = some (.int (i32 (r846))) := eL855 ▸ jg_ne (by decide) g854 rfl
        have g862 : jGet L855 4 = some (.int (i32 ((i + (4))))) := eL855 ▸ jg_eq
        clear eL855
        refine jx_go (tg := 23) rfl rfl ?_
        have q863 : F823 (64) (1 : Int) = F (64) (1 : Int) := (show F823 (64) (1 : Int) = F (64) (1 : Int) from hM827 _ _ o64.1 (own_z o64.1) (by rw [o64.2]; rfl))
        have q864 : F823 (64) (5 : Int) = F (64) (5 : Int) := (show F823 (64) (5 : Int) = F (64) (5 : Int) from hM827 _ _ o64.1 (own_z o64.1) (by rw [o64.2]; rfl))
        have q865 : tz (F823 (64) (5 : Int)) = tz (F (64) (5 : Int)) := by rw [q864]
        exact ih _ (by omega) L855 G846 A846 m822 tg822 ln822 F823 ((i + (4))) (n + 1) rfl g856 g857 g858 g859 g862 hC826 c831 (SB_m c832 (by omega)) c833 hR846 ⟨ho835.1, ho835.2⟩ ⟨ho836.1, ho836.2⟩ (by omega) ((show F823 (153) ((-1) : Int) = F (153) ((-1) : Int) from hM827 _ _ o153.1 (own_z o153.1) (by rw [o153.2]; rfl)).trans s153) (by omega) (by omega) (by omega) (by omega) (by omega)
      refine jx_swt (tg := 751) (by omega) (by omega) rfl (by omega) rfl ?_
      refine jx_inc (pc' := 754) (l' := jSto1 L 4 (.int (i32 (i + (4))))) (x := i) rfl g4 (by decide) rfl rfl ?_
      obtain ⟨L866, eL866⟩ : ∃ q : jL, q = jSto1 L 4 (.int (i32 ((i + (4))))) := ⟨_, rfl⟩
      rw [← eL866]
      have g867 : jGet L866 0 = some (.ref 63) := eL866 ▸ jg_ne (by decide) g0 rfl
      have g868 : jGet L866 1 = some (rv (64)) := eL866 ▸ jg_nr (by decide) g1
      have g869 : jGet L866 2 = some (.ref 66) := eL866 ▸ jg_ne (by decide) g2 rfl
      have g870 : jGet L866 3 = some (rv (153)) := eL866 ▸ jg_nr (by decide) g3
      have g871 : jGet L866 4 = some (.int (i32 ((i + (4))))) := eL866 ▸ jg_eq
      clear eL866
      refine jx_go (tg := 23) rfl rfl ?_
      exact ih _ (by omega) L866 G A m tg ln F ((i + (4))) (n) rfl g867 g868 g869 g870 g871 hC c_NP (SB_m c_SB (by omega)) c_T3 hR ⟨o64.1, o64.2⟩ ⟨o153.1, o153.2⟩ (by omega) s153 (by omega) (by omega) (by omega) (by omega) (by omega)
