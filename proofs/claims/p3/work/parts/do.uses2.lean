set_option maxRecDepth 20000 in
set_option maxHeartbeats 4000000 in
theorem k_LUses_compare2_at_6 {X : jX} {d : Nat} {R : Nat → jC} {m : Nat} {tg ln : Int → Int} {F : Int → Int → Int} {a0 cr : Int} {me pr b o : Int} (hd : 4 ≤ d + 1) (hC : HC 0 m tg ln F) (o_me : own m me) (t_me : tg me = 12) (o_pr : own m pr) (t_pr : tg pr = 8) (o_b : own m b) (t_b : tg b = 8) (o_o : own m o) (t_o : tg o = 8) (c_PSx : PSx m tg F) (c_RtS : RtS m tg F a0 cr) : ∀ (mm : Nat) (L : jL) (Fx : Int → Int → Int) (k : Int), (1000001 - k).toNat = mm → jGet L 0 = some (rv (me)) → jGet L 1 = some (rv (pr)) → jGet L 2 = some (rv (b)) → jGet L 3 = some (rv (o)) → jGet L 4 = some (.int (i32 k)) → HC 0 m tg ln Fx → Fq 0 [(12, 4)] m tg F Fx → ((-2147483648 : Int) ≤ k ∧ k ≤ 2147483647) → (0 ≤ k) → (PSx m tg Fx) → (RtS m tg Fx a0 cr) → wj X d jm238 (6, L, [], cV R m tg ln Fx) (fun o V_q => ∃ (F_q : Int → Int → Int), V_q = cV R m tg ln F_q ∧ o = .inl none ∧ HC 0 m tg ln F_q ∧ Fq 0 [(12, 4)] m tg F F_q ∧ (PSx m tg F_q) ∧ (RtS m tg F_q a0 cr) ∧ True) := by
  intro mm
  induction mm using Nat.strongRecOn with
  | ind mm ih =>
    intro L Fx k hmm gL_0 gL_1 gL_2 gL_3 gL_4 hCx hMx rx_k iv_0 cx_PSx cx_RtS
    refine jx_ld (pc_q := 8) (l_q := L) (st_q := [.int (i32 (k))]) rfl (jl_iload gL_4) ?_
    refine jx_ld (pc_q := 9) (l_q := L) (st_q := [rv (b), .int (i32 (k))]) rfl (jl_rvn gL_2) ?_
    refine cx_gi (pc_q := 12) (c := 7) (q := 14) (v := F (b) (14 : Int)) rfl rfl (by decide) (by decide) (Or.inl rfl) rfl o_b t_b (show Fx (b) (14 : Int) = F (b) (14 : Int) from hMx _ _ o_b (own_z o_b) (by rw [t_b]; rfl)) ?_
    have b1 : (0 : Int) ≤ F (b) (14 : Int) ∧ F (b) (14 : Int) ≤ 1000000 := by have z := HC_i (c := 7) (q := 14) hCx o_b t_b (by decide) rfl; rw [show Fx (b) ((14 : Nat) : Int) = F (b) (14 : Int) from (show Fx (b) (14 : Int) = F (b) (14 : Int) from hMx _ _ o_b (own_z o_b) (by rw [t_b]; rfl))] at z; exact z
    refine jx_icmp_ge (pc_q := 15) (tg := 148) rfl rfl rfl (by omega) (by omega) (by omega) (by omega) (fun h2 => ?_) (fun h2 => ?_)
    · have _q := h2
      refine jx_rt (v := none) rfl rfl rfl rfl rfl rfl ?_
      exact ⟨Fx, rfl, rfl, hCx, hMx, PSx_m cx_PSx (by omega), RtS_m cx_RtS (by omega), trivial⟩
    · have _q := h2
      refine jx_ld (pc_q := 17) (l_q := L) (st_q := [.int (i32 (k))]) rfl (jl_iload gL_4) ?_
      refine jx_ld (pc_q := 18) (l_q := L) (st_q := [rv (me), .int (i32 (k))]) rfl (jl_rvn gL_0) ?_
      refine cx_gr (pc_q := 21) (c := 11) (q := 1) (v := F (me) (1 : Int)) rfl rfl (by decide) (by decide) rfl rfl o_me t_me (show Fx (me) (1 : Int) = F (me) (1 : Int) from hMx _ _ o_me (own_z o_me) (by rw [t_me]; rfl)) ?_
      have y3 : own m (F (me) (1 : Int)) ∧ tg (F (me) (1 : Int)) = 24 ∧ ((0 : Int) ≠ 0 → ln (F (me) (1 : Int)) = 0) := by have z := HC_n (c := 11) (q := 1) hCx o_me t_me (own_z o_me) (by decide) rfl; rw [show Fx (me) ((1 : Nat) : Int) = F (me) (1 : Int) from (show Fx (me) (1 : Int) = F (me) (1 : Int) from hMx _ _ o_me (own_z o_me) (by rw [t_me]; rfl))] at z; exact ⟨z.1, z.2.1, z.2.2.1⟩
      have b4 := HC_l hCx y3.1 y3.2.1 (by decide)
      refine cx_len (pc_q := 22) rfl rfl y3.1 (by rw [y3.2.1]; decide) (by omega) ?_
      refine jx_icmp_ge (pc_q := 25) (tg := 148) rfl rfl rfl (by omega) (by omega) (by omega) (by omega) (fun h5 => ?_) (fun h5 => ?_)
      · have _q := h5
        refine jx_rt (v := none) rfl rfl rfl rfl rfl rfl ?_
        exact ⟨Fx, rfl, rfl, hCx, hMx, PSx_m cx_PSx (by omega), RtS_m cx_RtS (by omega), trivial⟩
      · have _q := h5
        refine jx_ld (pc_q := 26) (l_q := L) (st_q := [rv (me)]) rfl (jl_rvn gL_0) ?_
        refine cx_gr (pc_q := 29) (c := 11) (q := 1) (v := F (me) (1 : Int)) rfl rfl (by decide) (by decide) rfl rfl o_me t_me (show Fx (me) (1 : Int) = F (me) (1 : Int) from hMx _ _ o_me (own_z o_me) (by rw [t_me]; rfl)) ?_
        refine jx_ld (pc_q := 31) (l_q := L) (st_q := [.int (i32 (k)), rv (F (me) (1 : Int))]) rfl (jl_iload gL_4) ?_
        refine cx_aal (pc_q := 32) (z := k) rfl rfl y3.1 (by rw [y3.2.1]; decide) (by omega) (by omega) (by omega) ?_
        rw [show Fx (F (me) (1 : Int)) (k) = F (F (me) (1 : Int)) (k) from (show Fx (F (me) (1 : Int)) (k) = F (F (me) (1 : Int)) (k) from hMx _ _ y3.1 (own_z y3.1) (by rw [y3.2.1]; rfl))]
        have y6 : F (F (me) (1 : Int)) (k) = 0 ∨ (own m (F (F (me) (1 : Int)) (k)) ∧ tg (F (F (me) (1 : Int)) (k)) = 8) := by have z := HC_er (j := k) hCx y3.1 y3.2.1 (by decide) (by omega); rw [show Fx (F (me) (1 : Int)) (k) = F (F (me) (1 : Int)) (k) from (show Fx (F (me) (1 : Int)) (k) = F (F (me) (1 : Int)) (k) from hMx _ _ y3.1 (own_z y3.1) (by rw [y3.2.1]; rfl))] at z; exact z
        refine jx_ld (pc_q := 34) (l_q := jSto1 L 5 (rv (F (F (me) (1 : Int)) (k)))) (st_q := []) rfl (js_rv (by decide)) ?_
        obtain ⟨L7, eL7⟩ : ∃ q : jL, q = jSto1 L 5 (rv (F (F (me) (1 : Int)) (k))) := ⟨_, rfl⟩
        rw [← eL7]
        have g8 : jGet L7 0 = some (rv (me)) := eL7 ▸ jg_nr (by decide) gL_0
        have g9 : jGet L7 1 = some (rv (pr)) := eL7 ▸ jg_nr (by decide) gL_1
        have g10 : jGet L7 2 = some (rv (b)) := eL7 ▸ jg_nr (by decide) gL_2
        have g11 : jGet L7 3 = some (rv (o)) := eL7 ▸ jg_nr (by decide) gL_3
        have g12 : jGet L7 4 = some (.int (i32 (k))) := eL7 ▸ jg_ne (by decide) gL_4 rfl
        have g13 : jGet L7 5 = some (rv (F (F (me) (1 : Int)) (k))) := eL7 ▸ jg_eq
        clear eL7
        refine jx_ld (pc_q := 35) (l_q := L7) (st_q := [rv (b)]) rfl (jl_rvn g10) ?_
        refine jx_ld (pc_q := 36) (l_q := L7) (st_q := [rv (o), rv (b)]) rfl (jl_rvn g11) ?_
        refine cx_ane (pc_q := 39) (tg_q := 44) rfl rfl rfl (Or.inr o_o.1) (Or.inr o_b.1) (fun h14 => ?_) (fun h14 => ?_)
        · have _q := h14
          refine jx_ld (pc_q := 45) (l_q := L7) (st_q := [rv (o)]) rfl (jl_rvn g11) ?_
          refine cx_gi (pc_q := 48) (c := 7) (q := 13) (v := F (o) (13 : Int)) rfl rfl (by decide) (by decide) (Or.inl rfl) rfl o_o t_o (show Fx (o) (13 : Int) = F (o) (13 : Int) from hMx _ _ o_o (own_z o_o) (by rw [t_o]; rfl)) ?_
          have b15 : (0 : Int) ≤ F (o) (13 : Int) ∧ F (o) (13 : Int) ≤ 1000000 := by have z := HC_i (c := 7) (q := 13) hCx o_o t_o (by decide) rfl; rw [show Fx (o) ((13 : Nat) : Int) = F (o) (13 : Int) from (show Fx (o) (13 : Int) = F (o) (13 : Int) from hMx _ _ o_o (own_z o_o) (by rw [t_o]; rfl))] at z; exact z
          refine jx_ld (pc_q := 50) (l_q := jSto1 L7 6 (.int (i32 (F (o) (13 : Int))))) (st_q := []) rfl rfl ?_
          obtain ⟨L16, eL16⟩ : ∃ q : jL, q = jSto1 L7 6 (.int (i32 (F (o) (13 : Int)))) := ⟨_, rfl⟩
          rw [← eL16]
          have g17 : jGet L16 0 = some (rv (me)) := eL16 ▸ jg_nr (by decide) g8
          have g18 : jGet L16 1 = some (rv (pr)) := eL16 ▸ jg_nr (by decide) g9
          have g19 : jGet L16 2 = some (rv (b)) := eL16 ▸ jg_nr (by decide) g10
          have g20 : jGet L16 3 = some (rv (o)) := eL16 ▸ jg_nr (by decide) g11
          have g21 : jGet L16 4 = some (.int (i32 (k))) := eL16 ▸ jg_ne (by decide) g12 rfl
          have g22 : jGet L16 5 = some (rv (F (F (me) (1 : Int)) (k))) := eL16 ▸ jg_nr (by decide) g13
          have g23 : jGet L16 6 = some (.int (i32 (F (o) (13 : Int)))) := eL16 ▸ jg_eq
          clear eL16
          have hin : ∀ (mm2 : Nat) (L2 : jL) (Fx2 : Int → Int → Int) (j : Int), (1000001 - j).toNat = mm2 → jGet L2 0 = some (rv (me)) → jGet L2 1 = some (rv (pr)) → jGet L2 2 = some (rv (b)) → jGet L2 3 = some (rv (o)) → jGet L2 4 = some (.int (i32 (k))) → jGet L2 5 = some (rv (F (F (me) (1 : Int)) (k))) → jGet L2 6 = some (.int (i32 j)) → HC 0 m tg ln Fx2 → Fq 0 [(12, 4)] m tg F Fx2 → ((-2147483648 : Int) ≤ j ∧ j ≤ 2147483647) → (0 ≤ j) → (PSx m tg Fx2) → (RtS m tg Fx2 a0 cr) → wj X d jm238 (50, L2, [], cV R m tg ln Fx2) (fun o V_q => ∃ (F_q : Int → Int → Int), V_q = cV R m tg ln F_q ∧ o = .inl none ∧ HC 0 m tg ln F_q ∧ Fq 0 [(12, 4)] m tg F F_q ∧ (PSx m tg F_q) ∧ (RtS m tg F_q a0 cr) ∧ True) := by
            intro mm2
            induction mm2 using Nat.strongRecOn with
            | ind mm2 ih2 =>
              intro L2 Fx2 j hmm2 gL2_0 gL2_1 gL2_2 gL2_3 gL2_4 gL2_5 gL2_6 hCx2 hMx2 rx2_j iv2_0 cx2_PSx cx2_RtS
              refine jx_ld (pc_q := 52) (l_q := L2) (st_q := [.int (i32 (j))]) rfl (jl_iload gL2_6) ?_
              refine jx_ld (pc_q := 53) (l_q := L2) (st_q := [rv (o), .int (i32 (j))]) rfl (jl_rvn gL2_3) ?_
              refine cx_gi (pc_q := 56) (c := 7) (q := 14) (v := F (o) (14 : Int)) rfl rfl (by decide) (by decide) (Or.inl rfl) rfl o_o t_o (show Fx2 (o) (14 : Int) = F (o) (14 : Int) from hMx2 _ _ o_o (own_z o_o) (by rw [t_o]; rfl)) ?_
              have b24 : (0 : Int) ≤ F (o) (14 : Int) ∧ F (o) (14 : Int) ≤ 1000000 := by have z := HC_i (c := 7) (q := 14) hCx2 o_o t_o (by decide) rfl; rw [show Fx2 (o) ((14 : Nat) : Int) = F (o) (14 : Int) from (show Fx2 (o) (14 : Int) = F (o) (14 : Int) from hMx2 _ _ o_o (own_z o_o) (by rw [t_o]; rfl))] at z; exact z
              refine jx_icmp_ge (pc_q := 59) (tg := 142) rfl rfl rfl (by omega) (by omega) (by omega) (by omega) (fun h25 => ?_) (fun h25 => ?_)
              · have _q := h25
                refine jx_inc (pc_q := 145) (l_q := jSto1 L2 4 (.int (i32 (k + (1))))) (x := k) rfl gL2_4 (by decide) rfl rfl ?_
                obtain ⟨L26, eL26⟩ : ∃ q : jL, q = jSto1 L2 4 (.int (i32 ((k + (1))))) := ⟨_, rfl⟩
                rw [← eL26]
                have g27 : jGet L26 0 = some (rv (me)) := eL26 ▸ jg_nr (by decide) gL2_0
                have g28 : jGet L26 1 = some (rv (pr)) := eL26 ▸ jg_nr (by decide) gL2_1
                have g29 : jGet L26 2 = some (rv (b)) := eL26 ▸ jg_nr (by decide) gL2_2
                have g30 : jGet L26 3 = some (rv (o)) := eL26 ▸ jg_nr (by decide) gL2_3
                have g31 : jGet L26 5 = some (rv (F (F (me) (1 : Int)) (k))) := eL26 ▸ jg_nr (by decide) gL2_5
                have g32 : jGet L26 6 = some (.int (i32 (j))) := eL26 ▸ jg_ne (by decide) gL2_6 rfl
                have g33 : jGet L26 4 = some (.int (i32 ((k + (1))))) := eL26 ▸ jg_eq
                clear eL26
                refine jx_go (tg := 6) rfl rfl ?_
                exact ih _ (by omega) L26 Fx2 ((k + (1))) rfl g27 g28 g29 g30 g33 hCx2 hMx2 (by omega) (by omega) (PSx_m cx2_PSx (by omega)) (RtS_m cx2_RtS (by omega))
              · have _q := h25
                refine jx_ld (pc_q := 61) (l_q := L2) (st_q := [.int (i32 (j))]) rfl (jl_iload gL2_6) ?_
                refine jx_ld (pc_q := 62) (l_q := L2) (st_q := [rv (me), .int (i32 (j))]) rfl (jl_rvn gL2_0) ?_
                refine cx_gr (pc_q := 65) (c := 11) (q := 1) (v := F (me) (1 : Int)) rfl rfl (by decide) (by decide) rfl rfl o_me t_me (show Fx2 (me) (1 : Int) = F (me) (1 : Int) from hMx2 _ _ o_me (own_z o_me) (by rw [t_me]; rfl)) ?_
                refine cx_len (pc_q := 66) rfl rfl y3.1 (by rw [y3.2.1]; decide) (by omega) ?_
                refine jx_icmp_ge (pc_q := 69) (tg := 142) rfl rfl rfl (by omega) (by omega) (by omega) (by omega) (fun h34 => ?_) (fun h34 => ?_)
                · have _q := h34
                  refine jx_inc (pc_q := 145) (l_q := jSto1 L2 4 (.int (i32 (k + (1))))) (x := k) rfl gL2_4 (by decide) rfl rfl ?_
                  obtain ⟨L35, eL35⟩ : ∃ q : jL, q = jSto1 L2 4 (.int (i32 ((k + (1))))) := ⟨_, rfl⟩
                  rw [← eL35]
                  have g36 : jGet L35 0 = some (rv (me)) := eL35 ▸ jg_nr (by decide) gL2_0
                  have g37 : jGet L35 1 = some (rv (pr)) := eL35 ▸ jg_nr (by decide) gL2_1
                  have g38 : jGet L35 2 = some (rv (b)) := eL35 ▸ jg_nr (by decide) gL2_2
                  have g39 : jGet L35 3 = some (rv (o)) := eL35 ▸ jg_nr (by decide) gL2_3
                  have g40 : jGet L35 5 = some (rv (F (F (me) (1 : Int)) (k))) := eL35 ▸ jg_nr (by decide) gL2_5
                  have g41 : jGet L35 6 = some (.int (i32 (j))) := eL35 ▸ jg_ne (by decide) gL2_6 rfl
                  have g42 : jGet L35 4 = some (.int (i32 ((k + (1))))) := eL35 ▸ jg_eq
                  clear eL35
                  refine jx_go (tg := 6) rfl rfl ?_
                  exact ih _ (by omega) L35 Fx2 ((k + (1))) rfl g36 g37 g38 g39 g42 hCx2 hMx2 (by omega) (by omega) (PSx_m cx2_PSx (by omega)) (RtS_m cx2_RtS (by omega))
                · have _q := h34
                  refine jx_ld (pc_q := 70) (l_q := L2) (st_q := [rv (me)]) rfl (jl_rvn gL2_0) ?_
                  refine cx_gr (pc_q := 73) (c := 11) (q := 1) (v := F (me) (1 : Int)) rfl rfl (by decide) (by decide) rfl rfl o_me t_me (show Fx2 (me) (1 : Int) = F (me) (1 : Int) from hMx2 _ _ o_me (own_z o_me) (by rw [t_me]; rfl)) ?_
                  refine jx_ld (pc_q := 75) (l_q := L2) (st_q := [.int (i32 (j)), rv (F (me) (1 : Int))]) rfl (jl_iload gL2_6) ?_
                  refine cx_aal (pc_q := 76) (z := j) rfl rfl y3.1 (by rw [y3.2.1]; decide) (by omega) (by omega) (by omega) ?_
                  rw [show Fx2 (F (me) (1 : Int)) (j) = F (F (me) (1 : Int)) (j) from (show Fx2 (F (me) (1 : Int)) (j) = F (F (me) (1 : Int)) (j) from hMx2 _ _ y3.1 (own_z y3.1) (by rw [y3.2.1]; rfl))]
                  have y43 : F (F (me) (1 : Int)) (j) = 0 ∨ (own m (F (F (me) (1 : Int)) (j)) ∧ tg (F (F (me) (1 : Int)) (j)) = 8) := by have z := HC_er (j := j) hCx2 y3.1 y3.2.1 (by decide) (by omega); rw [show Fx2 (F (me) (1 : Int)) (j) = F (F (me) (1 : Int)) (j) from (show Fx2 (F (me) (1 : Int)) (j) = F (F (me) (1 : Int)) (j) from hMx2 _ _ y3.1 (own_z y3.1) (by rw [y3.2.1]; rfl))] at z; exact z
                  refine jx_ld (pc_q := 78) (l_q := jSto1 L2 7 (rv (F (F (me) (1 : Int)) (j)))) (st_q := []) rfl (js_rv (by decide)) ?_
                  obtain ⟨L44, eL44⟩ : ∃ q : jL, q = jSto1 L2 7 (rv (F (F (me) (1 : Int)) (j))) := ⟨_, rfl⟩
                  rw [← eL44]
                  have g45 : jGet L44 0 = some (rv (me)) := eL44 ▸ jg_nr (by decide) gL2_0
                  have g46 : jGet L44 1 = some (rv (pr)) := eL44 ▸ jg_nr (by decide) gL2_1
                  have g47 : jGet L44 2 = some (rv (b)) := eL44 ▸ jg_nr (by decide) gL2_2
                  have g48 : jGet L44 3 = some (rv (o)) := eL44 ▸ jg_nr (by decide) gL2_3
                  have g49 : jGet L44 4 = some (.int (i32 (k))) := eL44 ▸ jg_ne (by decide) gL2_4 rfl
                  have g50 : jGet L44 5 = some (rv (F (F (me) (1 : Int)) (k))) := eL44 ▸ jg_nr (by decide) gL2_5
                  have g51 : jGet L44 6 = some (.int (i32 (j))) := eL44 ▸ jg_ne (by decide) gL2_6 rfl
                  have g52 : jGet L44 7 = some (rv (F (F (me) (1 : Int)) (j))) := eL44 ▸ jg_eq
                  clear eL44
                  refine jx_ld (pc_q := 80) (l_q := L44) (st_q := [rv (F (F (me) (1 : Int)) (k))]) rfl (jl_rv g50) ?_
                  refine cx_nul (pc_q := 83) (tg_q := 105) rfl rfl rfl (fun h53 => ?_) (fun h53 => ?_)
                  · have _q := h53
                    refine jx_ar (pc_q := 106) (st_q := [.int (i32 (0))]) rfl rfl rfl rfl ?_
                    refine jx_ld (pc_q := 108) (l_q := jSto1 L44 8 (.int (i32 (0)))) (st_q := []) rfl rfl ?_
                    obtain ⟨L54, eL54⟩ : ∃ q : jL, q = jSto1 L44 8 (.int (i32 (0))) := ⟨_, rfl⟩
                    rw [← eL54]
                    have g55 : jGet L54 0 = some (rv (me)) := eL54 ▸ jg_nr (by decide) g45
                    have g56 : jGet L54 1 = some (rv (pr)) := eL54 ▸ jg_nr (by decide) g46
                    have g57 : jGet L54 2 = some (rv (b)) := eL54 ▸ jg_nr (by decide) g47
                    have g58 : jGet L54 3 = some (rv (o)) := eL54 ▸ jg_nr (by decide) g48
                    have g59 : jGet L54 4 = some (.int (i32 (k))) := eL54 ▸ jg_ne (by decide) g49 rfl
                    have g60 : jGet L54 5 = some (rv (F (F (me) (1 : Int)) (k))) := eL54 ▸ jg_nr (by decide) g50
                    have g61 : jGet L54 6 = some (.int (i32 (j))) := eL54 ▸ jg_ne (by decide) g51 rfl
                    have g62 : jGet L54 7 = some (rv (F (F (me) (1 : Int)) (j))) := eL54 ▸ jg_nr (by decide) g52
                    have g63 : jGet L54 8 = some (.int (i32 (0))) := eL54 ▸ jg_eq
                    clear eL54
                    refine jx_ld (pc_q := 110) (l_q := L54) (st_q := [.int (i32 (0))]) rfl (jl_iload g63) ?_
                    refine jx_if_eq (pc_q := 113) (tg := 136) rfl rfl rfl (by decide) (by decide) (fun h64 => ?_) (fun h64 => ?_)
                    · have _q := h64
                      refine jx_inc (pc_q := 139) (l_q := jSto1 L54 6 (.int (i32 (j + (1))))) (x := j) rfl g61 (by decide) rfl rfl ?_
                      obtain ⟨L65, eL65⟩ : ∃ q : jL, q = jSto1 L54 6 (.int (i32 ((j + (1))))) := ⟨_, rfl⟩
                      rw [← eL65]
                      have g66 : jGet L65 0 = some (rv (me)) := eL65 ▸ jg_nr (by decide) g55
                      have g67 : jGet L65 1 = some (rv (pr)) := eL65 ▸ jg_nr (by decide) g56
                      have g68 : jGet L65 2 = some (rv (b)) := eL65 ▸ jg_nr (by decide) g57
                      have g69 : jGet L65 3 = some (rv (o)) := eL65 ▸ jg_nr (by decide) g58
                      have g70 : jGet L65 4 = some (.int (i32 (k))) := eL65 ▸ jg_ne (by decide) g59 rfl
                      have g71 : jGet L65 5 = some (rv (F (F (me) (1 : Int)) (k))) := eL65 ▸ jg_nr (by decide) g60
                      have g72 : jGet L65 7 = some (rv (F (F (me) (1 : Int)) (j))) := eL65 ▸ jg_nr (by decide) g62
                      have g73 : jGet L65 8 = some (.int (i32 (0))) := eL65 ▸ jg_ne (by decide) g63 rfl
                      have g74 : jGet L65 6 = some (.int (i32 ((j + (1))))) := eL65 ▸ jg_eq
                      clear eL65
                      refine jx_go (tg := 50) rfl rfl ?_
                      exact ih2 _ (by omega) L65 Fx2 ((j + (1))) rfl g66 g67 g68 g69 g70 g71 g74 hCx2 hMx2 (by omega) (by omega) (PSx_m cx2_PSx (by omega)) (RtS_m cx2_RtS (by omega))
                    · have _q := h64
                      exact absurd h64 (by omega)
                  · have _q := h53
                    have ho75 : own m (F (F (me) (1 : Int)) (k)) ∧ tg (F (F (me) (1 : Int)) (k)) = 8 := y6.resolve_left h53
                    refine jx_ld (pc_q := 85) (l_q := L44) (st_q := [rv (F (F (me) (1 : Int)) (j))]) rfl (jl_rv g52) ?_
                    refine cx_nul (pc_q := 88) (tg_q := 105) rfl rfl rfl (fun h76 => ?_) (fun h76 => ?_)
                    · have _q := h76
                      refine jx_ar (pc_q := 106) (st_q := [.int (i32 (0))]) rfl rfl rfl rfl ?_
                      refine jx_ld (pc_q := 108) (l_q := jSto1 L44 8 (.int (i32 (0)))) (st_q := []) rfl rfl ?_
                      obtain ⟨L77, eL77⟩ : ∃ q : jL, q = jSto1 L44 8 (.int (i32 (0))) := ⟨_, rfl⟩
                      rw [← eL77]
                      have g78 : jGet L77 0 = some (rv (me)) := eL77 ▸ jg_nr (by decide) g45
                      have g79 : jGet L77 1 = some (rv (pr)) := eL77 ▸ jg_nr (by decide) g46
                      have g80 : jGet L77 2 = some (rv (b)) := eL77 ▸ jg_nr (by decide) g47
                      have g81 : jGet L77 3 = some (rv (o)) := eL77 ▸ jg_nr (by decide) g48
                      have g82 : jGet L77 4 = some (.int (i32 (k))) := eL77 ▸ jg_ne (by decide) g49 rfl
                      have g83 : jGet L77 5 = some (rv (F (F (me) (1 : Int)) (k))) := eL77 ▸ jg_nr (by decide) g50
                      have g84 : jGet L77 6 = some (.int (i32 (j))) := eL77 ▸ jg_ne (by decide) g51 rfl
                      have g85 : jGet L77 7 = some (rv (F (F (me) (1 : Int)) (j))) := eL77 ▸ jg_nr (by decide) g52
                      have g86 : jGet L77 8 = some (.int (i32 (0))) := eL77 ▸ jg_eq
                      clear eL77
                      refine jx_ld (pc_q := 110) (l_q := L77) (st_q := [.int (i32 (0))]) rfl (jl_iload g86) ?_
                      refine jx_if_eq (pc_q := 113) (tg := 136) rfl rfl rfl (by decide) (by decide) (fun h87 => ?_) (fun h87 => ?_)
                      · have _q := h87
                        refine jx_inc (pc_q := 139) (l_q := jSto1 L77 6 (.int (i32 (j + (1))))) (x := j) rfl g84 (by decide) rfl rfl ?_
                        obtain ⟨L88, eL88⟩ : ∃ q : jL, q = jSto1 L77 6 (.int (i32 ((j + (1))))) := ⟨_, rfl⟩
                        rw [← eL88]
                        have g89 : jGet L88 0 = some (rv (me)) := eL88 ▸ jg_nr (by decide) g78
                        have g90 : jGet L88 1 = some (rv (pr)) := eL88 ▸ jg_nr (by decide) g79
                        have g91 : jGet L88 2 = some (rv (b)) := eL88 ▸ jg_nr (by decide) g80
                        have g92 : jGet L88 3 = some (rv (o)) := eL88 ▸ jg_nr (by decide) g81
                        have g93 : jGet L88 4 = some (.int (i32 (k))) := eL88 ▸ jg_ne (by decide) g82 rfl
                        have g94 : jGet L88 5 = some (rv (F (F (me) (1 : Int)) (k))) := eL88 ▸ jg_nr (by decide) g83
                        have g95 : jGet L88 7 = some (rv (F (F (me) (1 : Int)) (j))) := eL88 ▸ jg_nr (by decide) g85
                        have g96 : jGet L88 8 = some (.int (i32 (0))) := eL88 ▸ jg_ne (by decide) g86 rfl
                        have g97 : jGet L88 6 = some (.int (i32 ((j + (1))))) := eL88 ▸ jg_eq
                        clear eL88
                        refine jx_go (tg := 50) rfl rfl ?_
                        exact ih2 _ (by omega) L88 Fx2 ((j + (1))) rfl g89 g90 g91 g92 g93 g94 g97 hCx2 hMx2 (by omega) (by omega) (PSx_m cx2_PSx (by omega)) (RtS_m cx2_RtS (by omega))
                      · have _q := h87
                        exact absurd h87 (by omega)
                    · have _q := h76
                      have ho98 : own m (F (F (me) (1 : Int)) (j)) ∧ tg (F (F (me) (1 : Int)) (j)) = 8 := y43.resolve_left h76
                      refine jx_ld (pc_q := 90) (l_q := L44) (st_q := [rv (F (F (me) (1 : Int)) (k))]) rfl (jl_rv g50) ?_
                      refine cx_gr (pc_q := 93) (c := 7) (q := 3) (v := F (F (F (me) (1 : Int)) (k)) (3 : Int)) rfl rfl (by decide) (by decide) rfl rfl ho75.1 ho75.2 (show Fx2 (F (F (me) (1 : Int)) (k)) (3 : Int) = F (F (F (me) (1 : Int)) (k)) (3 : Int) from hMx2 _ _ ho75.1 (own_z ho75.1) (by rw [ho75.2]; rfl)) ?_
                      have y99 : F (F (F (me) (1 : Int)) (k)) (3 : Int) = 0 ∨ (own m (F (F (F (me) (1 : Int)) (k)) (3 : Int)) ∧ tg (F (F (F (me) (1 : Int)) (k)) (3 : Int)) = 7) := by have z := HC_r (c := 7) (q := 3) hCx2 ho75.1 ho75.2 (by decide) rfl; rw [show Fx2 (F (F (me) (1 : Int)) (k)) ((3 : Nat) : Int) = F (F (F (me) (1 : Int)) (k)) (3 : Int) from (show Fx2 (F (F (me) (1 : Int)) (k)) (3 : Int) = F (F (F (me) (1 : Int)) (k)) (3 : Int) from hMx2 _ _ ho75.1 (own_z ho75.1) (by rw [ho75.2]; rfl))] at z; exact z
                      refine jx_ld (pc_q := 95) (l_q := L44) (st_q := [rv (F (F (me) (1 : Int)) (j)), rv (F (F (F (me) (1 : Int)) (k)) (3 : Int))]) rfl (jl_rv g52) ?_
                      refine cx_gr (pc_q := 98) (c := 7) (q := 3) (v := F (F (F (me) (1 : Int)) (j)) (3 : Int)) rfl rfl (by decide) (by decide) rfl rfl ho98.1 ho98.2 (show Fx2 (F (F (me) (1 : Int)) (j)) (3 : Int) = F (F (F (me) (1 : Int)) (j)) (3 : Int) from hMx2 _ _ ho98.1 (own_z ho98.1) (by rw [ho98.2]; rfl)) ?_
                      have y100 : F (F (F (me) (1 : Int)) (j)) (3 : Int) = 0 ∨ (own m (F (F (F (me) (1 : Int)) (j)) (3 : Int)) ∧ tg (F (F (F (me) (1 : Int)) (j)) (3 : Int)) = 7) := by have z := HC_r (c := 7) (q := 3) hCx2 ho98.1 ho98.2 (by decide) rfl; rw [show Fx2 (F (F (me) (1 : Int)) (j)) ((3 : Nat) : Int) = F (F (F (me) (1 : Int)) (j)) (3 : Int) from (show Fx2 (F (F (me) (1 : Int)) (j)) (3 : Int) = F (F (F (me) (1 : Int)) (j)) (3 : Int) from hMx2 _ _ ho98.1 (own_z ho98.1) (by rw [ho98.2]; rfl))] at z; exact z
                      refine cx_ane (pc_q := 101) (tg_q := 105) rfl rfl rfl (y100.imp_right (fun h => h.1.1)) (y99.imp_right (fun h => h.1.1)) (fun h101 => ?_) (fun h101 => ?_)
                      · have _q := h101
                        refine jx_ar (pc_q := 106) (st_q := [.int (i32 (0))]) rfl rfl rfl rfl ?_
                        refine jx_ld (pc_q := 108) (l_q := jSto1 L44 8 (.int (i32 (0)))) (st_q := []) rfl rfl ?_
                        obtain ⟨L102, eL102⟩ : ∃ q : jL, q = jSto1 L44 8 (.int (i32 (0))) := ⟨_, rfl⟩
                        rw [← eL102]
                        have g103 : jGet L102 0 = some (rv (me)) := eL102 ▸ jg_nr (by decide) g45
                        have g104 : jGet L102 1 = some (rv (pr)) := eL102 ▸ jg_nr (by decide) g46
                        have g105 : jGet L102 2 = some (rv (b)) := eL102 ▸ jg_nr (by decide) g47
                        have g106 : jGet L102 3 = some (rv (o)) := eL102 ▸ jg_nr (by decide) g48
                        have g107 : jGet L102 4 = some (.int (i32 (k))) := eL102 ▸ jg_ne (by decide) g49 rfl
                        have g108 : jGet L102 5 = some (rv (F (F (me) (1 : Int)) (k))) := eL102 ▸ jg_nr (by decide) g50
                        have g109 : jGet L102 6 = some (.int (i32 (j))) := eL102 ▸ jg_ne (by decide) g51 rfl
                        have g110 : jGet L102 7 = some (rv (F (F (me) (1 : Int)) (j))) := eL102 ▸ jg_nr (by decide) g52
                        have g111 : jGet L102 8 = some (.int (i32 (0))) := eL102 ▸ jg_eq
                        clear eL102
                        refine jx_ld (pc_q := 110) (l_q := L102) (st_q := [.int (i32 (0))]) rfl (jl_iload g111) ?_
                        refine jx_if_eq (pc_q := 113) (tg := 136) rfl rfl rfl (by decide) (by decide) (fun h112 => ?_) (fun h112 => ?_)
                        · have _q := h112
                          refine jx_inc (pc_q := 139) (l_q := jSto1 L102 6 (.int (i32 (j + (1))))) (x := j) rfl g109 (by decide) rfl rfl ?_
                          obtain ⟨L113, eL113⟩ : ∃ q : jL, q = jSto1 L102 6 (.int (i32 ((j + (1))))) := ⟨_, rfl⟩
                          rw [← eL113]
                          have g114 : jGet L113 0 = some (rv (me)) := eL113 ▸ jg_nr (by decide) g103
                          have g115 : jGet L113 1 = some (rv (pr)) := eL113 ▸ jg_nr (by decide) g104
                          have g116 : jGet L113 2 = some (rv (b)) := eL113 ▸ jg_nr (by decide) g105
                          have g117 : jGet L113 3 = some (rv (o)) := eL113 ▸ jg_nr (by decide) g106
                          have g118 : jGet L113 4 = some (.int (i32 (k))) := eL113 ▸ jg_ne (by decide) g107 rfl
                          have g119 : jGet L113 5 = some (rv (F (F (me) (1 : Int)) (k))) := eL113 ▸ jg_nr (by decide) g108
                          have g120 : jGet L113 7 = some (rv (F (F (me) (1 : Int)) (j))) := eL113 ▸ jg_nr (by decide) g110
                          have g121 : jGet L113 8 = some (.int (i32 (0))) := eL113 ▸ jg_ne (by decide) g111 rfl
                          have g122 : jGet L113 6 = some (.int (i32 ((j + (1))))) := eL113 ▸ jg_eq
                          clear eL113
                          refine jx_go (tg := 50) rfl rfl ?_
                          exact ih2 _ (by omega) L113 Fx2 ((j + (1))) rfl g114 g115 g116 g117 g118 g119 g122 hCx2 hMx2 (by omega) (by omega) (PSx_m cx2_PSx (by omega)) (RtS_m cx2_RtS (by omega))
                        · have _q := h112
                          exact absurd h112 (by omega)
                      · have _q := h101
                        refine jx_ar (pc_q := 102) (st_q := [.int (i32 (1))]) rfl rfl rfl rfl ?_
                        refine jx_go (tg := 106) rfl rfl ?_
                        refine jx_ld (pc_q := 108) (l_q := jSto1 L44 8 (.int (i32 (1)))) (st_q := []) rfl rfl ?_
                        obtain ⟨L123, eL123⟩ : ∃ q : jL, q = jSto1 L44 8 (.int (i32 (1))) := ⟨_, rfl⟩
                        rw [← eL123]
                        have g124 : jGet L123 0 = some (rv (me)) := eL123 ▸ jg_nr (by decide) g45
                        have g125 : jGet L123 1 = some (rv (pr)) := eL123 ▸ jg_nr (by decide) g46
                        have g126 : jGet L123 2 = some (rv (b)) := eL123 ▸ jg_nr (by decide) g47
                        have g127 : jGet L123 3 = some (rv (o)) := eL123 ▸ jg_nr (by decide) g48
                        have g128 : jGet L123 4 = some (.int (i32 (k))) := eL123 ▸ jg_ne (by decide) g49 rfl
                        have g129 : jGet L123 5 = some (rv (F (F (me) (1 : Int)) (k))) := eL123 ▸ jg_nr (by decide) g50
                        have g130 : jGet L123 6 = some (.int (i32 (j))) := eL123 ▸ jg_ne (by decide) g51 rfl
                        have g131 : jGet L123 7 = some (rv (F (F (me) (1 : Int)) (j))) := eL123 ▸ jg_nr (by decide) g52
                        have g132 : jGet L123 8 = some (.int (i32 (1))) := eL123 ▸ jg_eq
                        clear eL123
                        refine jx_ld (pc_q := 110) (l_q := L123) (st_q := [.int (i32 (1))]) rfl (jl_iload g132) ?_
                        refine jx_if_eq (pc_q := 113) (tg := 136) rfl rfl rfl (by decide) (by decide) (fun h133 => ?_) (fun h133 => ?_)
                        · have _q := h133
                          exact absurd h133 (by omega)
                        · have _q := h133
                          refine jx_ld (pc_q := 115) (l_q := L123) (st_q := [rv (F (F (me) (1 : Int)) (k))]) rfl (jl_rv g129) ?_
                          refine jx_ld (pc_q := 117) (l_q := L123) (st_q := [rv (F (F (me) (1 : Int)) (j)), rv (F (F (me) (1 : Int)) (k))]) rfl (jl_rv g131) ?_
                          refine jx_ld (pc_q := 118) (l_q := L123) (st_q := [rv (pr), rv (F (F (me) (1 : Int)) (j)), rv (F (F (me) (1 : Int)) (k))]) rfl (jl_rvn g125) ?_
                          refine cx_gr (pc_q := 121) (c := 7) (q := 3) (v := F (pr) (3 : Int)) rfl rfl (by decide) (by decide) rfl rfl o_pr t_pr (show Fx2 (pr) (3 : Int) = F (pr) (3 : Int) from hMx2 _ _ o_pr (own_z o_pr) (by rw [t_pr]; rfl)) ?_
                          have y134 : F (pr) (3 : Int) = 0 ∨ (own m (F (pr) (3 : Int)) ∧ tg (F (pr) (3 : Int)) = 7) := by have z := HC_r (c := 7) (q := 3) hCx2 o_pr t_pr (by decide) rfl; rw [show Fx2 (pr) ((3 : Nat) : Int) = F (pr) (3 : Int) from (show Fx2 (pr) (3 : Int) = F (pr) (3 : Int) from hMx2 _ _ o_pr (own_z o_pr) (by rw [t_pr]; rfl))] at z; exact z
                          have q135 : Fx2 (F (F (me) (1 : Int)) (k)) (3 : Int) = F (F (F (me) (1 : Int)) (k)) (3 : Int) := (show Fx2 (F (F (me) (1 : Int)) (k)) (3 : Int) = F (F (F (me) (1 : Int)) (k)) (3 : Int) from hMx2 _ _ ho75.1 (own_z ho75.1) (by rw [ho75.2]; rfl))
                          refine cx_st (st := []) (as := [rv (F (F (me) (1 : Int)) (k)), rv (F (F (me) (1 : Int)) (j)), rv (F (pr) (3 : Int))]) rfl rfl rfl ⟨rfl, (Nat.le_of_ble_eq_true rfl)⟩ rfl (k_LUses_against (dd := d) (R := R) (m := m) (tg := tg) (ln := ln) (F := Fx2) (p := F (F (me) (1 : Int)) (k)) (o := F (F (me) (1 : Int)) (j)) (ix := F (pr) (3 : Int)) (hd := by omega) (hC := hCx2) (o_p := ho75.1) (t_p := ho75.2) (o_o := ho98.1) (t_o := ho98.2) (y_ix := y134) (p_0 := (by rw [show Fx2 (F (F (me) (1 : Int)) (k)) (3 : Int) = F (F (F (me) (1 : Int)) (k)) (3 : Int) from (show Fx2 (F (F (me) (1 : Int)) (k)) (3 : Int) = F (F (F (me) (1 : Int)) (k)) (3 : Int) from hMx2 _ _ ho75.1 (own_z ho75.1) (by rw [ho75.2]; rfl))]; exact (c_PSx.2 _ y3.1 y3.2.1 (show F (F (me) (1 : Int)) (-1) = 5 by have z := HC_n (c := 11) (q := 1) hC o_me t_me (own_z o_me) (by decide) rfl; exact z.2.2.2 (by decide)) _ (by omega) (own_z ho75.1)).2.2))) (fun o V_q hq => ?_)
                          obtain ⟨r136, rfl, rfl, b137, -⟩ := hq
                          refine Or.inr (Or.inl ⟨_, rfl, ?_⟩)
                          refine jx_if_eq (pc_q := 127) (tg := 136) rfl rfl rfl (by omega) (by omega) (fun h138 => ?_) (fun h138 => ?_)
                          · have _q := h138
                            refine jx_inc (pc_q := 139) (l_q := jSto1 L123 6 (.int (i32 (j + (1))))) (x := j) rfl g130 (by decide) rfl rfl ?_
                            obtain ⟨L139, eL139⟩ : ∃ q : jL, q = jSto1 L123 6 (.int (i32 ((j + (1))))) := ⟨_, rfl⟩
                            rw [← eL139]
                            have g140 : jGet L139 0 = some (rv (me)) := eL139 ▸ jg_nr (by decide) g124
                            have g141 : jGet L139 1 = some (rv (pr)) := eL139 ▸ jg_nr (by decide) g125
                            have g142 : jGet L139 2 = some (rv (b)) := eL139 ▸ jg_nr (by decide) g126
                            have g143 : jGet L139 3 = some (rv (o)) := eL139 ▸ jg_nr (by decide) g127
                            have g144 : jGet L139 4 = some (.int (i32 (k))) := eL139 ▸ jg_ne (by decide) g128 rfl
                            have g145 : jGet L139 5 = some (rv (F (F (me) (1 : Int)) (k))) := eL139 ▸ jg_nr (by decide) g129
                            have g146 : jGet L139 7 = some (rv (F (F (me) (1 : Int)) (j))) := eL139 ▸ jg_nr (by decide) g131
                            have g147 : jGet L139 8 = some (.int (i32 (1))) := eL139 ▸ jg_ne (by decide) g132 rfl
                            have g148 : jGet L139 6 = some (.int (i32 ((j + (1))))) := eL139 ▸ jg_eq
                            clear eL139
                            refine jx_go (tg := 50) rfl rfl ?_
                            exact ih2 _ (by omega) L139 Fx2 ((j + (1))) rfl g140 g141 g142 g143 g144 g145 g148 hCx2 hMx2 (by omega) (by omega) (PSx_m cx2_PSx (by omega)) (RtS_m cx2_RtS (by omega))
                          · have _q := h138
                            refine jx_ld (pc_q := 128) (l_q := L123) (st_q := [rv (me)]) rfl (jl_rvn g124) ?_
                            refine jx_ld (pc_q := 129) (l_q := L123) (st_q := [rv (pr), rv (me)]) rfl (jl_rvn g125) ?_
                            refine cx_gi (pc_q := 132) (c := 7) (q := 1) (v := F (pr) (1 : Int)) rfl rfl (by decide) (by decide) (Or.inl rfl) rfl o_pr t_pr (show Fx2 (pr) (1 : Int) = F (pr) (1 : Int) from hMx2 _ _ o_pr (own_z o_pr) (by rw [t_pr]; rfl)) ?_
                            have b149 : (-2147483648 : Int) ≤ F (pr) (1 : Int) ∧ F (pr) (1 : Int) ≤ 2147483647 := by have z := HC_i (c := 7) (q := 1) hCx2 o_pr t_pr (by decide) rfl; rw [show Fx2 (pr) ((1 : Nat) : Int) = F (pr) (1 : Int) from (show Fx2 (pr) (1 : Int) = F (pr) (1 : Int) from hMx2 _ _ o_pr (own_z o_pr) (by rw [t_pr]; rfl))] at z; exact z
                            refine cx_vi (c := 11) (a := me) (st := []) (as := [.int (i32 (F (pr) (1 : Int)))]) rfl rfl rfl o_me t_me (by decide) rfl ⟨rfl, rfl, (Nat.le_of_ble_eq_true rfl)⟩ rfl (k_LUses_blame (dd := d) (R := R) (m := m) (tg := tg) (ln := ln) (F := Fx2) (me := me) (l := F (pr) (1 : Int)) (hd := by omega) (hC := hCx2) (o_me := o_me) (t_me := t_me) (h_l := by omega)) (fun o V_q hq => ?_)
                            obtain ⟨F150, rfl, rfl, hC151, hM152, -⟩ := hq
                            have hM153 : Fq 0 [(12, 4)] m tg F F150 := Fq_t (ln := ln) (ln1 := ln) hMx2 Ex_r hM152 (by decide) (Or.inl rfl)
                            have c154 : PSx m tg F150 := PSx_q cx2_PSx hM152 rfl
                            have c155 : RtS m tg F150 a0 cr := RtS_q cx2_RtS hM152 rfl
                            refine Or.inl ⟨rfl, ?_⟩
                            refine jx_rt (v := none) rfl rfl rfl rfl rfl rfl ?_
                            exact ⟨F150, rfl, rfl, hC151, hM153, PSx_m c154 (by omega), RtS_m c155 (by omega), trivial⟩
          exact hin _ L16 Fx (F (o) (13 : Int)) rfl g17 g18 g19 g20 g21 g22 g23 hCx hMx (by omega) (by omega) (PSx_m cx_PSx (by omega)) (RtS_m cx_RtS (by omega))
        · have _q := h14
          refine jx_ld (pc_q := 41) (l_q := L7) (st_q := [.int (i32 (k))]) rfl (jl_iload g12) ?_
          refine jx_go (tg := 48) rfl rfl ?_
          refine jx_ld (pc_q := 50) (l_q := jSto1 L7 6 (.int (i32 (k)))) (st_q := []) rfl rfl ?_
          obtain ⟨L156, eL156⟩ : ∃ q : jL, q = jSto1 L7 6 (.int (i32 (k))) := ⟨_, rfl⟩
          rw [← eL156]
          have g157 : jGet L156 0 = some (rv (me)) := eL156 ▸ jg_nr (by decide) g8
          have g158 : jGet L156 1 = some (rv (pr)) := eL156 ▸ jg_nr (by decide) g9
          have g159 : jGet L156 2 = some (rv (b)) := eL156 ▸ jg_nr (by decide) g10
          have g160 : jGet L156 3 = some (rv (o)) := eL156 ▸ jg_nr (by decide) g11
          have g161 : jGet L156 4 = some (.int (i32 (k))) := eL156 ▸ jg_ne (by decide) g12 rfl
          have g162 : jGet L156 5 = some (rv (F (F (me) (1 : Int)) (k))) := eL156 ▸ jg_nr (by decide) g13
          have g163 : jGet L156 6 = some (.int (i32 (k))) := eL156 ▸ jg_eq
          clear eL156
          have hin : ∀ (mm2 : Nat) (L2 : jL) (Fx2 : Int → Int → Int) (j : Int), (1000001 - j).toNat = mm2 → jGet L2 0 = some (rv (me)) → jGet L2 1 = some (rv (pr)) → jGet L2 2 = some (rv (b)) → jGet L2 3 = some (rv (o)) → jGet L2 4 = some (.int (i32 (k))) → jGet L2 5 = some (rv (F (F (me) (1 : Int)) (k))) → jGet L2 6 = some (.int (i32 j)) → HC 0 m tg ln Fx2 → Fq 0 [(12, 4)] m tg F Fx2 → ((-2147483648 : Int) ≤ j ∧ j ≤ 2147483647) → (0 ≤ j) → (PSx m tg Fx2) → (RtS m tg Fx2 a0 cr) → wj X d jm238 (50, L2, [], cV R m tg ln Fx2) (fun o V_q => ∃ (F_q : Int → Int → Int), V_q = cV R m tg ln F_q ∧ o = .inl none ∧ HC 0 m tg ln F_q ∧ Fq 0 [(12, 4)] m tg F F_q ∧ (PSx m tg F_q) ∧ (RtS m tg F_q a0 cr) ∧ True) := by
            intro mm2
            induction mm2 using Nat.strongRecOn with
            | ind mm2 ih2 =>
              intro L2 Fx2 j hmm2 gL2_0 gL2_1 gL2_2 gL2_3 gL2_4 gL2_5 gL2_6 hCx2 hMx2 rx2_j iv2_0 cx2_PSx cx2_RtS
              refine jx_ld (pc_q := 52) (l_q := L2) (st_q := [.int (i32 (j))]) rfl (jl_iload gL2_6) ?_
              refine jx_ld (pc_q := 53) (l_q := L2) (st_q := [rv (o), .int (i32 (j))]) rfl (jl_rvn gL2_3) ?_
              refine cx_gi (pc_q := 56) (c := 7) (q := 14) (v := F (o) (14 : Int)) rfl rfl (by decide) (by decide) (Or.inl rfl) rfl o_o t_o (show Fx2 (o) (14 : Int) = F (o) (14 : Int) from hMx2 _ _ o_o (own_z o_o) (by rw [t_o]; rfl)) ?_
              have b164 : (0 : Int) ≤ F (o) (14 : Int) ∧ F (o) (14 : Int) ≤ 1000000 := by have z := HC_i (c := 7) (q := 14) hCx2 o_o t_o (by decide) rfl; rw [show Fx2 (o) ((14 : Nat) : Int) = F (o) (14 : Int) from (show Fx2 (o) (14 : Int) = F (o) (14 : Int) from hMx2 _ _ o_o (own_z o_o) (by rw [t_o]; rfl))] at z; exact z
              refine jx_icmp_ge (pc_q := 59) (tg := 142) rfl rfl rfl (by omega) (by omega) (by omega) (by omega) (fun h165 => ?_) (fun h165 => ?_)
              · have _q := h165
                refine jx_inc (pc_q := 145) (l_q := jSto1 L2 4 (.int (i32 (k + (1))))) (x := k) rfl gL2_4 (by decide) rfl rfl ?_
                obtain ⟨L166, eL166⟩ : ∃ q : jL, q = jSto1 L2 4 (.int (i32 ((k + (1))))) := ⟨_, rfl⟩
                rw [← eL166]
                have g167 : jGet L166 0 = some (rv (me)) := eL166 ▸ jg_nr (by decide) gL2_0
                have g168 : jGet L166 1 = some (rv (pr)) := eL166 ▸ jg_nr (by decide) gL2_1
                have g169 : jGet L166 2 = some (rv (b)) := eL166 ▸ jg_nr (by decide) gL2_2
                have g170 : jGet L166 3 = some (rv (o)) := eL166 ▸ jg_nr (by decide) gL2_3
                have g171 : jGet L166 5 = some (rv (F (F (me) (1 : Int)) (k))) := eL166 ▸ jg_nr (by decide) gL2_5
                have g172 : jGet L166 6 = some (.int (i32 (j))) := eL166 ▸ jg_ne (by decide) gL2_6 rfl
                have g173 : jGet L166 4 = some (.int (i32 ((k + (1))))) := eL166 ▸ jg_eq
                clear eL166
                refine jx_go (tg := 6) rfl rfl ?_
                exact ih _ (by omega) L166 Fx2 ((k + (1))) rfl g167 g168 g169 g170 g173 hCx2 hMx2 (by omega) (by omega) (PSx_m cx2_PSx (by omega)) (RtS_m cx2_RtS (by omega))
              · have _q := h165
                refine jx_ld (pc_q := 61) (l_q := L2) (st_q := [.int (i32 (j))]) rfl (jl_iload gL2_6) ?_
                refine jx_ld (pc_q := 62) (l_q := L2) (st_q := [rv (me), .int (i32 (j))]) rfl (jl_rvn gL2_0) ?_
                refine cx_gr (pc_q := 65) (c := 11) (q := 1) (v := F (me) (1 : Int)) rfl rfl (by decide) (by decide) rfl rfl o_me t_me (show Fx2 (me) (1 : Int) = F (me) (1 : Int) from hMx2 _ _ o_me (own_z o_me) (by rw [t_me]; rfl)) ?_
                refine cx_len (pc_q := 66) rfl rfl y3.1 (by rw [y3.2.1]; decide) (by omega) ?_
                refine jx_icmp_ge (pc_q := 69) (tg := 142) rfl rfl rfl (by omega) (by omega) (by omega) (by omega) (fun h174 => ?_) (fun h174 => ?_)
                · have _q := h174
                  refine jx_inc (pc_q := 145) (l_q := jSto1 L2 4 (.int (i32 (k + (1))))) (x := k) rfl gL2_4 (by decide) rfl rfl ?_
                  obtain ⟨L175, eL175⟩ : ∃ q : jL, q = jSto1 L2 4 (.int (i32 ((k + (1))))) := ⟨_, rfl⟩
                  rw [← eL175]
                  have g176 : jGet L175 0 = some (rv (me)) := eL175 ▸ jg_nr (by decide) gL2_0
                  have g177 : jGet L175 1 = some (rv (pr)) := eL175 ▸ jg_nr (by decide) gL2_1
                  have g178 : jGet L175 2 = some (rv (b)) := eL175 ▸ jg_nr (by decide) gL2_2
                  have g179 : jGet L175 3 = some (rv (o)) := eL175 ▸ jg_nr (by decide) gL2_3
                  have g180 : jGet L175 5 = some (rv (F (F (me) (1 : Int)) (k))) := eL175 ▸ jg_nr (by decide) gL2_5
                  have g181 : jGet L175 6 = some (.int (i32 (j))) := eL175 ▸ jg_ne (by decide) gL2_6 rfl
                  have g182 : jGet L175 4 = some (.int (i32 ((k + (1))))) := eL175 ▸ jg_eq
                  clear eL175
                  refine jx_go (tg := 6) rfl rfl ?_
                  exact ih _ (by omega) L175 Fx2 ((k + (1))) rfl g176 g177 g178 g179 g182 hCx2 hMx2 (by omega) (by omega) (PSx_m cx2_PSx (by omega)) (RtS_m cx2_RtS (by omega))
                · have _q := h174
                  refine jx_ld (pc_q := 70) (l_q := L2) (st_q := [rv (me)]) rfl (jl_rvn gL2_0) ?_
                  refine cx_gr (pc_q := 73) (c := 11) (q := 1) (v := F (me) (1 : Int)) rfl rfl (by decide) (by decide) rfl rfl o_me t_me (show Fx2 (me) (1 : Int) = F (me) (1 : Int) from hMx2 _ _ o_me (own_z o_me) (by rw [t_me]; rfl)) ?_
                  refine jx_ld (pc_q := 75) (l_q := L2) (st_q := [.int (i32 (j)), rv (F (me) (1 : Int))]) rfl (jl_iload gL2_6) ?_
                  refine cx_aal (pc_q := 76) (z := j) rfl rfl y3.1 (by rw [y3.2.1]; decide) (by omega) (by omega) (by omega) ?_
                  rw [show Fx2 (F (me) (1 : Int)) (j) = F (F (me) (1 : Int)) (j) from (show Fx2 (F (me) (1 : Int)) (j) = F (F (me) (1 : Int)) (j) from hMx2 _ _ y3.1 (own_z y3.1) (by rw [y3.2.1]; rfl))]
                  have y183 : F (F (me) (1 : Int)) (j) = 0 ∨ (own m (F (F (me) (1 : Int)) (j)) ∧ tg (F (F (me) (1 : Int)) (j)) = 8) := by have z := HC_er (j := j) hCx2 y3.1 y3.2.1 (by decide) (by omega); rw [show Fx2 (F (me) (1 : Int)) (j) = F (F (me) (1 : Int)) (j) from (show Fx2 (F (me) (1 : Int)) (j) = F (F (me) (1 : Int)) (j) from hMx2 _ _ y3.1 (own_z y3.1) (by rw [y3.2.1]; rfl))] at z; exact z
                  refine jx_ld (pc_q := 78) (l_q := jSto1 L2 7 (rv (F (F (me) (1 : Int)) (j)))) (st_q := []) rfl (js_rv (by decide)) ?_
                  obtain ⟨L184, eL184⟩ : ∃ q : jL, q = jSto1 L2 7 (rv (F (F (me) (1 : Int)) (j))) := ⟨_, rfl⟩
                  rw [← eL184]
                  have g185 : jGet L184 0 = some (rv (me)) := eL184 ▸ jg_nr (by decide) gL2_0
                  have g186 : jGet L184 1 = some (rv (pr)) := eL184 ▸ jg_nr (by decide) gL2_1
                  have g187 : jGet L184 2 = some (rv (b)) := eL184 ▸ jg_nr (by decide) gL2_2
                  have g188 : jGet L184 3 = some (rv (o)) := eL184 ▸ jg_nr (by decide) gL2_3
                  have g189 : jGet L184 4 = some (.int (i32 (k))) := eL184 ▸ jg_ne (by decide) gL2_4 rfl
                  have g190 : jGet L184 5 = some (rv (F (F (me) (1 : Int)) (k))) := eL184 ▸ jg_nr (by decide) gL2_5
                  have g191 : jGet L184 6 = some (.int (i32 (j))) := eL184 ▸ jg_ne (by decide) gL2_6 rfl
                  have g192 : jGet L184 7 = some (rv (F (F (me) (1 : Int)) (j))) := eL184 ▸ jg_eq
                  clear eL184
                  refine jx_ld (pc_q := 80) (l_q := L184) (st_q := [rv (F (F (me) (1 : Int)) (k))]) rfl (jl_rv g190) ?_
                  refine cx_nul (pc_q := 83) (tg_q := 105) rfl rfl rfl (fun h193 => ?_) (fun h193 => ?_)
                  · have _q := h193
                    refine jx_ar (pc_q := 106) (st_q := [.int (i32 (0))]) rfl rfl rfl rfl ?_
                    refine jx_ld (pc_q := 108) (l_q := jSto1 L184 8 (.int (i32 (0)))) (st_q := []) rfl rfl ?_
                    obtain ⟨L194, eL194⟩ : ∃ q : jL, q = jSto1 L184 8 (.int (i32 (0))) := ⟨_, rfl⟩
                    rw [← eL194]
                    have g195 : jGet L194 0 = some (rv (me)) := eL194 ▸ jg_nr (by decide) g185
                    have g196 : jGet L194 1 = some (rv (pr)) := eL194 ▸ jg_nr (by decide) g186
                    have g197 : jGet L194 2 = some (rv (b)) := eL194 ▸ jg_nr (by decide) g187
                    have g198 : jGet L194 3 = some (rv (o)) := eL194 ▸ jg_nr (by decide) g188
                    have g199 : jGet L194 4 = some (.int (i32 (k))) := eL194 ▸ jg_ne (by decide) g189 rfl
                    have g200 : jGet L194 5 = some (rv (F (F (me) (1 : Int)) (k))) := eL194 ▸ jg_nr (by decide) g190
                    have g201 : jGet L194 6 = some (.int (i32 (j))) := eL194 ▸ jg_ne (by decide) g191 rfl
                    have g202 : jGet L194 7 = some (rv (F (F (me) (1 : Int)) (j))) := eL194 ▸ jg_nr (by decide) g192
                    have g203 : jGet L194 8 = some (.int (i32 (0))) := eL194 ▸ jg_eq
                    clear eL194
                    refine jx_ld (pc_q := 110) (l_q := L194) (st_q := [.int (i32 (0))]) rfl (jl_iload g203) ?_
                    refine jx_if_eq (pc_q := 113) (tg := 136) rfl rfl rfl (by decide) (by decide) (fun h204 => ?_) (fun h204 => ?_)
                    · have _q := h204
                      refine jx_inc (pc_q := 139) (l_q := jSto1 L194 6 (.int (i32 (j + (1))))) (x := j) rfl g201 (by decide) rfl rfl ?_
                      obtain ⟨L205, eL205⟩ : ∃ q : jL, q = jSto1 L194 6 (.int (i32 ((j + (1))))) := ⟨_, rfl⟩
                      rw [← eL205]
                      have g206 : jGet L205 0 = some (rv (me)) := eL205 ▸ jg_nr (by decide) g195
                      have g207 : jGet L205 1 = some (rv (pr)) := eL205 ▸ jg_nr (by decide) g196
                      have g208 : jGet L205 2 = some (rv (b)) := eL205 ▸ jg_nr (by decide) g197
                      have g209 : jGet L205 3 = some (rv (o)) := eL205 ▸ jg_nr (by decide) g198
                      have g210 : jGet L205 4 = some (.int (i32 (k))) := eL205 ▸ jg_ne (by decide) g199 rfl
                      have g211 : jGet L205 5 = some (rv (F (F (me) (1 : Int)) (k))) := eL205 ▸ jg_nr (by decide) g200
                      have g212 : jGet L205 7 = some (rv (F (F (me) (1 : Int)) (j))) := eL205 ▸ jg_nr (by decide) g202
                      have g213 : jGet L205 8 = some (.int (i32 (0))) := eL205 ▸ jg_ne (by decide) g203 rfl
                      have g214 : jGet L205 6 = some (.int (i32 ((j + (1))))) := eL205 ▸ jg_eq
                      clear eL205
                      refine jx_go (tg := 50) rfl rfl ?_
                      exact ih2 _ (by omega) L205 Fx2 ((j + (1))) rfl g206 g207 g208 g209 g210 g211 g214 hCx2 hMx2 (by omega) (by omega) (PSx_m cx2_PSx (by omega)) (RtS_m cx2_RtS (by omega))
                    · have _q := h204
                      exact absurd h204 (by omega)
                  · have _q := h193
                    have ho215 : own m (F (F (me) (1 : Int)) (k)) ∧ tg (F (F (me) (1 : Int)) (k)) = 8 := y6.resolve_left h193
                    refine jx_ld (pc_q := 85) (l_q := L184) (st_q := [rv (F (F (me) (1 : Int)) (j))]) rfl (jl_rv g192) ?_
                    refine cx_nul (pc_q := 88) (tg_q := 105) rfl rfl rfl (fun h216 => ?_) (fun h216 => ?_)
                    · have _q := h216
                      refine jx_ar (pc_q := 106) (st_q := [.int (i32 (0))]) rfl rfl rfl rfl ?_
                      refine jx_ld (pc_q := 108) (l_q := jSto1 L184 8 (.int (i32 (0)))) (st_q := []) rfl rfl ?_
                      obtain ⟨L217, eL217⟩ : ∃ q : jL, q = jSto1 L184 8 (.int (i32 (0))) := ⟨_, rfl⟩
                      rw [← eL217]
                      have g218 : jGet L217 0 = some (rv (me)) := eL217 ▸ jg_nr (by decide) g185
                      have g219 : jGet L217 1 = some (rv (pr)) := eL217 ▸ jg_nr (by decide) g186
                      have g220 : jGet L217 2 = some (rv (b)) := eL217 ▸ jg_nr (by decide) g187
                      have g221 : jGet L217 3 = some (rv (o)) := eL217 ▸ jg_nr (by decide) g188
                      have g222 : jGet L217 4 = some (.int (i32 (k))) := eL217 ▸ jg_ne (by decide) g189 rfl
                      have g223 : jGet L217 5 = some (rv (F (F (me) (1 : Int)) (k))) := eL217 ▸ jg_nr (by decide) g190
                      have g224 : jGet L217 6 = some (.int (i32 (j))) := eL217 ▸ jg_ne (by decide) g191 rfl
                      have g225 : jGet L217 7 = some (rv (F (F (me) (1 : Int)) (j))) := eL217 ▸ jg_nr (by decide) g192
                      have g226 : jGet L217 8 = some (.int (i32 (0))) := eL217 ▸ jg_eq
                      clear eL217
                      refine jx_ld (pc_q := 110) (l_q := L217) (st_q := [.int (i32 (0))]) rfl (jl_iload g226) ?_
                      refine jx_if_eq (pc_q := 113) (tg := 136) rfl rfl rfl (by decide) (by decide) (fun h227 => ?_) (fun h227 => ?_)
                      · have _q := h227
                        refine jx_inc (pc_q := 139) (l_q := jSto1 L217 6 (.int (i32 (j + (1))))) (x := j) rfl g224 (by decide) rfl rfl ?_
                        obtain ⟨L228, eL228⟩ : ∃ q : jL, q = jSto1 L217 6 (.int (i32 ((j + (1))))) := ⟨_, rfl⟩
                        rw [← eL228]
                        have g229 : jGet L228 0 = some (rv (me)) := eL228 ▸ jg_nr (by decide) g218
                        have g230 : jGet L228 1 = some (rv (pr)) := eL228 ▸ jg_nr (by decide) g219
                        have g231 : jGet L228 2 = some (rv (b)) := eL228 ▸ jg_nr (by decide) g220
                        have g232 : jGet L228 3 = some (rv (o)) := eL228 ▸ jg_nr (by decide) g221
                        have g233 : jGet L228 4 = some (.int (i32 (k))) := eL228 ▸ jg_ne (by decide) g222 rfl
                        have g234 : jGet L228 5 = some (rv (F (F (me) (1 : Int)) (k))) := eL228 ▸ jg_nr (by decide) g223
                        have g235 : jGet L228 7 = some (rv (F (F (me) (1 : Int)) (j))) := eL228 ▸ jg_nr (by decide) g225
                        have g236 : jGet L228 8 = some (.int (i32 (0))) := eL228 ▸ jg_ne (by decide) g226 rfl
                        have g237 : jGet L228 6 = some (.int (i32 ((j + (1))))) := eL228 ▸ jg_eq
                        clear eL228
                        refine jx_go (tg := 50) rfl rfl ?_
                        exact ih2 _ (by omega) L228 Fx2 ((j + (1))) rfl g229 g230 g231 g232 g233 g234 g237 hCx2 hMx2 (by omega) (by omega) (PSx_m cx2_PSx (by omega)) (RtS_m cx2_RtS (by omega))
                      · have _q := h227
                        exact absurd h227 (by omega)
                    · have _q := h216
                      have ho238 : own m (F (F (me) (1 : Int)) (j)) ∧ tg (F (F (me) (1 : Int)) (j)) = 8 := y183.resolve_left h216
                      refine jx_ld (pc_q := 90) (l_q := L184) (st_q := [rv (F (F (me) (1 : Int)) (k))]) rfl (jl_rv g190) ?_
                      refine cx_gr (pc_q := 93) (c := 7) (q := 3) (v := F (F (F (me) (1 : Int)) (k)) (3 : Int)) rfl rfl (by decide) (by decide) rfl rfl ho215.1 ho215.2 (show Fx2 (F (F (me) (1 : Int)) (k)) (3 : Int) = F (F (F (me) (1 : Int)) (k)) (3 : Int) from hMx2 _ _ ho215.1 (own_z ho215.1) (by rw [ho215.2]; rfl)) ?_
                      have y239 : F (F (F (me) (1 : Int)) (k)) (3 : Int) = 0 ∨ (own m (F (F (F (me) (1 : Int)) (k)) (3 : Int)) ∧ tg (F (F (F (me) (1 : Int)) (k)) (3 : Int)) = 7) := by have z := HC_r (c := 7) (q := 3) hCx2 ho215.1 ho215.2 (by decide) rfl; rw [show Fx2 (F (F (me) (1 : Int)) (k)) ((3 : Nat) : Int) = F (F (F (me) (1 : Int)) (k)) (3 : Int) from (show Fx2 (F (F (me) (1 : Int)) (k)) (3 : Int) = F (F (F (me) (1 : Int)) (k)) (3 : Int) from hMx2 _ _ ho215.1 (own_z ho215.1) (by rw [ho215.2]; rfl))] at z; exact z
                      refine jx_ld (pc_q := 95) (l_q := L184) (st_q := [rv (F (F (me) (1 : Int)) (j)), rv (F (F (F (me) (1 : Int)) (k)) (3 : Int))]) rfl (jl_rv g192) ?_
                      refine cx_gr (pc_q := 98) (c := 7) (q := 3) (v := F (F (F (me) (1 : Int)) (j)) (3 : Int)) rfl rfl (by decide) (by decide) rfl rfl ho238.1 ho238.2 (show Fx2 (F (F (me) (1 : Int)) (j)) (3 : Int) = F (F (F (me) (1 : Int)) (j)) (3 : Int) from hMx2 _ _ ho238.1 (own_z ho238.1) (by rw [ho238.2]; rfl)) ?_
                      have y240 : F (F (F (me) (1 : Int)) (j)) (3 : Int) = 0 ∨ (own m (F (F (F (me) (1 : Int)) (j)) (3 : Int)) ∧ tg (F (F (F (me) (1 : Int)) (j)) (3 : Int)) = 7) := by have z := HC_r (c := 7) (q := 3) hCx2 ho238.1 ho238.2 (by decide) rfl; rw [show Fx2 (F (F (me) (1 : Int)) (j)) ((3 : Nat) : Int) = F (F (F (me) (1 : Int)) (j)) (3 : Int) from (show Fx2 (F (F (me) (1 : Int)) (j)) (3 : Int) = F (F (F (me) (1 : Int)) (j)) (3 : Int) from hMx2 _ _ ho238.1 (own_z ho238.1) (by rw [ho238.2]; rfl))] at z; exact z
                      refine cx_ane (pc_q := 101) (tg_q := 105) rfl rfl rfl (y240.imp_right (fun h => h.1.1)) (y239.imp_right (fun h => h.1.1)) (fun h241 => ?_) (fun h241 => ?_)
                      · have _q := h241
                        refine jx_ar (pc_q := 106) (st_q := [.int (i32 (0))]) rfl rfl rfl rfl ?_
                        refine jx_ld (pc_q := 108) (l_q := jSto1 L184 8 (.int (i32 (0)))) (st_q := []) rfl rfl ?_
                        obtain ⟨L242, eL242⟩ : ∃ q : jL, q = jSto1 L184 8 (.int (i32 (0))) := ⟨_, rfl⟩
                        rw [← eL242]
                        have g243 : jGet L242 0 = some (rv (me)) := eL242 ▸ jg_nr (by decide) g185
                        have g244 : jGet L242 1 = some (rv (pr)) := eL242 ▸ jg_nr (by decide) g186
                        have g245 : jGet L242 2 = some (rv (b)) := eL242 ▸ jg_nr (by decide) g187
                        have g246 : jGet L242 3 = some (rv (o)) := eL242 ▸ jg_nr (by decide) g188
                        have g247 : jGet L242 4 = some (.int (i32 (k))) := eL242 ▸ jg_ne (by decide) g189 rfl
                        have g248 : jGet L242 5 = some (rv (F (F (me) (1 : Int)) (k))) := eL242 ▸ jg_nr (by decide) g190
                        have g249 : jGet L242 6 = some (.int (i32 (j))) := eL242 ▸ jg_ne (by decide) g191 rfl
                        have g250 : jGet L242 7 = some (rv (F (F (me) (1 : Int)) (j))) := eL242 ▸ jg_nr (by decide) g192
                        have g251 : jGet L242 8 = some (.int (i32 (0))) := eL242 ▸ jg_eq
                        clear eL242
                        refine jx_ld (pc_q := 110) (l_q := L242) (st_q := [.int (i32 (0))]) rfl (jl_iload g251) ?_
                        refine jx_if_eq (pc_q := 113) (tg := 136) rfl rfl rfl (by decide) (by decide) (fun h252 => ?_) (fun h252 => ?_)
                        · have _q := h252
                          refine jx_inc (pc_q := 139) (l_q := jSto1 L242 6 (.int (i32 (j + (1))))) (x := j) rfl g249 (by decide) rfl rfl ?_
                          obtain ⟨L253, eL253⟩ : ∃ q : jL, q = jSto1 L242 6 (.int (i32 ((j + (1))))) := ⟨_, rfl⟩
                          rw [← eL253]
                          have g254 : jGet L253 0 = some (rv (me)) := eL253 ▸ jg_nr (by decide) g243
                          have g255 : jGet L253 1 = some (rv (pr)) := eL253 ▸ jg_nr (by decide) g244
                          have g256 : jGet L253 2 = some (rv (b)) := eL253 ▸ jg_nr (by decide) g245
                          have g257 : jGet L253 3 = some (rv (o)) := eL253 ▸ jg_nr (by decide) g246
                          have g258 : jGet L253 4 = some (.int (i32 (k))) := eL253 ▸ jg_ne (by decide) g247 rfl
                          have g259 : jGet L253 5 = some (rv (F (F (me) (1 : Int)) (k))) := eL253 ▸ jg_nr (by decide) g248
                          have g260 : jGet L253 7 = some (rv (F (F (me) (1 : Int)) (j))) := eL253 ▸ jg_nr (by decide) g250
                          have g261 : jGet L253 8 = some (.int (i32 (0))) := eL253 ▸ jg_ne (by decide) g251 rfl
                          have g262 : jGet L253 6 = some (.int (i32 ((j + (1))))) := eL253 ▸ jg_eq
                          clear eL253
                          refine jx_go (tg := 50) rfl rfl ?_
                          exact ih2 _ (by omega) L253 Fx2 ((j + (1))) rfl g254 g255 g256 g257 g258 g259 g262 hCx2 hMx2 (by omega) (by omega) (PSx_m cx2_PSx (by omega)) (RtS_m cx2_RtS (by omega))
                        · have _q := h252
                          exact absurd h252 (by omega)
                      · have _q := h241
                        refine jx_ar (pc_q := 102) (st_q := [.int (i32 (1))]) rfl rfl rfl rfl ?_
                        refine jx_go (tg := 106) rfl rfl ?_
                        refine jx_ld (pc_q := 108) (l_q := jSto1 L184 8 (.int (i32 (1)))) (st_q := []) rfl rfl ?_
                        obtain ⟨L263, eL263⟩ : ∃ q : jL, q = jSto1 L184 8 (.int (i32 (1))) := ⟨_, rfl⟩
                        rw [← eL263]
                        have g264 : jGet L263 0 = some (rv (me)) := eL263 ▸ jg_nr (by decide) g185
                        have g265 : jGet L263 1 = some (rv (pr)) := eL263 ▸ jg_nr (by decide) g186
                        have g266 : jGet L263 2 = some (rv (b)) := eL263 ▸ jg_nr (by decide) g187
                        have g267 : jGet L263 3 = some (rv (o)) := eL263 ▸ jg_nr (by decide) g188
                        have g268 : jGet L263 4 = some (.int (i32 (k))) := eL263 ▸ jg_ne (by decide) g189 rfl
                        have g269 : jGet L263 5 = some (rv (F (F (me) (1 : Int)) (k))) := eL263 ▸ jg_nr (by decide) g190
                        have g270 : jGet L263 6 = some (.int (i32 (j))) := eL263 ▸ jg_ne (by decide) g191 rfl
                        have g271 : jGet L263 7 = some (rv (F (F (me) (1 : Int)) (j))) := eL263 ▸ jg_nr (by decide) g192
                        have g272 : jGet L263 8 = some (.int (i32 (1))) := eL263 ▸ jg_eq
                        clear eL263
                        refine jx_ld (pc_q := 110) (l_q := L263) (st_q := [.int (i32 (1))]) rfl (jl_iload g272) ?_
                        refine jx_if_eq (pc_q := 113) (tg := 136) rfl rfl rfl (by decide) (by decide) (fun h273 => ?_) (fun h273 => ?_)
                        · have _q := h273
                          exact absurd h273 (by omega)
                        · have _q := h273
                          refine jx_ld (pc_q := 115) (l_q := L263) (st_q := [rv (F (F (me) (1 : Int)) (k))]) rfl (jl_rv g269) ?_
                          refine jx_ld (pc_q := 117) (l_q := L263) (st_q := [rv (F (F (me) (1 : Int)) (j)), rv (F (F (me) (1 : Int)) (k))]) rfl (jl_rv g271) ?_
                          refine jx_ld (pc_q := 118) (l_q := L263) (st_q := [rv (pr), rv (F (F (me) (1 : Int)) (j)), rv (F (F (me) (1 : Int)) (k))]) rfl (jl_rvn g265) ?_
                          refine cx_gr (pc_q := 121) (c := 7) (q := 3) (v := F (pr) (3 : Int)) rfl rfl (by decide) (by decide) rfl rfl o_pr t_pr (show Fx2 (pr) (3 : Int) = F (pr) (3 : Int) from hMx2 _ _ o_pr (own_z o_pr) (by rw [t_pr]; rfl)) ?_
                          have y274 : F (pr) (3 : Int) = 0 ∨ (own m (F (pr) (3 : Int)) ∧ tg (F (pr) (3 : Int)) = 7) := by have z := HC_r (c := 7) (q := 3) hCx2 o_pr t_pr (by decide) rfl; rw [show Fx2 (pr) ((3 : Nat) : Int) = F (pr) (3 : Int) from (show Fx2 (pr) (3 : Int) = F (pr) (3 : Int) from hMx2 _ _ o_pr (own_z o_pr) (by rw [t_pr]; rfl))] at z; exact z
                          have q275 : Fx2 (F (F (me) (1 : Int)) (k)) (3 : Int) = F (F (F (me) (1 : Int)) (k)) (3 : Int) := (show Fx2 (F (F (me) (1 : Int)) (k)) (3 : Int) = F (F (F (me) (1 : Int)) (k)) (3 : Int) from hMx2 _ _ ho215.1 (own_z ho215.1) (by rw [ho215.2]; rfl))
                          refine cx_st (st := []) (as := [rv (F (F (me) (1 : Int)) (k)), rv (F (F (me) (1 : Int)) (j)), rv (F (pr) (3 : Int))]) rfl rfl rfl ⟨rfl, (Nat.le_of_ble_eq_true rfl)⟩ rfl (k_LUses_against (dd := d) (R := R) (m := m) (tg := tg) (ln := ln) (F := Fx2) (p := F (F (me) (1 : Int)) (k)) (o := F (F (me) (1 : Int)) (j)) (ix := F (pr) (3 : Int)) (hd := by omega) (hC := hCx2) (o_p := ho215.1) (t_p := ho215.2) (o_o := ho238.1) (t_o := ho238.2) (y_ix := y274) (p_0 := (by rw [show Fx2 (F (F (me) (1 : Int)) (k)) (3 : Int) = F (F (F (me) (1 : Int)) (k)) (3 : Int) from (show Fx2 (F (F (me) (1 : Int)) (k)) (3 : Int) = F (F (F (me) (1 : Int)) (k)) (3 : Int) from hMx2 _ _ ho215.1 (own_z ho215.1) (by rw [ho215.2]; rfl))]; exact (c_PSx.2 _ y3.1 y3.2.1 (show F (F (me) (1 : Int)) (-1) = 5 by have z := HC_n (c := 11) (q := 1) hC o_me t_me (own_z o_me) (by decide) rfl; exact z.2.2.2 (by decide)) _ (by omega) (own_z ho215.1)).2.2))) (fun o V_q hq => ?_)
                          obtain ⟨r276, rfl, rfl, b277, -⟩ := hq
                          refine Or.inr (Or.inl ⟨_, rfl, ?_⟩)
                          refine jx_if_eq (pc_q := 127) (tg := 136) rfl rfl rfl (by omega) (by omega) (fun h278 => ?_) (fun h278 => ?_)
                          · have _q := h278
                            refine jx_inc (pc_q := 139) (l_q := jSto1 L263 6 (.int (i32 (j + (1))))) (x := j) rfl g270 (by decide) rfl rfl ?_
                            obtain ⟨L279, eL279⟩ : ∃ q : jL, q = jSto1 L263 6 (.int (i32 ((j + (1))))) := ⟨_, rfl⟩
                            rw [← eL279]
                            have g280 : jGet L279 0 = some (rv (me)) := eL279 ▸ jg_nr (by decide) g264
                            have g281 : jGet L279 1 = some (rv (pr)) := eL279 ▸ jg_nr (by decide) g265
                            have g282 : jGet L279 2 = some (rv (b)) := eL279 ▸ jg_nr (by decide) g266
                            have g283 : jGet L279 3 = some (rv (o)) := eL279 ▸ jg_nr (by decide) g267
                            have g284 : jGet L279 4 = some (.int (i32 (k))) := eL279 ▸ jg_ne (by decide) g268 rfl
                            have g285 : jGet L279 5 = some (rv (F (F (me) (1 : Int)) (k))) := eL279 ▸ jg_nr (by decide) g269
                            have g286 : jGet L279 7 = some (rv (F (F (me) (1 : Int)) (j))) := eL279 ▸ jg_nr (by decide) g271
                            have g287 : jGet L279 8 = some (.int (i32 (1))) := eL279 ▸ jg_ne (by decide) g272 rfl
                            have g288 : jGet L279 6 = some (.int (i32 ((j + (1))))) := eL279 ▸ jg_eq
                            clear eL279
                            refine jx_go (tg := 50) rfl rfl ?_
                            exact ih2 _ (by omega) L279 Fx2 ((j + (1))) rfl g280 g281 g282 g283 g284 g285 g288 hCx2 hMx2 (by omega) (by omega) (PSx_m cx2_PSx (by omega)) (RtS_m cx2_RtS (by omega))
                          · have _q := h278
                            refine jx_ld (pc_q := 128) (l_q := L263) (st_q := [rv (me)]) rfl (jl_rvn g264) ?_
                            refine jx_ld (pc_q := 129) (l_q := L263) (st_q := [rv (pr), rv (me)]) rfl (jl_rvn g265) ?_
                            refine cx_gi (pc_q := 132) (c := 7) (q := 1) (v := F (pr) (1 : Int)) rfl rfl (by decide) (by decide) (Or.inl rfl) rfl o_pr t_pr (show Fx2 (pr) (1 : Int) = F (pr) (1 : Int) from hMx2 _ _ o_pr (own_z o_pr) (by rw [t_pr]; rfl)) ?_
                            have b289 : (-2147483648 : Int) ≤ F (pr) (1 : Int) ∧ F (pr) (1 : Int) ≤ 2147483647 := by have z := HC_i (c := 7) (q := 1) hCx2 o_pr t_pr (by decide) rfl; rw [show Fx2 (pr) ((1 : Nat) : Int) = F (pr) (1 : Int) from (show Fx2 (pr) (1 : Int) = F (pr) (1 : Int) from hMx2 _ _ o_pr (own_z o_pr) (by rw [t_pr]; rfl))] at z; exact z
                            refine cx_vi (c := 11) (a := me) (st := []) (as := [.int (i32 (F (pr) (1 : Int)))]) rfl rfl rfl o_me t_me (by decide) rfl ⟨rfl, rfl, (Nat.le_of_ble_eq_true rfl)⟩ rfl (k_LUses_blame (dd := d) (R := R) (m := m) (tg := tg) (ln := ln) (F := Fx2) (me := me) (l := F (pr) (1 : Int)) (hd := by omega) (hC := hCx2) (o_me := o_me) (t_me := t_me) (h_l := by omega)) (fun o V_q hq => ?_)
                            obtain ⟨F290, rfl, rfl, hC291, hM292, -⟩ := hq
                            have hM293 : Fq 0 [(12, 4)] m tg F F290 := Fq_t (ln := ln) (ln1 := ln) hMx2 Ex_r hM292 (by decide) (Or.inl rfl)
                            have c294 : PSx m tg F290 := PSx_q cx2_PSx hM292 rfl
                            have c295 : RtS m tg F290 a0 cr := RtS_q cx2_RtS hM292 rfl
                            refine Or.inl ⟨rfl, ?_⟩
                            refine jx_rt (v := none) rfl rfl rfl rfl rfl rfl ?_
                            exact ⟨F290, rfl, rfl, hC291, hM293, PSx_m c294 (by omega), RtS_m c295 (by omega), trivial⟩
          exact hin _ L156 Fx (k) rfl g157 g158 g159 g160 g161 g162 g163 hCx hMx (by omega) (by omega) (PSx_m cx_PSx (by omega)) (RtS_m cx_RtS (by omega))
set_option maxRecDepth 20000 in
set_option maxHeartbeats 4000000 in
theorem k_LUses_compare2 {X : jX} {dd : Nat} {R : Nat → jC} {m : Nat} {tg ln : Int → Int} {F : Int → Int → Int} {a0 cr : Int} {me pr b o : Int} (hd : 4 ≤ dd) (hC : HC 0 m tg ln F) (o_me : own m me) (t_me : tg me = 12) (o_pr : own m pr) (t_pr : tg pr = 8) (o_b : own m b) (t_b : tg b = 8) (o_o : own m o) (t_o : tg o = 8) (c_PSx : PSx m tg F) (c_RtS : RtS m tg F a0 cr) : wk X dd 238 [rv me, rv pr, rv b, rv o] (cV R m tg ln F) (fun o V_q => ∃ (F_q : Int → Int → Int), V_q = cV R m tg ln F_q ∧ o = .inl none ∧ HC 0 m tg ln F_q ∧ Fq 0 [(12, 4)] m tg F F_q ∧ (PSx m tg F_q) ∧ (RtS m tg F_q a0 cr) ∧ True) := by
  obtain ⟨d, rfl⟩ : ∃ d, dd = d + 1 := ⟨dd - 1, by omega⟩
  refine wk_of (e := jm238) rfl (by rw [jS_r, jS_r, jS_r, jS_r, jS_0]; exact Nat.le_of_ble_eq_true rfl) ?_
  rw [la_r, la_r, la_r, la_r, la_0]
  show wj X d jm238 (0, [(0, rv (me)), (1, rv (pr)), (2, rv (b)), (3, rv (o))], [], cV R m tg ln F) _
  have hM0 : Fq 0 [(12, 4)] m tg F F := Fq_r
  obtain ⟨L0, eL0⟩ : ∃ q : jL, q = [(0, rv (me)), (1, rv (pr)), (2, rv (b)), (3, rv (o))] := ⟨_, rfl⟩
  rw [← eL0]
  have g296 : jGet L0 0 = some (rv (me)) := eL0 ▸ (rfl : jGet [(0, rv (me)), (1, rv (pr)), (2, rv (b)), (3, rv (o))] 0 = some (rv (me)))
  have g297 : jGet L0 1 = some (rv (pr)) := eL0 ▸ (rfl : jGet [(0, rv (me)), (1, rv (pr)), (2, rv (b)), (3, rv (o))] 1 = some (rv (pr)))
  have g298 : jGet L0 2 = some (rv (b)) := eL0 ▸ (rfl : jGet [(0, rv (me)), (1, rv (pr)), (2, rv (b)), (3, rv (o))] 2 = some (rv (b)))
  have g299 : jGet L0 3 = some (rv (o)) := eL0 ▸ (rfl : jGet [(0, rv (me)), (1, rv (pr)), (2, rv (b)), (3, rv (o))] 3 = some (rv (o)))
  clear eL0
  refine jx_ld (pc_q := 1) (l_q := L0) (st_q := [rv (b)]) rfl (jl_rvn g298) ?_
  refine cx_gi (pc_q := 4) (c := 7) (q := 13) (v := F (b) (13 : Int)) rfl rfl (by decide) (by decide) (Or.inl rfl) rfl o_b t_b rfl ?_
  have b300 : (0 : Int) ≤ F (b) (13 : Int) ∧ F (b) (13 : Int) ≤ 1000000 := by have z := HC_i (c := 7) (q := 13) hC o_b t_b (by decide) rfl; rw [show F (b) ((13 : Nat) : Int) = F (b) (13 : Int) from rfl] at z; exact z
  refine jx_ld (pc_q := 6) (l_q := jSto1 L0 4 (.int (i32 (F (b) (13 : Int))))) (st_q := []) rfl rfl ?_
  obtain ⟨L301, eL301⟩ : ∃ q : jL, q = jSto1 L0 4 (.int (i32 (F (b) (13 : Int)))) := ⟨_, rfl⟩
  rw [← eL301]
  have g302 : jGet L301 0 = some (rv (me)) := eL301 ▸ jg_nr (by decide) g296
  have g303 : jGet L301 1 = some (rv (pr)) := eL301 ▸ jg_nr (by decide) g297
  have g304 : jGet L301 2 = some (rv (b)) := eL301 ▸ jg_nr (by decide) g298
  have g305 : jGet L301 3 = some (rv (o)) := eL301 ▸ jg_nr (by decide) g299
  have g306 : jGet L301 4 = some (.int (i32 (F (b) (13 : Int)))) := eL301 ▸ jg_eq
  clear eL301
  exact k_LUses_compare2_at_6 (X := X) (d := d) (R := R) (m := m) (tg := tg) (ln := ln) (F := F) (a0 := a0) (cr := cr) (me := me) (pr := pr) (b := b) (o := o) (hd := hd) (hC := hC) (o_me := o_me) (t_me := t_me) (o_pr := o_pr) (t_pr := t_pr) (o_b := o_b) (t_b := t_b) (o_o := o_o) (t_o := t_o) (c_PSx := c_PSx) (c_RtS := c_RtS) _ L301 F (F (b) (13 : Int)) rfl g302 g303 g304 g305 g306 hC hM0 (by omega) (by omega) (PSx_m c_PSx (by omega)) (RtS_m c_RtS (by omega))
def URy (X : jX) (kk : Nat) : Prop := ∀ ⦃dd : Nat⦄ ⦃R : Nat → jC⦄ ⦃m : Nat⦄ ⦃tg ln : Int → Int⦄ ⦃F : Int → Int → Int⦄ ⦃a0 cr : Int⦄ ⦃me e : Int⦄ (hd : 3 * kk + 6 ≤ dd) (hC : HC 0 m tg ln F) (o_me : own m me) (t_me : tg me = 12) (y_e : e = 0 ∨ (own m e ∧ tg e = 8)) (c_PSx : PSx m tg F) (c_RtS : RtS m tg F a0 cr) (c_NT : NT m tg F) (n_e : SN m tg F e (kk)), wk X dd 230 [rv me, rv e] (cV R m tg ln F) (fun o V_q => ∃ (F_q : Int → Int → Int), V_q = cV R m tg ln F_q ∧ o = .inl none ∧ HC 0 m tg ln F_q ∧ Fq 0 [(7, 11), (8, 15), (8, 16), (8, 17), (8, 18), (12, 2), (12, 4), (24, -5)] m tg F F_q ∧ (PSx m tg F_q) ∧ (RtS m tg F_q a0 cr) ∧ True)
set_option maxRecDepth 20000 in
set_option maxHeartbeats 4000000 in
theorem k_LUses_use2_at_81 {X : jX} {kk : Nat} (hE : 1 ≤ kk → URy X (kk - 1)) {d : Nat} {R : Nat → jC} {m : Nat} {tg ln : Int → Int} {F : Int → Int → Int} {a0 cr : Int} {me p fl : Int} (hd : 3 * kk + 5 ≤ d + 1) (hC : HC 0 m tg ln F) (o_me : own m me) (t_me : tg me = 12) (y_p : p = 0 ∨ (own m p ∧ tg p = 8)) (h_fl : (-2147483648 : Int) ≤ fl ∧ fl ≤ 2147483647) (c_PSx : PSx m tg F) (c_RtS : RtS m tg F a0 cr) (c_NT : NT m tg F) (n_p : SN m tg F p (kk)) : ∀ (L : jL) (Fx : Int → Int → Int), jGet L 0 = some (rv (me)) → jGet L 1 = some (rv (p)) → jGet L 2 = some (.int (i32 (fl))) → HC 0 m tg ln Fx → Fq 0 [(7, 11), (8, 15), (8, 16), (8, 17), (8, 18), (12, 2), (12, 4), (24, -5)] m tg F Fx → (p ≠ 0) → (F p (3 : Int) ≠ 0) → (PSx m tg Fx) → (RtS m tg Fx a0 cr) → wj X d jm231 (81, L, [], cV R m tg ln Fx) (fun o V_q => ∃ (F_q : Int → Int → Int), V_q = cV R m tg ln F_q ∧ o = .inl none ∧ HC 0 m tg ln F_q ∧ Fq 0 [(7, 11), (8, 15), (8, 16), (8, 17), (8, 18), (12, 2), (12, 4), (24, -5)] m tg F F_q ∧ (PSx m tg F_q) ∧ (RtS m tg F_q a0 cr) ∧ True) := by
  intro L Fx gL_0 gL_1 gL_2 hCx hMx iv_0 iv_1 cx_PSx cx_RtS
  refine jx_ld (pc_q := 82) (l_q := L) (st_q := [rv (me)]) rfl (jl_rvn gL_0) ?_
  refine cx_gi (pc_q := 85) (c := 11) (q := 2) (v := Fx (me) (2 : Int)) rfl rfl (by decide) (by decide) (Or.inl rfl) rfl o_me t_me rfl ?_
  have b1 : (0 : Int) ≤ Fx (me) (2 : Int) ∧ Fx (me) (2 : Int) ≤ 1000000 := by have z := HC_i (c := 11) (q := 2) hCx o_me t_me (by decide) rfl; rw [show Fx (me) ((2 : Nat) : Int) = Fx (me) (2 : Int) from rfl] at z; exact z
  refine jx_ld (pc_q := 86) (l_q := L) (st_q := [rv (me), .int (i32 (Fx (me) (2 : Int)))]) rfl (jl_rvn gL_0) ?_
  refine cx_gr (pc_q := 89) (c := 11) (q := 1) (v := F (me) (1 : Int)) rfl rfl (by decide) (by decide) rfl rfl o_me t_me (show Fx (me) (1 : Int) = F (me) (1 : Int) from hMx _ _ o_me (own_z o_me) (by rw [t_me]; rfl)) ?_
  have y2 : own m (F (me) (1 : Int)) ∧ tg (F (me) (1 : Int)) = 24 ∧ ((0 : Int) ≠ 0 → ln (F (me) (1 : Int)) = 0) := by have z := HC_n (c := 11) (q := 1) hCx o_me t_me (own_z o_me) (by decide) rfl; rw [show Fx (me) ((1 : Nat) : Int) = F (me) (1 : Int) from (show Fx (me) (1 : Int) = F (me) (1 : Int) from hMx _ _ o_me (own_z o_me) (by rw [t_me]; rfl))] at z; exact ⟨z.1, z.2.1, z.2.2.1⟩
  have b3 := HC_l hCx y2.1 y2.2.1 (by decide)
  refine cx_len (pc_q := 90) rfl rfl y2.1 (by rw [y2.2.1]; decide) (by omega) ?_
  refine jx_icmp_ge (pc_q := 93) (tg := 124) rfl rfl rfl (by omega) (by omega) (by omega) (by omega) (fun h4 => ?_) (fun h4 => ?_)
  · have _q := h4
    refine jx_rt (v := none) rfl rfl rfl rfl rfl rfl ?_
    exact ⟨Fx, rfl, rfl, hCx, hMx, PSx_m cx_PSx (by omega), RtS_m cx_RtS (by omega), trivial⟩
  · have _q := h4
    refine jx_ld (pc_q := 94) (l_q := L) (st_q := [rv (p)]) rfl (jl_rvn gL_1) ?_
    have hn5 : p ≠ 0 := iv_0
    have ho6 : own m (p) ∧ tg (p) = 8 := y_p.resolve_left hn5
    have k7 := SN_p n_p hn5
    have hE8 := hE (by omega)
    refine cx_gr (pc_q := 97) (c := 7) (q := 3) (v := F (p) (3 : Int)) rfl rfl (by decide) (by decide) rfl rfl ho6.1 ho6.2 (show Fx (p) (3 : Int) = F (p) (3 : Int) from hMx _ _ ho6.1 (own_z ho6.1) (by rw [ho6.2]; rfl)) ?_
    have y9 : F (p) (3 : Int) = 0 ∨ (own m (F (p) (3 : Int)) ∧ tg (F (p) (3 : Int)) = 7) := by have z := HC_r (c := 7) (q := 3) hCx ho6.1 ho6.2 (by decide) rfl; rw [show Fx (p) ((3 : Nat) : Int) = F (p) (3 : Int) from (show Fx (p) (3 : Int) = F (p) (3 : Int) from hMx _ _ ho6.1 (own_z ho6.1) (by rw [ho6.2]; rfl))] at z; exact z
    have hn10 : F (p) (3 : Int) ≠ 0 := iv_1
    have ho11 : own m (F (p) (3 : Int)) ∧ tg (F (p) (3 : Int)) = 7 := y9.resolve_left hn10
    refine cx_gi (pc_q := 100) (c := 6) (q := 0) (v := F (F (p) (3 : Int)) (0 : Int)) rfl rfl (by decide) (by decide) (Or.inl rfl) rfl ho11.1 ho11.2 (show Fx (F (p) (3 : Int)) (0 : Int) = F (F (p) (3 : Int)) (0 : Int) from hMx _ _ ho11.1 (own_z ho11.1) (by rw [ho11.2]; rfl)) ?_
    have b12 : (-2147483648 : Int) ≤ F (F (p) (3 : Int)) (0 : Int) ∧ F (F (p) (3 : Int)) (0 : Int) ≤ 2147483647 := by have z := HC_i (c := 6) (q := 0) hCx ho11.1 ho11.2 (by decide) rfl; rw [show Fx (F (p) (3 : Int)) ((0 : Nat) : Int) = F (F (p) (3 : Int)) (0 : Int) from (show Fx (F (p) (3 : Int)) (0 : Int) = F (F (p) (3 : Int)) (0 : Int) from hMx _ _ ho11.1 (own_z ho11.1) (by rw [ho11.2]; rfl))] at z; exact z
    refine jx_ar (pc_q := 101) (st_q := [.int (i32 (4)), .int (i32 (F (F (p) (3 : Int)) (0 : Int)))]) rfl rfl rfl rfl ?_
    refine jx_icmp_eq (pc_q := 104) (tg := 124) rfl rfl rfl (by omega) (by omega) (by decide) (by decide) (fun h13 => ?_) (fun h13 => ?_)
    · have _q := h13
      refine jx_rt (v := none) rfl rfl rfl rfl rfl rfl ?_
      exact ⟨Fx, rfl, rfl, hCx, hMx, PSx_m cx_PSx (by omega), RtS_m cx_RtS (by omega), trivial⟩
    · have _q := h13
      refine jx_ld (pc_q := 105) (l_q := L) (st_q := [rv (me)]) rfl (jl_rvn gL_0) ?_
      refine cx_gr (pc_q := 108) (c := 11) (q := 1) (v := F (me) (1 : Int)) rfl rfl (by decide) (by decide) rfl rfl o_me t_me (show Fx (me) (1 : Int) = F (me) (1 : Int) from hMx _ _ o_me (own_z o_me) (by rw [t_me]; rfl)) ?_
      refine jx_ld (pc_q := 109) (l_q := L) (st_q := [rv (me), rv (F (me) (1 : Int))]) rfl (jl_rvn gL_0) ?_
      refine cx_gi (pc_q := 112) (c := 11) (q := 2) (v := Fx (me) (2 : Int)) rfl rfl (by decide) (by decide) (Or.inl rfl) rfl o_me t_me rfl ?_
      refine jx_ld (pc_q := 113) (l_q := L) (st_q := [rv (p), .int (i32 (Fx (me) (2 : Int))), rv (F (me) (1 : Int))]) rfl (jl_rvn gL_1) ?_
      refine cx_aas (pc_q := 114) (c := 7) (z := Fx (me) (2 : Int)) (y := p) rfl rfl y2.1 (by rw [y2.2.1]; decide) (by omega) (by omega) (by omega) (fun hz => (Or.inr ⟨ho6.1, ho6.2⟩).resolve_left hz) (by decide) (by rw [y2.2.1]; rfl) ?_
      obtain ⟨F14, eF14⟩ : ∃ q, q = uF Fx (F (me) (1 : Int)) (Fx (me) (2 : Int)) (p) := ⟨_, rfl⟩
      rw [← eF14]
      have hC15 : HC 0 m tg ln F14 := by rw [eF14]; exact HC_pa hCx y2.1 y2.2.1 (by decide) (by omega) (Or.inr ⟨ho6.1, ho6.2⟩)
      have hM16 : Fq 0 [(7, 11), (8, 15), (8, 16), (8, 17), (8, 18), (12, 2), (12, 4), (24, -5)] m tg F F14 := by rw [eF14]; exact Fq_p hMx y2.2.1 (fun _ => rfl) (inL_a rfl (by omega) rfl)
      have c17 : PSx m tg F14 := by rw [eF14]; exact PSx_p cx_PSx y2.1 y2.2.1 (show Fx (F (me) (1 : Int)) (-1) = 5 by have z := HC_n (c := 11) (q := 1) hCx o_me t_me (own_z o_me) (by decide) rfl; rw [show Fx (me) ((1 : Nat) : Int) = F (me) (1 : Int) from (show Fx (me) (1 : Int) = F (me) (1 : Int) from hMx _ _ o_me (own_z o_me) (by rw [t_me]; rfl))] at z; exact z.2.2.2 (by decide)) (by omega) ⟨ho6.1, ho6.2, (by rw [show Fx (p) (3 : Int) = F (p) (3 : Int) from (show Fx (p) (3 : Int) = F (p) (3 : Int) from hMx _ _ ho6.1 (own_z ho6.1) (by rw [ho6.2]; rfl))]; exact own_z ho11.1)⟩
      have c18 : RtS m tg F14 a0 cr := by rw [eF14]; exact RtS_p cx_RtS (show Fx (F (me) (1 : Int)) (-1) = 5 by have z := HC_n (c := 11) (q := 1) hCx o_me t_me (own_z o_me) (by decide) rfl; rw [show Fx (me) ((1 : Nat) : Int) = F (me) (1 : Int) from (show Fx (me) (1 : Int) = F (me) (1 : Int) from hMx _ _ o_me (own_z o_me) (by rw [t_me]; rfl))] at z; exact z.2.2.2 (by decide))
      refine jx_ld (pc_q := 115) (l_q := L) (st_q := [rv (me)]) rfl (jl_rvn gL_0) ?_
      refine jx_ar (pc_q := 116) (st_q := [rv (me), rv (me)]) rfl rfl ja_dup rfl ?_
      refine cx_gi (pc_q := 119) (c := 11) (q := 2) (v := Fx (me) (2 : Int)) rfl rfl (by decide) (by decide) (Or.inl rfl) rfl o_me t_me (show F14 (me) (2 : Int) = Fx (me) (2 : Int) from by rw [eF14]; exact uF_a (fun w => by have q1 := t_me; have q2 := y2.2.1; rw [w, q2] at q1; exact absurd q1 (by decide))) ?_
      refine jx_ar (pc_q := 120) (st_q := [.int (i32 (1)), .int (i32 (Fx (me) (2 : Int))), rv (me)]) rfl rfl rfl rfl ?_
      refine jx_add (pc_q := 121) rfl rfl ?_
      refine cx_pi (pc_q := 124) (c := 11) (q := 2) (qi := (2 : Int)) (z := (Fx (me) (2 : Int) + 1)) rfl rfl (by decide) (by decide) rfl rfl rfl (by decide) rfl o_me t_me rfl ?_
      obtain ⟨F19, eF19⟩ : ∃ q, q = uF F14 (me) (2 : Int) ((Fx (me) (2 : Int) + 1)) := ⟨_, rfl⟩
      rw [← eF19]
      have hC20 : HC 0 m tg ln F19 := by rw [eF19]; exact HC_fi (c := 11) (q := 2) hC15 t_me (by decide) rfl (by omega) (by omega) ⟨fun w => absurd w (by decide), fun w => absurd w (by decide)⟩
      have hM21 : Fq 0 [(7, 11), (8, 15), (8, 16), (8, 17), (8, 18), (12, 2), (12, 4), (24, -5)] m tg F F19 := by rw [eF19]; exact Fq_p hM16 t_me (fun _ => rfl) rfl
      have c22 : PSx m tg F19 := by rw [eF19]; exact PSx_u c17 t_me (by omega)
      have c23 : RtS m tg F19 a0 cr := by rw [eF19]; exact RtS_u c18 t_me (by omega)
      refine jx_rt (v := none) rfl rfl rfl rfl rfl rfl ?_
      exact ⟨F19, rfl, rfl, hC20, hM21, PSx_m c22 (by omega), RtS_m c23 (by omega), trivial⟩
set_option maxRecDepth 20000 in
set_option maxHeartbeats 4000000 in
theorem k_LUses_use2 {X : jX} {kk : Nat} (hE : 1 ≤ kk → URy X (kk - 1)) {dd : Nat} {R : Nat → jC} {m : Nat} {tg ln : Int → Int} {F : Int → Int → Int} {a0 cr : Int} {me p fl : Int} (hd : 3 * kk + 5 ≤ dd) (hC : HC 0 m tg ln F) (o_me : own m me) (t_me : tg me = 12) (y_p : p = 0 ∨ (own m p ∧ tg p = 8)) (h_fl : (-2147483648 : Int) ≤ fl ∧ fl ≤ 2147483647) (c_PSx : PSx m tg F) (c_RtS : RtS m tg F a0 cr) (c_NT : NT m tg F) (n_p : SN m tg F p (kk)) : wk X dd 231 [rv me, rv p, .int (i32 fl)] (cV R m tg ln F) (fun o V_q => ∃ (F_q : Int → Int → Int), V_q = cV R m tg ln F_q ∧ o = .inl none ∧ HC 0 m tg ln F_q ∧ Fq 0 [(7, 11), (8, 15), (8, 16), (8, 17), (8, 18), (12, 2), (12, 4), (24, -5)] m tg F F_q ∧ (PSx m tg F_q) ∧ (RtS m tg F_q a0 cr) ∧ True) := by
  obtain ⟨d, rfl⟩ : ∃ d, dd = d + 1 := ⟨dd - 1, by omega⟩
  refine wk_of (e := jm231) rfl (by rw [jS_r, jS_r, jS_i, jS_0]; exact Nat.le_of_ble_eq_true rfl) ?_
  rw [la_r, la_r, la_i, la_0]
  show wj X d jm231 (0, [(0, rv (me)), (1, rv (p)), (2, .int (i32 (fl)))], [], cV R m tg ln F) _
  have hM0 : Fq 0 [(7, 11), (8, 15), (8, 16), (8, 17), (8, 18), (12, 2), (12, 4), (24, -5)] m tg F F := Fq_r
  obtain ⟨L0, eL0⟩ : ∃ q : jL, q = [(0, rv (me)), (1, rv (p)), (2, .int (i32 (fl)))] := ⟨_, rfl⟩
  rw [← eL0]
  have g24 : jGet L0 0 = some (rv (me)) := eL0 ▸ (rfl : jGet [(0, rv (me)), (1, rv (p)), (2, .int (i32 (fl)))] 0 = some (rv (me)))
  have g25 : jGet L0 1 = some (rv (p)) := eL0 ▸ (rfl : jGet [(0, rv (me)), (1, rv (p)), (2, .int (i32 (fl)))] 1 = some (rv (p)))
  have g26 : jGet L0 2 = some (.int (i32 (fl))) := eL0 ▸ (rfl : jGet [(0, rv (me)), (1, rv (p)), (2, .int (i32 (fl)))] 2 = some (.int (i32 (fl))))
  clear eL0
  refine jx_ld (pc_q := 1) (l_q := L0) (st_q := [rv (p)]) rfl (jl_rvn g25) ?_
  refine cx_nul (pc_q := 4) (tg_q := 11) rfl rfl rfl (fun h27 => ?_) (fun h27 => ?_)
  · have _q := h27
    refine jx_rt (v := none) rfl rfl rfl rfl rfl rfl ?_
    exact ⟨F, rfl, rfl, hC, hM0, PSx_m c_PSx (by omega), RtS_m c_RtS (by omega), trivial⟩
  · have _q := h27
    have ho28 : own m (p) ∧ tg (p) = 8 := y_p.resolve_left h27
    have k29 := SN_p n_p h27
    have hE30 := hE (by omega)
    refine jx_ld (pc_q := 5) (l_q := L0) (st_q := [rv (p)]) rfl (jl_rvn g25) ?_
    refine cx_gr (pc_q := 8) (c := 7) (q := 3) (v := F (p) (3 : Int)) rfl rfl (by decide) (by decide) rfl rfl ho28.1 ho28.2 rfl ?_
    have y31 : F (p) (3 : Int) = 0 ∨ (own m (F (p) (3 : Int)) ∧ tg (F (p) (3 : Int)) = 7) := by have z := HC_r (c := 7) (q := 3) hC ho28.1 ho28.2 (by decide) rfl; rw [show F (p) ((3 : Nat) : Int) = F (p) (3 : Int) from rfl] at z; exact z
    refine cx_non (pc_q := 11) (tg_q := 12) rfl rfl rfl (fun h32 => ?_) (fun h32 => ?_)
    · have _q := h32
      have ho33 : own m (F (p) (3 : Int)) ∧ tg (F (p) (3 : Int)) = 7 := y31.resolve_left h32
      refine jx_ld (pc_q := 13) (l_q := L0) (st_q := [rv (me)]) rfl (jl_rvn g24) ?_
      refine jx_ld (pc_q := 14) (l_q := L0) (st_q := [rv (p), rv (me)]) rfl (jl_rvn g25) ?_
      refine cx_gr (pc_q := 17) (c := 7) (q := 4) (v := F (p) (4 : Int)) rfl rfl (by decide) (by decide) rfl rfl ho28.1 ho28.2 rfl ?_
      have y34 : F (p) (4 : Int) = 0 ∨ (own m (F (p) (4 : Int)) ∧ tg (F (p) (4 : Int)) = 8) := by have z := HC_r (c := 7) (q := 4) hC ho28.1 ho28.2 (by decide) rfl; rw [show F (p) ((4 : Nat) : Int) = F (p) (4 : Int) from rfl] at z; exact z
      refine cx_vi (c := 11) (a := me) (st := []) (as := [rv (F (p) (4 : Int))]) rfl rfl rfl o_me t_me (by decide) rfl ⟨rfl, rfl, (Nat.le_of_ble_eq_true rfl)⟩ rfl (hE30 (dd := d) (R := R) (m := m) (tg := tg) (ln := ln) (F := F) (me := me) (e := F (p) (4 : Int)) (hd := by omega) (hC := hC) (o_me := o_me) (t_me := t_me) (y_e := y34) (c_PSx := c_PSx) (c_RtS := c_RtS) (c_NT := c_NT) (n_e := (SN_w (k_q := kk - 1) (SN_c hC c_NT n_p (own_z ho28.1) (by omega)) (by omega)))) (fun o V_q hq => ?_)
      obtain ⟨F35, rfl, rfl, hC36, hM37, c38, c39, -⟩ := hq
      have hM40 : Fq 0 [(7, 11), (8, 15), (8, 16), (8, 17), (8, 18), (12, 2), (12, 4), (24, -5)] m tg F F35 := Fq_t (ln := ln) (ln1 := ln) hM0 Ex_r hM37 (by decide) (Or.inl rfl)
      refine Or.inl ⟨rfl, ?_⟩
      refine jx_ld (pc_q := 21) (l_q := L0) (st_q := [rv (p)]) rfl (jl_rvn g25) ?_
      refine jx_ld (pc_q := 22) (l_q := L0) (st_q := [.int (i32 (fl)), rv (p)]) rfl (jl_iloadn g26) ?_
      refine cx_pi (pc_q := 25) (c := 7) (q := 15) (qi := (15 : Int)) (z := fl) rfl rfl (by decide) (by decide) rfl rfl rfl (by decide) rfl ho28.1 ho28.2 rfl ?_
      obtain ⟨F41, eF41⟩ : ∃ q, q = uF F35 (p) (15 : Int) (fl) := ⟨_, rfl⟩
      rw [← eF41]
      have hC42 : HC 0 m tg ln F41 := by rw [eF41]; exact HC_fi (c := 7) (q := 15) hC36 ho28.2 (by decide) rfl (by omega) (by omega) ⟨fun w => absurd w (by decide), fun w => absurd w (by decide)⟩
      have hM43 : Fq 0 [(7, 11), (8, 15), (8, 16), (8, 17), (8, 18), (12, 2), (12, 4), (24, -5)] m tg F F41 := by rw [eF41]; exact Fq_p hM40 ho28.2 (fun _ => rfl) rfl
      have c44 : PSx m tg F41 := by rw [eF41]; exact PSx_u c38 ho28.2 (by omega)
      have c45 : RtS m tg F41 a0 cr := by rw [eF41]; exact RtS_u c39 ho28.2 (by omega)
      refine jx_ld (pc_q := 26) (l_q := L0) (st_q := [rv (p)]) rfl (jl_rvn g25) ?_
      refine cx_gr (pc_q := 29) (c := 7) (q := 3) (v := F (p) (3 : Int)) rfl rfl (by decide) (by decide) rfl rfl ho28.1 ho28.2 ((show F41 (p) (3 : Int) = F35 (p) (3 : Int) from by rw [eF41]; exact uF_j (by decide)).trans (show F35 (p) (3 : Int) = F (p) (3 : Int) from hM37 _ _ ho28.1 (own_z ho28.1) (by rw [ho28.2]; rfl))) ?_
      refine jx_ar (pc_q := 30) (st_q := [rv (F (p) (3 : Int)), rv (F (p) (3 : Int))]) rfl rfl ja_dup rfl ?_
      refine cx_gi (pc_q := 33) (c := 6) (q := 11) (v := F35 (F (p) (3 : Int)) (11 : Int)) rfl rfl (by decide) (by decide) (Or.inl rfl) rfl ho33.1 ho33.2 (show F41 (F (p) (3 : Int)) (11 : Int) = F35 (F (p) (3 : Int)) (11 : Int) from by rw [eF41]; exact uF_j (by decide)) ?_
      have b46 : (-2147483648 : Int) ≤ F35 (F (p) (3 : Int)) (11 : Int) ∧ F35 (F (p) (3 : Int)) (11 : Int) ≤ 2147483647 := by have z := HC_i (c := 6) (q := 11) hC42 ho33.1 ho33.2 (by decide) rfl; rw [show F41 (F (p) (3 : Int)) ((11 : Nat) : Int) = F35 (F (p) (3 : Int)) (11 : Int) from (show F41 (F (p) (3 : Int)) (11 : Int) = F35 (F (p) (3 : Int)) (11 : Int) from by rw [eF41]; exact uF_j (by decide))] at z; exact z
      refine jx_ld (pc_q := 34) (l_q := L0) (st_q := [.int (i32 (fl)), .int (i32 (F35 (F (p) (3 : Int)) (11 : Int))), rv (F (p) (3 : Int))]) rfl (jl_iloadn g26) ?_
      refine jx_or (pc_q := 35) rfl rfl ?_
      obtain ⟨z47, ez47⟩ : ∃ q, q = (i32 (F35 (F (p) (3 : Int)) (11 : Int)) ||| i32 (fl)).toInt := ⟨_, rfl⟩
      rw [← ez47]
      have bz47 : (-2147483648 : Int) ≤ z47 ∧ z47 ≤ 2147483647 := ez47 ▸ i32_rg _
      clear ez47
      refine cx_pi (pc_q := 38) (c := 6) (q := 11) (qi := (11 : Int)) (z := z47) rfl rfl (by decide) (by decide) rfl rfl rfl (by decide) rfl ho33.1 ho33.2 rfl ?_
      obtain ⟨F48, eF48⟩ : ∃ q, q = uF F41 (F (p) (3 : Int)) (11 : Int) (z47) := ⟨_, rfl⟩
      rw [← eF48]
      have hC49 : HC 0 m tg ln F48 := by rw [eF48]; exact HC_fi (c := 6) (q := 11) hC42 ho33.2 (by decide) rfl (by omega) (by omega) ⟨fun w => absurd w (by decide), fun w => absurd w (by decide)⟩
      have hM50 : Fq 0 [(7, 11), (8, 15), (8, 16), (8, 17), (8, 18), (12, 2), (12, 4), (24, -5)] m tg F F48 := by rw [eF48]; exact Fq_p hM43 ho33.2 (fun _ => rfl) rfl
      have c51 : PSx m tg F48 := by rw [eF48]; exact PSx_u c44 ho33.2 (by omega)
      have c52 : RtS m tg F48 a0 cr := by rw [eF48]; exact RtS_u c45 ho33.2 (by omega)
      refine jx_ld (pc_q := 39) (l_q := L0) (st_q := [rv (p)]) rfl (jl_rvn g25) ?_
      refine cx_st (st := []) (as := [rv (p)]) rfl rfl rfl ⟨rfl, (Nat.le_of_ble_eq_true rfl)⟩ rfl (k_LUses_findElement (dd := d) (R := R) (m := m) (tg := tg) (ln := ln) (F := F48) (p := p) (hd := by omega) (hC := hC49) (o_p := ho28.1) (t_p := ho28.2)) (fun o V_q hq => ?_)
      obtain ⟨F53, rfl, rfl, hC54, hM55, -⟩ := hq
      have hM56 : Fq 0 [(7, 11), (8, 15), (8, 16), (8, 17), (8, 18), (12, 2), (12, 4), (24, -5)] m tg F F53 := Fq_t (ln := ln) (ln1 := ln) hM50 Ex_r hM55 (by decide) (Or.inl rfl)
      have c57 : PSx m tg F53 := PSx_q c51 hM55 rfl
      have c58 : RtS m tg F53 a0 cr := RtS_q c52 hM55 rfl
      refine Or.inl ⟨rfl, ?_⟩
      refine jx_ld (pc_q := 43) (l_q := L0) (st_q := [rv (p)]) rfl (jl_rvn g25) ?_
      refine cx_gr (pc_q := 46) (c := 7) (q := 3) (v := F (p) (3 : Int)) rfl rfl (by decide) (by decide) rfl rfl ho28.1 ho28.2 ((show F53 (p) (3 : Int) = F48 (p) (3 : Int) from hM55 _ _ ho28.1 (own_z ho28.1) (by rw [ho28.2]; rfl)).trans ((show F48 (p) (3 : Int) = F41 (p) (3 : Int) from by rw [eF48]; exact uF_j (by decide)).trans ((show F41 (p) (3 : Int) = F35 (p) (3 : Int) from by rw [eF41]; exact uF_j (by decide)).trans (show F35 (p) (3 : Int) = F (p) (3 : Int) from hM37 _ _ ho28.1 (own_z ho28.1) (by rw [ho28.2]; rfl))))) ?_
      refine cx_gi (pc_q := 49) (c := 6) (q := 0) (v := F (F (p) (3 : Int)) (0 : Int)) rfl rfl (by decide) (by decide) (Or.inl rfl) rfl ho33.1 ho33.2 ((show F53 (F (p) (3 : Int)) (0 : Int) = F48 (F (p) (3 : Int)) (0 : Int) from hM55 _ _ ho33.1 (own_z ho33.1) (by rw [ho33.2]; rfl)).trans ((show F48 (F (p) (3 : Int)) (0 : Int) = F41 (F (p) (3 : Int)) (0 : Int) from by rw [eF48]; exact uF_j (by decide)).trans ((show F41 (F (p) (3 : Int)) (0 : Int) = F35 (F (p) (3 : Int)) (0 : Int) from by rw [eF41]; exact uF_j (by decide)).trans (show F35 (F (p) (3 : Int)) (0 : Int) = F (F (p) (3 : Int)) (0 : Int) from hM37 _ _ ho33.1 (own_z ho33.1) (by rw [ho33.2]; rfl))))) ?_
      have b59 : (-2147483648 : Int) ≤ F (F (p) (3 : Int)) (0 : Int) ∧ F (F (p) (3 : Int)) (0 : Int) ≤ 2147483647 := by have z := HC_i (c := 6) (q := 0) hC54 ho33.1 ho33.2 (by decide) rfl; rw [show F53 (F (p) (3 : Int)) ((0 : Nat) : Int) = F (F (p) (3 : Int)) (0 : Int) from ((show F53 (F (p) (3 : Int)) (0 : Int) = F48 (F (p) (3 : Int)) (0 : Int) from hM55 _ _ ho33.1 (own_z ho33.1) (by rw [ho33.2]; rfl)).trans ((show F48 (F (p) (3 : Int)) (0 : Int) = F41 (F (p) (3 : Int)) (0 : Int) from by rw [eF48]; exact uF_j (by decide)).trans ((show F41 (F (p) (3 : Int)) (0 : Int) = F35 (F (p) (3 : Int)) (0 : Int) from by rw [eF41]; exact uF_j (by decide)).trans (show F35 (F (p) (3 : Int)) (0 : Int) = F (F (p) (3 : Int)) (0 : Int) from hM37 _ _ ho33.1 (own_z ho33.1) (by rw [ho33.2]; rfl)))))] at z; exact z
      refine jx_ar (pc_q := 51) (st_q := [.int (i32 (10)), .int (i32 (F (F (p) (3 : Int)) (0 : Int)))]) rfl rfl rfl rfl ?_
      refine jx_icmp_ne (pc_q := 54) (tg := 81) rfl rfl rfl (by omega) (by omega) (by decide) (by decide) (fun h60 => ?_) (fun h60 => ?_)
      · have _q := h60
        exact k_LUses_use2_at_81 (X := X) (kk := kk) (hE := hE) (d := d) (R := R) (m := m) (tg := tg) (ln := ln) (F := F) (a0 := a0) (cr := cr) (me := me) (p := p) (fl := fl) (hd := hd) (hC := hC) (o_me := o_me) (t_me := t_me) (y_p := y_p) (h_fl := h_fl) (c_PSx := c_PSx) (c_RtS := c_RtS) (c_NT := c_NT) (n_p := n_p) L0 F53 g24 g25 g26 hC54 hM56 (by omega) (by omega) (PSx_m c57 (by omega)) (RtS_m c58 (by omega))
      · have _q := h60
        refine jx_ld (pc_q := 55) (l_q := L0) (st_q := [.int (i32 (fl))]) rfl (jl_iloadn g26) ?_
        refine jx_if_eq (pc_q := 58) (tg := 81) rfl rfl rfl (by omega) (by omega) (fun h61 => ?_) (fun h61 => ?_)
        · have _q := h61
          exact k_LUses_use2_at_81 (X := X) (kk := kk) (hE := hE) (d := d) (R := R) (m := m) (tg := tg) (ln := ln) (F := F) (a0 := a0) (cr := cr) (me := me) (p := p) (fl := fl) (hd := hd) (hC := hC) (o_me := o_me) (t_me := t_me) (y_p := y_p) (h_fl := h_fl) (c_PSx := c_PSx) (c_RtS := c_RtS) (c_NT := c_NT) (n_p := n_p) L0 F53 g24 g25 g26 hC54 hM56 (by omega) (by omega) (PSx_m c57 (by omega)) (RtS_m c58 (by omega))
        · have _q := h61
          refine jx_ld (pc_q := 59) (l_q := L0) (st_q := [rv (me)]) rfl (jl_rvn g24) ?_
          refine jx_ld (pc_q := 60) (l_q := L0) (st_q := [rv (p), rv (me)]) rfl (jl_rvn g25) ?_
          refine cx_gr (pc_q := 63) (c := 7) (q := 3) (v := F (p) (3 : Int)) rfl rfl (by decide) (by decide) rfl rfl ho28.1 ho28.2 ((show F53 (p) (3 : Int) = F48 (p) (3 : Int) from hM55 _ _ ho28.1 (own_z ho28.1) (by rw [ho28.2]; rfl)).trans ((show F48 (p) (3 : Int) = F41 (p) (3 : Int) from by rw [eF48]; exact uF_j (by decide)).trans ((show F41 (p) (3 : Int) = F35 (p) (3 : Int) from by rw [eF41]; exact uF_j (by decide)).trans (show F35 (p) (3 : Int) = F (p) (3 : Int) from hM37 _ _ ho28.1 (own_z ho28.1) (by rw [ho28.2]; rfl))))) ?_
          refine cx_gi (pc_q := 66) (c := 6) (q := 5) (v := F (F (p) (3 : Int)) (5 : Int)) rfl rfl (by decide) (by decide) (Or.inl rfl) rfl ho33.1 ho33.2 ((show F53 (F (p) (3 : Int)) (5 : Int) = F48 (F (p) (3 : Int)) (5 : Int) from hM55 _ _ ho33.1 (own_z ho33.1) (by rw [ho33.2]; rfl)).trans ((show F48 (F (p) (3 : Int)) (5 : Int) = F41 (F (p) (3 : Int)) (5 : Int) from by rw [eF48]; exact uF_j (by decide)).trans ((show F41 (F (p) (3 : Int)) (5 : Int) = F35 (F (p) (3 : Int)) (5 : Int) from by rw [eF41]; exact uF_j (by decide)).trans (show F35 (F (p) (3 : Int)) (5 : Int) = F (F (p) (3 : Int)) (5 : Int) from hM37 _ _ ho33.1 (own_z ho33.1) (by rw [ho33.2]; rfl))))) ?_
          have b62 : (-2147483648 : Int) ≤ F (F (p) (3 : Int)) (5 : Int) ∧ F (F (p) (3 : Int)) (5 : Int) ≤ 2147483647 := by have z := HC_i (c := 6) (q := 5) hC54 ho33.1 ho33.2 (by decide) rfl; rw [show F53 (F (p) (3 : Int)) ((5 : Nat) : Int) = F (F (p) (3 : Int)) (5 : Int) from ((show F53 (F (p) (3 : Int)) (5 : Int) = F48 (F (p) (3 : Int)) (5 : Int) from hM55 _ _ ho33.1 (own_z ho33.1) (by rw [ho33.2]; rfl)).trans ((show F48 (F (p) (3 : Int)) (5 : Int) = F41 (F (p) (3 : Int)) (5 : Int) from by rw [eF48]; exact uF_j (by decide)).trans ((show F41 (F (p) (3 : Int)) (5 : Int) = F35 (F (p) (3 : Int)) (5 : Int) from by rw [eF41]; exact uF_j (by decide)).trans (show F35 (F (p) (3 : Int)) (5 : Int) = F (F (p) (3 : Int)) (5 : Int) from hM37 _ _ ho33.1 (own_z ho33.1) (by rw [ho33.2]; rfl)))))] at z; exact z
          refine jx_ld (pc_q := 67) (l_q := L0) (st_q := [.int (i32 (fl)), .int (i32 (F (F (p) (3 : Int)) (5 : Int))), rv (me)]) rfl (jl_iloadn g26) ?_
          refine cx_vi (c := 11) (a := me) (st := []) (as := [.int (i32 (F (F (p) (3 : Int)) (5 : Int))), .int (i32 (fl))]) rfl rfl rfl o_me t_me (by decide) rfl ⟨rfl, rfl, (Nat.le_of_ble_eq_true rfl)⟩ rfl (k_LUses_mayUse (dd := d) (R := R) (m := m) (tg := tg) (ln := ln) (F := F53) (me := me) (po := F (F (p) (3 : Int)) (5 : Int)) (fl := fl) (hd := by omega) (hC := hC54) (o_me := o_me) (t_me := t_me) (h_po := by omega) (h_fl := by omega)) (fun o V_q hq => ?_)
          obtain ⟨r63, rfl, rfl, b64, -⟩ := hq
          refine Or.inr (Or.inl ⟨_, rfl, ?_⟩)
          refine jx_if_ne (pc_q := 73) (tg := 81) rfl rfl rfl (by omega) (by omega) (fun h65 => ?_) (fun h65 => ?_)
          · have _q := h65
            exact k_LUses_use2_at_81 (X := X) (kk := kk) (hE := hE) (d := d) (R := R) (m := m) (tg := tg) (ln := ln) (F := F) (a0 := a0) (cr := cr) (me := me) (p := p) (fl := fl) (hd := hd) (hC := hC) (o_me := o_me) (t_me := t_me) (y_p := y_p) (h_fl := h_fl) (c_PSx := c_PSx) (c_RtS := c_RtS) (c_NT := c_NT) (n_p := n_p) L0 F53 g24 g25 g26 hC54 hM56 (by omega) (by omega) (PSx_m c57 (by omega)) (RtS_m c58 (by omega))
          · have _q := h65
            refine jx_ld (pc_q := 74) (l_q := L0) (st_q := [rv (me)]) rfl (jl_rvn g24) ?_
            refine jx_ld (pc_q := 75) (l_q := L0) (st_q := [rv (p), rv (me)]) rfl (jl_rvn g25) ?_
            refine cx_gi (pc_q := 78) (c := 7) (q := 1) (v := F (p) (1 : Int)) rfl rfl (by decide) (by decide) (Or.inl rfl) rfl ho28.1 ho28.2 ((show F53 (p) (1 : Int) = F48 (p) (1 : Int) from hM55 _ _ ho28.1 (own_z ho28.1) (by rw [ho28.2]; rfl)).trans ((show F48 (p) (1 : Int) = F41 (p) (1 : Int) from by rw [eF48]; exact uF_j (by decide)).trans ((show F41 (p) (1 : Int) = F35 (p) (1 : Int) from by rw [eF41]; exact uF_j (by decide)).trans (show F35 (p) (1 : Int) = F (p) (1 : Int) from hM37 _ _ ho28.1 (own_z ho28.1) (by rw [ho28.2]; rfl))))) ?_
            have b66 : (-2147483648 : Int) ≤ F (p) (1 : Int) ∧ F (p) (1 : Int) ≤ 2147483647 := by have z := HC_i (c := 7) (q := 1) hC54 ho28.1 ho28.2 (by decide) rfl; rw [show F53 (p) ((1 : Nat) : Int) = F (p) (1 : Int) from ((show F53 (p) (1 : Int) = F48 (p) (1 : Int) from hM55 _ _ ho28.1 (own_z ho28.1) (by rw [ho28.2]; rfl)).trans ((show F48 (p) (1 : Int) = F41 (p) (1 : Int) from by rw [eF48]; exact uF_j (by decide)).trans ((show F41 (p) (1 : Int) = F35 (p) (1 : Int) from by rw [eF41]; exact uF_j (by decide)).trans (show F35 (p) (1 : Int) = F (p) (1 : Int) from hM37 _ _ ho28.1 (own_z ho28.1) (by rw [ho28.2]; rfl)))))] at z; exact z
            refine cx_vi (c := 11) (a := me) (st := []) (as := [.int (i32 (F (p) (1 : Int)))]) rfl rfl rfl o_me t_me (by decide) rfl ⟨rfl, rfl, (Nat.le_of_ble_eq_true rfl)⟩ rfl (k_LUses_blame (dd := d) (R := R) (m := m) (tg := tg) (ln := ln) (F := F53) (me := me) (l := F (p) (1 : Int)) (hd := by omega) (hC := hC54) (o_me := o_me) (t_me := t_me) (h_l := by omega)) (fun o V_q hq => ?_)
            obtain ⟨F67, rfl, rfl, hC68, hM69, -⟩ := hq
            have hM70 : Fq 0 [(7, 11), (8, 15), (8, 16), (8, 17), (8, 18), (12, 2), (12, 4), (24, -5)] m tg F F67 := Fq_t (ln := ln) (ln1 := ln) hM56 Ex_r hM69 (by decide) (Or.inl rfl)
            have c71 : PSx m tg F67 := PSx_q c57 hM69 rfl
            have c72 : RtS m tg F67 a0 cr := RtS_q c58 hM69 rfl
            refine Or.inl ⟨rfl, ?_⟩
            exact k_LUses_use2_at_81 (X := X) (kk := kk) (hE := hE) (d := d) (R := R) (m := m) (tg := tg) (ln := ln) (F := F) (a0 := a0) (cr := cr) (me := me) (p := p) (fl := fl) (hd := hd) (hC := hC) (o_me := o_me) (t_me := t_me) (y_p := y_p) (h_fl := h_fl) (c_PSx := c_PSx) (c_RtS := c_RtS) (c_NT := c_NT) (n_p := n_p) L0 F67 g24 g25 g26 hC68 hM70 (by omega) (by omega) (PSx_m c71 (by omega)) (RtS_m c72 (by omega))
    · have _q := h32
      refine jx_rt (v := none) rfl rfl rfl rfl rfl rfl ?_
      exact ⟨F, rfl, rfl, hC, hM0, PSx_m c_PSx (by omega), RtS_m c_RtS (by omega), trivial⟩
set_option maxRecDepth 20000 in
set_option maxHeartbeats 4000000 in
theorem k_LUses_read2 {X : jX} {kk : Nat} (hE : 1 ≤ kk → URy X (kk - 1)) {dd : Nat} {R : Nat → jC} {m : Nat} {tg ln : Int → Int} {F : Int → Int → Int} {a0 cr : Int} {me e : Int} (hd : 3 * kk + 6 ≤ dd) (hC : HC 0 m tg ln F) (o_me : own m me) (t_me : tg me = 12) (y_e : e = 0 ∨ (own m e ∧ tg e = 8)) (c_PSx : PSx m tg F) (c_RtS : RtS m tg F a0 cr) (c_NT : NT m tg F) (n_e : SN m tg F e (kk)) : wk X dd 230 [rv me, rv e] (cV R m tg ln F) (fun o V_q => ∃ (F_q : Int → Int → Int), V_q = cV R m tg ln F_q ∧ o = .inl none ∧ HC 0 m tg ln F_q ∧ Fq 0 [(7, 11), (8, 15), (8, 16), (8, 17), (8, 18), (12, 2), (12, 4), (24, -5)] m tg F F_q ∧ (PSx m tg F_q) ∧ (RtS m tg F_q a0 cr) ∧ True) := by
  obtain ⟨d, rfl⟩ : ∃ d, dd = d + 1 := ⟨dd - 1, by omega⟩
  refine wk_of (e := jm230) rfl (by rw [jS_r, jS_r, jS_0]; exact Nat.le_of_ble_eq_true rfl) ?_
  rw [la_r, la_r, la_0]
  show wj X d jm230 (0, [(0, rv (me)), (1, rv (e))], [], cV R m tg ln F) _
  have hM0 : Fq 0 [(7, 11), (8, 15), (8, 16), (8, 17), (8, 18), (12, 2), (12, 4), (24, -5)] m tg F F := Fq_r
  obtain ⟨L0, eL0⟩ : ∃ q : jL, q = [(0, rv (me)), (1, rv (e))] := ⟨_, rfl⟩
  rw [← eL0]
  have g1 : jGet L0 0 = some (rv (me)) := eL0 ▸ (rfl : jGet [(0, rv (me)), (1, rv (e))] 0 = some (rv (me)))
  have g2 : jGet L0 1 = some (rv (e)) := eL0 ▸ (rfl : jGet [(0, rv (me)), (1, rv (e))] 1 = some (rv (e)))
  clear eL0
  refine jx_ld (pc_q := 1) (l_q := L0) (st_q := [rv (e)]) rfl (jl_rvn g2) ?_
  refine cx_non (pc_q := 4) (tg_q := 5) rfl rfl rfl (fun h3 => ?_) (fun h3 => ?_)
  · have _q := h3
    have ho4 : own m (e) ∧ tg (e) = 8 := y_e.resolve_left h3
    have k5 := SN_p n_e h3
    have hE6 := hE (by omega)
    refine jx_ld (pc_q := 6) (l_q := L0) (st_q := [rv (e)]) rfl (jl_rvn g2) ?_
    refine cx_gi (pc_q := 9) (c := 7) (q := 0) (v := F (e) (0 : Int)) rfl rfl (by decide) (by decide) (Or.inl rfl) rfl ho4.1 ho4.2 rfl ?_
    have b7 : (-2147483648 : Int) ≤ F (e) (0 : Int) ∧ F (e) (0 : Int) ≤ 2147483647 := by have z := HC_i (c := 7) (q := 0) hC ho4.1 ho4.2 (by decide) rfl; rw [show F (e) ((0 : Nat) : Int) = F (e) (0 : Int) from rfl] at z; exact z
    refine jx_ar (pc_q := 11) (st_q := [.int (i32 (21)), .int (i32 (F (e) (0 : Int)))]) rfl rfl rfl rfl ?_
    refine jx_icmp_ne (pc_q := 14) (tg := 21) rfl rfl rfl (by omega) (by omega) (by decide) (by decide) (fun h8 => ?_) (fun h8 => ?_)
    · have _q := h8
      refine jx_ld (pc_q := 22) (l_q := L0) (st_q := [rv (me)]) rfl (jl_rvn g1) ?_
      refine jx_ld (pc_q := 23) (l_q := L0) (st_q := [rv (e), rv (me)]) rfl (jl_rvn g2) ?_
      refine cx_gr (pc_q := 26) (c := 7) (q := 4) (v := F (e) (4 : Int)) rfl rfl (by decide) (by decide) rfl rfl ho4.1 ho4.2 rfl ?_
      have y9 : F (e) (4 : Int) = 0 ∨ (own m (F (e) (4 : Int)) ∧ tg (F (e) (4 : Int)) = 8) := by have z := HC_r (c := 7) (q := 4) hC ho4.1 ho4.2 (by decide) rfl; rw [show F (e) ((4 : Nat) : Int) = F (e) (4 : Int) from rfl] at z; exact z
      refine cx_vi (c := 11) (a := me) (st := []) (as := [rv (F (e) (4 : Int))]) rfl rfl rfl o_me t_me (by decide) rfl ⟨rfl, rfl, (Nat.le_of_ble_eq_true rfl)⟩ rfl (hE6 (dd := d) (R := R) (m := m) (tg := tg) (ln := ln) (F := F) (me := me) (e := F (e) (4 : Int)) (hd := by omega) (hC := hC) (o_me := o_me) (t_me := t_me) (y_e := y9) (c_PSx := c_PSx) (c_RtS := c_RtS) (c_NT := c_NT) (n_e := (SN_w (k_q := kk - 1) (SN_c hC c_NT n_e (own_z ho4.1) (by omega)) (by omega)))) (fun o V_q hq => ?_)
      obtain ⟨F10, rfl, rfl, hC11, hM12, c13, c14, -⟩ := hq
      have hM15 : Fq 0 [(7, 11), (8, 15), (8, 16), (8, 17), (8, 18), (12, 2), (12, 4), (24, -5)] m tg F F10 := Fq_t (ln := ln) (ln1 := ln) hM0 Ex_r hM12 (by decide) (Or.inl rfl)
      refine Or.inl ⟨rfl, ?_⟩
      refine jx_ld (pc_q := 30) (l_q := L0) (st_q := [rv (me)]) rfl (jl_rvn g1) ?_
      refine jx_ld (pc_q := 31) (l_q := L0) (st_q := [rv (e), rv (me)]) rfl (jl_rvn g2) ?_
      refine cx_gr (pc_q := 34) (c := 7) (q := 5) (v := F (e) (5 : Int)) rfl rfl (by decide) (by decide) rfl rfl ho4.1 ho4.2 (show F10 (e) (5 : Int) = F (e) (5 : Int) from hM12 _ _ ho4.1 (own_z ho4.1) (by rw [ho4.2]; rfl)) ?_
      have y16 : F (e) (5 : Int) = 0 ∨ (own m (F (e) (5 : Int)) ∧ tg (F (e) (5 : Int)) = 8) := by have z := HC_r (c := 7) (q := 5) hC11 ho4.1 ho4.2 (by decide) rfl; rw [show F10 (e) ((5 : Nat) : Int) = F (e) (5 : Int) from (show F10 (e) (5 : Int) = F (e) (5 : Int) from hM12 _ _ ho4.1 (own_z ho4.1) (by rw [ho4.2]; rfl))] at z; exact z
      refine cx_vi (c := 11) (a := me) (st := []) (as := [rv (F (e) (5 : Int))]) rfl rfl rfl o_me t_me (by decide) rfl ⟨rfl, rfl, (Nat.le_of_ble_eq_true rfl)⟩ rfl (hE6 (dd := d) (R := R) (m := m) (tg := tg) (ln := ln) (F := F10) (me := me) (e := F (e) (5 : Int)) (hd := by omega) (hC := hC11) (o_me := o_me) (t_me := t_me) (y_e := y16) (c_PSx := c13) (c_RtS := c14) (c_NT := NT_q hC c_NT hM15 rfl) (n_e := (SN_q (SN_w (k_q := kk - 1) (SN_c hC c_NT n_e (own_z ho4.1) (by omega)) (by omega)) hM15 rfl rfl))) (fun o V_q hq => ?_)
      obtain ⟨F17, rfl, rfl, hC18, hM19, c20, c21, -⟩ := hq
      have hM22 : Fq 0 [(7, 11), (8, 15), (8, 16), (8, 17), (8, 18), (12, 2), (12, 4), (24, -5)] m tg F F17 := Fq_t (ln := ln) (ln1 := ln) hM15 Ex_r hM19 (by decide) (Or.inl rfl)
      refine Or.inl ⟨rfl, ?_⟩
      refine jx_rt (v := none) rfl rfl rfl rfl rfl rfl ?_
      exact ⟨F17, rfl, rfl, hC18, hM22, PSx_m c20 (by omega), RtS_m c21 (by omega), trivial⟩
    · have _q := h8
      refine jx_ld (pc_q := 15) (l_q := L0) (st_q := [rv (me)]) rfl (jl_rvn g1) ?_
      refine jx_ld (pc_q := 16) (l_q := L0) (st_q := [rv (e), rv (me)]) rfl (jl_rvn g2) ?_
      refine jx_ar (pc_q := 17) (st_q := [.int (i32 (1)), rv (e), rv (me)]) rfl rfl rfl rfl ?_
      refine cx_vi (c := 11) (a := me) (st := []) (as := [rv (e), .int (i32 (1))]) rfl rfl rfl o_me t_me (by decide) rfl ⟨rfl, rfl, (Nat.le_of_ble_eq_true rfl)⟩ rfl (k_LUses_use2 (dd := d) (R := R) (m := m) (tg := tg) (ln := ln) (F := F) (kk := kk) (hE := hE) (me := me) (p := e) (fl := 1) (hd := by omega) (hC := hC) (o_me := o_me) (t_me := t_me) (y_p := (Or.inr ⟨ho4.1, ho4.2⟩)) (h_fl := by omega) (c_PSx := c_PSx) (c_RtS := c_RtS) (c_NT := c_NT) (n_p := (SN_w n_e (by omega)))) (fun o V_q hq => ?_)
      obtain ⟨F23, rfl, rfl, hC24, hM25, c26, c27, -⟩ := hq
      have hM28 : Fq 0 [(7, 11), (8, 15), (8, 16), (8, 17), (8, 18), (12, 2), (12, 4), (24, -5)] m tg F F23 := Fq_t (ln := ln) (ln1 := ln) hM0 Ex_r hM25 (by decide) (Or.inl rfl)
      refine Or.inl ⟨rfl, ?_⟩
      refine jx_rt (v := none) rfl rfl rfl rfl rfl rfl ?_
      exact ⟨F23, rfl, rfl, hC24, hM28, PSx_m c26 (by omega), RtS_m c27 (by omega), trivial⟩
  · have _q := h3
    refine jx_rt (v := none) rfl rfl rfl rfl rfl rfl ?_
    exact ⟨F, rfl, rfl, hC, hM0, PSx_m c_PSx (by omega), RtS_m c_RtS (by omega), trivial⟩
theorem URy_all (X : jX) : ∀ k, URy X k
  | 0 => @k_LUses_read2 X 0 (fun h => absurd h (by decide))
  | k + 1 => @k_LUses_read2 X (k + 1) (fun _ => URy_all X k)
set_option maxRecDepth 20000 in
set_option maxHeartbeats 4000000 in
theorem k_LUses_arguments2_at_21 {X : jX} {kk : Nat} {d : Nat} {R : Nat → jC} {m : Nat} {tg ln : Int → Int} {F : Int → Int → Int} {a0 cr : Int} {me cl : Int} (hd : 3 * kk + 10 ≤ d + 1) (hC : HC 0 m tg ln F) (o_me : own m me) (t_me : tg me = 12) (o_cl : own m cl) (t_cl : tg cl = 8) (p_0 : F cl (0 : Int) = 5) (c_PSx : PSx m tg F) (c_RtS : RtS m tg F a0 cr) (c_NT : NT m tg F) (n_cl : SN m tg F cl (kk)) : ∀ (mm : Nat) (L : jL) (Fx : Int → Int → Int) (pa ar : Int), (mz m ar).toNat = mm → jGet L 0 = some (rv (me)) → jGet L 1 = some (rv (cl)) → jGet L 2 = some (rv pa) → jGet L 3 = some (rv ar) → HC 0 m tg ln Fx → Fq 0 [(7, 11), (8, 15), (8, 16), (8, 17), (8, 18), (12, 2), (12, 4), (24, -5)] m tg F Fx → (pa = 0 ∨ (own m pa ∧ tg pa = 7)) → (ar = 0 ∨ (own m ar ∧ tg ar = 8)) → (F cl (3 : Int) ≠ 0) → (ar = 0 ∨ F ar (101 : Int) = pa) → (SN m tg F ar (kk - 1)) → (PSx m tg Fx) → (RtS m tg Fx a0 cr) → wj X d jm234 (21, L, [], cV R m tg ln Fx) (fun o V_q => ∃ (F_q : Int → Int → Int), V_q = cV R m tg ln F_q ∧ o = .inl none ∧ HC 0 m tg ln F_q ∧ Fq 0 [(7, 11), (8, 15), (8, 16), (8, 17), (8, 18), (12, 2), (12, 4), (24, -5)] m tg F F_q ∧ (PSx m tg F_q) ∧ (RtS m tg F_q a0 cr) ∧ True) := by
  intro mm
  induction mm using Nat.strongRecOn with
  | ind mm ih =>
    intro L Fx pa ar hmm gL_0 gL_1 gL_2 gL_3 hCx hMx yx_pa yx_ar iv_0 iv_1 sx_ar cx_PSx cx_RtS
    have k1 := SN_p n_cl (own_z o_cl)
    refine jx_ld (pc_q := 22) (l_q := L) (st_q := [rv (ar)]) rfl (jl_rvn gL_3) ?_
    refine cx_nul (pc_q := 25) (tg_q := 74) rfl rfl rfl (fun h2 => ?_) (fun h2 => ?_)
    · have _q := h2
      refine jx_rt (v := none) rfl rfl rfl rfl rfl rfl ?_
      exact ⟨Fx, rfl, rfl, hCx, hMx, PSx_m cx_PSx (by omega), RtS_m cx_RtS (by omega), trivial⟩
    · have _q := h2
      have ho3 : own m (ar) ∧ tg (ar) = 8 := yx_ar.resolve_left h2
      have k4 := SN_p sx_ar h2
      refine jx_ld (pc_q := 26) (l_q := L) (st_q := [rv (pa)]) rfl (jl_rvn gL_2) ?_
      refine cx_nul (pc_q := 29) (tg_q := 74) rfl rfl rfl (fun h5 => ?_) (fun h5 => ?_)
      · have _q := h5
        refine jx_rt (v := none) rfl rfl rfl rfl rfl rfl ?_
        exact ⟨Fx, rfl, rfl, hCx, hMx, PSx_m cx_PSx (by omega), RtS_m cx_RtS (by omega), trivial⟩
      · have _q := h5
        have ho6 : own m (pa) ∧ tg (pa) = 7 := yx_pa.resolve_left h5
        refine jx_ld (pc_q := 30) (l_q := L) (st_q := [rv (pa)]) rfl (jl_rvn gL_2) ?_
        refine cx_gi (pc_q := 33) (c := 6) (q := 0) (v := F (pa) (0 : Int)) rfl rfl (by decide) (by decide) (Or.inl rfl) rfl ho6.1 ho6.2 (show Fx (pa) (0 : Int) = F (pa) (0 : Int) from hMx _ _ ho6.1 (own_z ho6.1) (by rw [ho6.2]; rfl)) ?_
        have b7 : (-2147483648 : Int) ≤ F (pa) (0 : Int) ∧ F (pa) (0 : Int) ≤ 2147483647 := by have z := HC_i (c := 6) (q := 0) hCx ho6.1 ho6.2 (by decide) rfl; rw [show Fx (pa) ((0 : Nat) : Int) = F (pa) (0 : Int) from (show Fx (pa) (0 : Int) = F (pa) (0 : Int) from hMx _ _ ho6.1 (own_z ho6.1) (by rw [ho6.2]; rfl))] at z; exact z
        refine jx_ar (pc_q := 34) (st_q := [.int (i32 (1)), .int (i32 (F (pa) (0 : Int)))]) rfl rfl rfl rfl ?_
        refine jx_icmp_ne (pc_q := 37) (tg := 45) rfl rfl rfl (by omega) (by omega) (by decide) (by decide) (fun h8 => ?_) (fun h8 => ?_)
        · have _q := h8
          refine jx_ld (pc_q := 46) (l_q := L) (st_q := [rv (me)]) rfl (jl_rvn gL_0) ?_
          refine jx_ld (pc_q := 47) (l_q := L) (st_q := [rv (ar), rv (me)]) rfl (jl_rvn gL_3) ?_
          refine jx_ld (pc_q := 48) (l_q := L) (st_q := [rv (pa), rv (ar), rv (me)]) rfl (jl_rvn gL_2) ?_
          refine cx_gi (pc_q := 51) (c := 6) (q := 11) (v := Fx (pa) (11 : Int)) rfl rfl (by decide) (by decide) (Or.inl rfl) rfl ho6.1 ho6.2 rfl ?_
          have b9 : (-2147483648 : Int) ≤ Fx (pa) (11 : Int) ∧ Fx (pa) (11 : Int) ≤ 2147483647 := by have z := HC_i (c := 6) (q := 11) hCx ho6.1 ho6.2 (by decide) rfl; rw [show Fx (pa) ((11 : Nat) : Int) = Fx (pa) (11 : Int) from rfl] at z; exact z
          refine cx_vi (c := 11) (a := me) (st := []) (as := [rv (ar), .int (i32 (Fx (pa) (11 : Int)))]) rfl rfl rfl o_me t_me (by decide) rfl ⟨rfl, rfl, (Nat.le_of_ble_eq_true rfl)⟩ rfl (k_LUses_use2 (dd := d) (R := R) (m := m) (tg := tg) (ln := ln) (F := Fx) (kk := kk - 1) (hE := fun _ => URy_all X _) (me := me) (p := ar) (fl := Fx (pa) (11 : Int)) (hd := by omega) (hC := hCx) (o_me := o_me) (t_me := t_me) (y_p := (Or.inr ⟨ho3.1, ho3.2⟩)) (h_fl := by omega) (c_PSx := cx_PSx) (c_RtS := cx_RtS) (c_NT := NT_q hC c_NT hMx rfl) (n_p := (SN_q (SN_w sx_ar (by omega)) hMx rfl rfl))) (fun o V_q hq => ?_)
          obtain ⟨F10, rfl, rfl, hC11, hM12, c13, c14, -⟩ := hq
          have hM15 : Fq 0 [(7, 11), (8, 15), (8, 16), (8, 17), (8, 18), (12, 2), (12, 4), (24, -5)] m tg F F10 := Fq_t (ln := ln) (ln1 := ln) hMx Ex_r hM12 (by decide) (Or.inl rfl)
          refine Or.inl ⟨rfl, ?_⟩
          refine jx_ld (pc_q := 55) (l_q := L) (st_q := [rv (me)]) rfl (jl_rvn gL_0) ?_
          refine jx_ld (pc_q := 56) (l_q := L) (st_q := [rv (cl), rv (me)]) rfl (jl_rvn gL_1) ?_
          refine jx_ld (pc_q := 57) (l_q := L) (st_q := [rv (ar), rv (cl), rv (me)]) rfl (jl_rvn gL_3) ?_
          refine jx_ld (pc_q := 58) (l_q := L) (st_q := [rv (pa), rv (ar), rv (cl), rv (me)]) rfl (jl_rvn gL_2) ?_
          have q16 : F10 (cl) (3 : Int) = F (cl) (3 : Int) := ((show F10 (cl) (3 : Int) = Fx (cl) (3 : Int) from hM12 _ _ o_cl (own_z o_cl) (by rw [t_cl]; rfl)).trans (show Fx (cl) (3 : Int) = F (cl) (3 : Int) from hMx _ _ o_cl (own_z o_cl) (by rw [t_cl]; rfl)))
          have q17 : F10 (ar) (3 : Int) = F (ar) (3 : Int) := ((show F10 (ar) (3 : Int) = Fx (ar) (3 : Int) from hM12 _ _ ho3.1 (own_z ho3.1) (by rw [ho3.2]; rfl)).trans (show Fx (ar) (3 : Int) = F (ar) (3 : Int) from hMx _ _ ho3.1 (own_z ho3.1) (by rw [ho3.2]; rfl)))
          refine cx_vi (c := 11) (a := me) (st := []) (as := [rv (cl), rv (ar), rv (pa)]) rfl rfl rfl o_me t_me (by decide) rfl ⟨rfl, rfl, (Nat.le_of_ble_eq_true rfl)⟩ rfl (k_LUses_againstOthers (dd := d) (R := R) (m := m) (tg := tg) (ln := ln) (F := F10) (kk := kk) (me := me) (cl := cl) (ag := ar) (pm := pa) (hd := by omega) (hC := hC11) (o_me := o_me) (t_me := t_me) (o_cl := o_cl) (t_cl := t_cl) (o_ag := ho3.1) (t_ag := ho3.2) (o_pm := ho6.1) (t_pm := ho6.2) (p_0 := by omega) (p_1 := (by
          have e1 : F (ar) (101 : Int) = pa := by omega
          have v := ((c_NT.1 _ ho3.1 ho3.2 (sx_ar.resolve_left (own_z ho3.1)).2.2.1).2.2.2 (by rw [e1]; exact own_z ho6.1)).2.2.1
          rw [e1] at v
          rw [show F10 (ar) (3 : Int) = F (ar) (3 : Int) from ((show F10 (ar) (3 : Int) = Fx (ar) (3 : Int) from hM12 _ _ ho3.1 (own_z ho3.1) (by rw [ho3.2]; rfl)).trans (show Fx (ar) (3 : Int) = F (ar) (3 : Int) from hMx _ _ ho3.1 (own_z ho3.1) (by rw [ho3.2]; rfl)))]
          exact v (by omega))) (c_NT := NT_q hC c_NT hM15 rfl) (n_cl := (SN_q (SN_w n_cl (by omega)) hM15 rfl rfl))) (fun o V_q hq => ?_)
          obtain ⟨F18, rfl, rfl, hC19, hM20, -⟩ := hq
          have hM21 : Fq 0 [(7, 11), (8, 15), (8, 16), (8, 17), (8, 18), (12, 2), (12, 4), (24, -5)] m tg F F18 := Fq_t (ln := ln) (ln1 := ln) hM15 Ex_r hM20 (by decide) (Or.inl rfl)
          have c22 : PSx m tg F18 := PSx_q c13 hM20 rfl
          have c23 : RtS m tg F18 a0 cr := RtS_q c14 hM20 rfl
          refine Or.inl ⟨rfl, ?_⟩
          refine jx_ld (pc_q := 62) (l_q := L) (st_q := [rv (pa)]) rfl (jl_rvn gL_2) ?_
          refine cx_gr (pc_q := 65) (c := 6) (q := 14) (v := F (pa) (14 : Int)) rfl rfl (by decide) (by decide) rfl rfl ho6.1 ho6.2 ((show F18 (pa) (14 : Int) = F10 (pa) (14 : Int) from hM20 _ _ ho6.1 (own_z ho6.1) (by rw [ho6.2]; rfl)).trans ((show F10 (pa) (14 : Int) = Fx (pa) (14 : Int) from hM12 _ _ ho6.1 (own_z ho6.1) (by rw [ho6.2]; rfl)).trans (show Fx (pa) (14 : Int) = F (pa) (14 : Int) from hMx _ _ ho6.1 (own_z ho6.1) (by rw [ho6.2]; rfl)))) ?_
          have y24 : F (pa) (14 : Int) = 0 ∨ (own m (F (pa) (14 : Int)) ∧ tg (F (pa) (14 : Int)) = 7) := by have z := HC_r (c := 6) (q := 14) hC19 ho6.1 ho6.2 (by decide) rfl; rw [show F18 (pa) ((14 : Nat) : Int) = F (pa) (14 : Int) from ((show F18 (pa) (14 : Int) = F10 (pa) (14 : Int) from hM20 _ _ ho6.1 (own_z ho6.1) (by rw [ho6.2]; rfl)).trans ((show F10 (pa) (14 : Int) = Fx (pa) (14 : Int) from hM12 _ _ ho6.1 (own_z ho6.1) (by rw [ho6.2]; rfl)).trans (show Fx (pa) (14 : Int) = F (pa) (14 : Int) from hMx _ _ ho6.1 (own_z ho6.1) (by rw [ho6.2]; rfl))))] at z; exact z
          have z25 := mz_a hC c_NT ho6.1 ho6.2
          refine jx_ld (pc_q := 66) (l_q := jSto1 L 2 (rv (F (pa) (14 : Int)))) (st_q := []) rfl (js_rvn (by decide)) ?_
          obtain ⟨L26, eL26⟩ : ∃ q : jL, q = jSto1 L 2 (rv (F (pa) (14 : Int))) := ⟨_, rfl⟩
          rw [← eL26]
          have g27 : jGet L26 0 = some (rv (me)) := eL26 ▸ jg_nr (by decide) gL_0
          have g28 : jGet L26 1 = some (rv (cl)) := eL26 ▸ jg_nr (by decide) gL_1
          have g29 : jGet L26 3 = some (rv (ar)) := eL26 ▸ jg_nr (by decide) gL_3
          have g30 : jGet L26 2 = some (rv (F (pa) (14 : Int))) := eL26 ▸ jg_eq
          clear eL26
          refine jx_ld (pc_q := 67) (l_q := L26) (st_q := [rv (ar)]) rfl (jl_rvn g29) ?_
          refine cx_gr (pc_q := 70) (c := 7) (q := 8) (v := F (ar) (8 : Int)) rfl rfl (by decide) (by decide) rfl rfl ho3.1 ho3.2 ((show F18 (ar) (8 : Int) = F10 (ar) (8 : Int) from hM20 _ _ ho3.1 (own_z ho3.1) (by rw [ho3.2]; rfl)).trans ((show F10 (ar) (8 : Int) = Fx (ar) (8 : Int) from hM12 _ _ ho3.1 (own_z ho3.1) (by rw [ho3.2]; rfl)).trans (show Fx (ar) (8 : Int) = F (ar) (8 : Int) from hMx _ _ ho3.1 (own_z ho3.1) (by rw [ho3.2]; rfl)))) ?_
          have y31 : F (ar) (8 : Int) = 0 ∨ (own m (F (ar) (8 : Int)) ∧ tg (F (ar) (8 : Int)) = 8) := by have z := HC_r (c := 7) (q := 8) hC19 ho3.1 ho3.2 (by decide) rfl; rw [show F18 (ar) ((8 : Nat) : Int) = F (ar) (8 : Int) from ((show F18 (ar) (8 : Int) = F10 (ar) (8 : Int) from hM20 _ _ ho3.1 (own_z ho3.1) (by rw [ho3.2]; rfl)).trans ((show F10 (ar) (8 : Int) = Fx (ar) (8 : Int) from hM12 _ _ ho3.1 (own_z ho3.1) (by rw [ho3.2]; rfl)).trans (show Fx (ar) (8 : Int) = F (ar) (8 : Int) from hMx _ _ ho3.1 (own_z ho3.1) (by rw [ho3.2]; rfl))))] at z; exact z
          have z32 := mz_n hC c_NT sx_ar (own_z ho3.1)
          refine jx_ld (pc_q := 71) (l_q := jSto1 L26 3 (rv (F (ar) (8 : Int)))) (st_q := []) rfl (js_rvn (by decide)) ?_
          obtain ⟨L33, eL33⟩ : ∃ q : jL, q = jSto1 L26 3 (rv (F (ar) (8 : Int))) := ⟨_, rfl⟩
          rw [← eL33]
          have g34 : jGet L33 0 = some (rv (me)) := eL33 ▸ jg_nr (by decide) g27
          have g35 : jGet L33 1 = some (rv (cl)) := eL33 ▸ jg_nr (by decide) g28
          have g36 : jGet L33 2 = some (rv (F (pa) (14 : Int))) := eL33 ▸ jg_nr (by decide) g30
          have g37 : jGet L33 3 = some (rv (F (ar) (8 : Int))) := eL33 ▸ jg_eq
          clear eL33
          refine jx_go (tg := 21) rfl rfl ?_
          exact ih _ (by omega) L33 F18 (F (pa) (14 : Int)) (F (ar) (8 : Int)) rfl g34 g35 g36 g37 hC19 hM21 y24 y31 (by omega) (by
          have e1 : F (ar) (101 : Int) = pa := by omega
          by_cases w : F (ar) (8 : Int) = 0
          · exact Or.inl w
          · refine Or.inr ?_
            have v := (((c_NT.1 _ ho3.1 ho3.2 (sx_ar.resolve_left (own_z ho3.1)).2.2.1).2.2.2 (by rw [e1]; exact own_z ho6.1)).2.2.2 w).1
            rw [e1] at v
            exact v) (SN_w (SN_n hC c_NT sx_ar (own_z ho3.1)) (by omega)) (PSx_m c22 (by omega)) (RtS_m c23 (by omega))
        · have _q := h8
          refine jx_ld (pc_q := 38) (l_q := L) (st_q := [rv (me)]) rfl (jl_rvn gL_0) ?_
          refine jx_ld (pc_q := 39) (l_q := L) (st_q := [rv (ar), rv (me)]) rfl (jl_rvn gL_3) ?_
          refine cx_vi (c := 11) (a := me) (st := []) (as := [rv (ar)]) rfl rfl rfl o_me t_me (by decide) rfl ⟨rfl, rfl, (Nat.le_of_ble_eq_true rfl)⟩ rfl (URy_all X (kk - 1) (dd := d) (R := R) (m := m) (tg := tg) (ln := ln) (F := Fx) (me := me) (e := ar) (hd := by omega) (hC := hCx) (o_me := o_me) (t_me := t_me) (y_e := (Or.inr ⟨ho3.1, ho3.2⟩)) (c_PSx := cx_PSx) (c_RtS := cx_RtS) (c_NT := NT_q hC c_NT hMx rfl) (n_e := (SN_q (SN_w sx_ar (by omega)) hMx rfl rfl))) (fun o V_q hq => ?_)
          obtain ⟨F38, rfl, rfl, hC39, hM40, c41, c42, -⟩ := hq
          have hM43 : Fq 0 [(7, 11), (8, 15), (8, 16), (8, 17), (8, 18), (12, 2), (12, 4), (24, -5)] m tg F F38 := Fq_t (ln := ln) (ln1 := ln) hMx Ex_r hM40 (by decide) (Or.inl rfl)
          refine Or.inl ⟨rfl, ?_⟩
          refine jx_go (tg := 61) rfl rfl ?_
          refine jx_ld (pc_q := 62) (l_q := L) (st_q := [rv (pa)]) rfl (jl_rvn gL_2) ?_
          refine cx_gr (pc_q := 65) (c := 6) (q := 14) (v := F (pa) (14 : Int)) rfl rfl (by decide) (by decide) rfl rfl ho6.1 ho6.2 ((show F38 (pa) (14 : Int) = Fx (pa) (14 : Int) from hM40 _ _ ho6.1 (own_z ho6.1) (by rw [ho6.2]; rfl)).trans (show Fx (pa) (14 : Int) = F (pa) (14 : Int) from hMx _ _ ho6.1 (own_z ho6.1) (by rw [ho6.2]; rfl))) ?_
          have y44 : F (pa) (14 : Int) = 0 ∨ (own m (F (pa) (14 : Int)) ∧ tg (F (pa) (14 : Int)) = 7) := by have z := HC_r (c := 6) (q := 14) hC39 ho6.1 ho6.2 (by decide) rfl; rw [show F38 (pa) ((14 : Nat) : Int) = F (pa) (14 : Int) from ((show F38 (pa) (14 : Int) = Fx (pa) (14 : Int) from hM40 _ _ ho6.1 (own_z ho6.1) (by rw [ho6.2]; rfl)).trans (show Fx (pa) (14 : Int) = F (pa) (14 : Int) from hMx _ _ ho6.1 (own_z ho6.1) (by rw [ho6.2]; rfl)))] at z; exact z
          have z45 := mz_a hC c_NT ho6.1 ho6.2
          refine jx_ld (pc_q := 66) (l_q := jSto1 L 2 (rv (F (pa) (14 : Int)))) (st_q := []) rfl (js_rvn (by decide)) ?_
          obtain ⟨L46, eL46⟩ : ∃ q : jL, q = jSto1 L 2 (rv (F (pa) (14 : Int))) := ⟨_, rfl⟩
          rw [← eL46]
          have g47 : jGet L46 0 = some (rv (me)) := eL46 ▸ jg_nr (by decide) gL_0
          have g48 : jGet L46 1 = some (rv (cl)) := eL46 ▸ jg_nr (by decide) gL_1
          have g49 : jGet L46 3 = some (rv (ar)) := eL46 ▸ jg_nr (by decide) gL_3
          have g50 : jGet L46 2 = some (rv (F (pa) (14 : Int))) := eL46 ▸ jg_eq
          clear eL46
          refine jx_ld (pc_q := 67) (l_q := L46) (st_q := [rv (ar)]) rfl (jl_rvn g49) ?_
          refine cx_gr (pc_q := 70) (c := 7) (q := 8) (v := F (ar) (8 : Int)) rfl rfl (by decide) (by decide) rfl rfl ho3.1 ho3.2 ((show F38 (ar) (8 : Int) = Fx (ar) (8 : Int) from hM40 _ _ ho3.1 (own_z ho3.1) (by rw [ho3.2]; rfl)).trans (show Fx (ar) (8 : Int) = F (ar) (8 : Int) from hMx _ _ ho3.1 (own_z ho3.1) (by rw [ho3.2]; rfl))) ?_
          have y51 : F (ar) (8 : Int) = 0 ∨ (own m (F (ar) (8 : Int)) ∧ tg (F (ar) (8 : Int)) = 8) := by have z := HC_r (c := 7) (q := 8) hC39 ho3.1 ho3.2 (by decide) rfl; rw [show F38 (ar) ((8 : Nat) : Int) = F (ar) (8 : Int) from ((show F38 (ar) (8 : Int) = Fx (ar) (8 : Int) from hM40 _ _ ho3.1 (own_z ho3.1) (by rw [ho3.2]; rfl)).trans (show Fx (ar) (8 : Int) = F (ar) (8 : Int) from hMx _ _ ho3.1 (own_z ho3.1) (by rw [ho3.2]; rfl)))] at z; exact z
          have z52 := mz_n hC c_NT sx_ar (own_z ho3.1)
          refine jx_ld (pc_q := 71) (l_q := jSto1 L46 3 (rv (F (ar) (8 : Int)))) (st_q := []) rfl (js_rvn (by decide)) ?_
          obtain ⟨L53, eL53⟩ : ∃ q : jL, q = jSto1 L46 3 (rv (F (ar) (8 : Int))) := ⟨_, rfl⟩
          rw [← eL53]
          have g54 : jGet L53 0 = some (rv (me)) := eL53 ▸ jg_nr (by decide) g47
          have g55 : jGet L53 1 = some (rv (cl)) := eL53 ▸ jg_nr (by decide) g48
          have g56 : jGet L53 2 = some (rv (F (pa) (14 : Int))) := eL53 ▸ jg_nr (by decide) g50
          have g57 : jGet L53 3 = some (rv (F (ar) (8 : Int))) := eL53 ▸ jg_eq
          clear eL53
          refine jx_go (tg := 21) rfl rfl ?_
          exact ih _ (by omega) L53 F38 (F (pa) (14 : Int)) (F (ar) (8 : Int)) rfl g54 g55 g56 g57 hC39 hM43 y44 y51 (by omega) (by
          have e1 : F (ar) (101 : Int) = pa := by omega
          by_cases w : F (ar) (8 : Int) = 0
          · exact Or.inl w
          · refine Or.inr ?_
            have v := (((c_NT.1 _ ho3.1 ho3.2 (sx_ar.resolve_left (own_z ho3.1)).2.2.1).2.2.2 (by rw [e1]; exact own_z ho6.1)).2.2.2 w).1
            rw [e1] at v
            exact v) (SN_w (SN_n hC c_NT sx_ar (own_z ho3.1)) (by omega)) (PSx_m c41 (by omega)) (RtS_m c42 (by omega))
set_option maxRecDepth 20000 in
set_option maxHeartbeats 4000000 in
theorem k_LUses_arguments2 {X : jX} {kk : Nat} {dd : Nat} {R : Nat → jC} {m : Nat} {tg ln : Int → Int} {F : Int → Int → Int} {a0 cr : Int} {me cl : Int} (hd : 3 * kk + 10 ≤ dd) (hC : HC 0 m tg ln F) (o_me : own m me) (t_me : tg me = 12) (o_cl : own m cl) (t_cl : tg cl = 8) (p_0 : F cl (0 : Int) = 5) (c_PSx : PSx m tg F) (c_RtS : RtS m tg F a0 cr) (c_NT : NT m tg F) (n_cl : SN m tg F cl (kk)) : wk X dd 234 [rv me, rv cl] (cV R m tg ln F) (fun o V_q => ∃ (F_q : Int → Int → Int), V_q = cV R m tg ln F_q ∧ o = .inl none ∧ HC 0 m tg ln F_q ∧ Fq 0 [(7, 11), (8, 15), (8, 16), (8, 17), (8, 18), (12, 2), (12, 4), (24, -5)] m tg F F_q ∧ (PSx m tg F_q) ∧ (RtS m tg F_q a0 cr) ∧ True) := by
  obtain ⟨d, rfl⟩ : ∃ d, dd = d + 1 := ⟨dd - 1, by omega⟩
  refine wk_of (e := jm234) rfl (by rw [jS_r, jS_r, jS_0]; exact Nat.le_of_ble_eq_true rfl) ?_
  rw [la_r, la_r, la_0]
  show wj X d jm234 (0, [(0, rv (me)), (1, rv (cl))], [], cV R m tg ln F) _
  have hM0 : Fq 0 [(7, 11), (8, 15), (8, 16), (8, 17), (8, 18), (12, 2), (12, 4), (24, -5)] m tg F F := Fq_r
  obtain ⟨L0, eL0⟩ : ∃ q : jL, q = [(0, rv (me)), (1, rv (cl))] := ⟨_, rfl⟩
  rw [← eL0]
  have g58 : jGet L0 0 = some (rv (me)) := eL0 ▸ (rfl : jGet [(0, rv (me)), (1, rv (cl))] 0 = some (rv (me)))
  have g59 : jGet L0 1 = some (rv (cl)) := eL0 ▸ (rfl : jGet [(0, rv (me)), (1, rv (cl))] 1 = some (rv (cl)))
  clear eL0
  have k60 := SN_p n_cl (own_z o_cl)
  refine jx_ld (pc_q := 1) (l_q := L0) (st_q := [rv (cl)]) rfl (jl_rvn g59) ?_
  refine cx_gr (pc_q := 4) (c := 7) (q := 3) (v := F (cl) (3 : Int)) rfl rfl (by decide) (by decide) rfl rfl o_cl t_cl rfl ?_
  have y61 : F (cl) (3 : Int) = 0 ∨ (own m (F (cl) (3 : Int)) ∧ tg (F (cl) (3 : Int)) = 7) := by have z := HC_r (c := 7) (q := 3) hC o_cl t_cl (by decide) rfl; rw [show F (cl) ((3 : Nat) : Int) = F (cl) (3 : Int) from rfl] at z; exact z
  refine cx_non (pc_q := 7) (tg_q := 8) rfl rfl rfl (fun h62 => ?_) (fun h62 => ?_)
  · have _q := h62
    have ho63 : own m (F (cl) (3 : Int)) ∧ tg (F (cl) (3 : Int)) = 7 := y61.resolve_left h62
    refine jx_ld (pc_q := 9) (l_q := L0) (st_q := [rv (cl)]) rfl (jl_rvn g59) ?_
    refine cx_gr (pc_q := 12) (c := 7) (q := 3) (v := F (cl) (3 : Int)) rfl rfl (by decide) (by decide) rfl rfl o_cl t_cl rfl ?_
    refine cx_gr (pc_q := 15) (c := 6) (q := 13) (v := F (F (cl) (3 : Int)) (13 : Int)) rfl rfl (by decide) (by decide) rfl rfl ho63.1 ho63.2 rfl ?_
    have y64 : F (F (cl) (3 : Int)) (13 : Int) = 0 ∨ (own m (F (F (cl) (3 : Int)) (13 : Int)) ∧ tg (F (F (cl) (3 : Int)) (13 : Int)) = 7) := by have z := HC_r (c := 6) (q := 13) hC ho63.1 ho63.2 (by decide) rfl; rw [show F (F (cl) (3 : Int)) ((13 : Nat) : Int) = F (F (cl) (3 : Int)) (13 : Int) from rfl] at z; exact z
    refine jx_ld (pc_q := 16) (l_q := jSto1 L0 2 (rv (F (F (cl) (3 : Int)) (13 : Int)))) (st_q := []) rfl (js_rvn (by decide)) ?_
    obtain ⟨L65, eL65⟩ : ∃ q : jL, q = jSto1 L0 2 (rv (F (F (cl) (3 : Int)) (13 : Int))) := ⟨_, rfl⟩
    rw [← eL65]
    have g66 : jGet L65 0 = some (rv (me)) := eL65 ▸ jg_nr (by decide) g58
    have g67 : jGet L65 1 = some (rv (cl)) := eL65 ▸ jg_nr (by decide) g59
    have g68 : jGet L65 2 = some (rv (F (F (cl) (3 : Int)) (13 : Int))) := eL65 ▸ jg_eq
    clear eL65
    refine jx_ld (pc_q := 17) (l_q := L65) (st_q := [rv (cl)]) rfl (jl_rvn g67) ?_
    refine cx_gr (pc_q := 20) (c := 7) (q := 4) (v := F (cl) (4 : Int)) rfl rfl (by decide) (by decide) rfl rfl o_cl t_cl rfl ?_
    have y69 : F (cl) (4 : Int) = 0 ∨ (own m (F (cl) (4 : Int)) ∧ tg (F (cl) (4 : Int)) = 8) := by have z := HC_r (c := 7) (q := 4) hC o_cl t_cl (by decide) rfl; rw [show F (cl) ((4 : Nat) : Int) = F (cl) (4 : Int) from rfl] at z; exact z
    refine jx_ld (pc_q := 21) (l_q := jSto1 L65 3 (rv (F (cl) (4 : Int)))) (st_q := []) rfl (js_rvn (by decide)) ?_
    obtain ⟨L70, eL70⟩ : ∃ q : jL, q = jSto1 L65 3 (rv (F (cl) (4 : Int))) := ⟨_, rfl⟩
    rw [← eL70]
    have g71 : jGet L70 0 = some (rv (me)) := eL70 ▸ jg_nr (by decide) g66
    have g72 : jGet L70 1 = some (rv (cl)) := eL70 ▸ jg_nr (by decide) g67
    have g73 : jGet L70 2 = some (rv (F (F (cl) (3 : Int)) (13 : Int))) := eL70 ▸ jg_nr (by decide) g68
    have g74 : jGet L70 3 = some (rv (F (cl) (4 : Int))) := eL70 ▸ jg_eq
    clear eL70
    exact k_LUses_arguments2_at_21 (X := X) (kk := kk) (d := d) (R := R) (m := m) (tg := tg) (ln := ln) (F := F) (a0 := a0) (cr := cr) (me := me) (cl := cl) (hd := hd) (hC := hC) (o_me := o_me) (t_me := t_me) (o_cl := o_cl) (t_cl := t_cl) (p_0 := p_0) (c_PSx := c_PSx) (c_RtS := c_RtS) (c_NT := c_NT) (n_cl := n_cl) _ L70 F (F (F (cl) (3 : Int)) (13 : Int)) (F (cl) (4 : Int)) rfl g71 g72 g73 g74 hC hM0 y64 y69 (by omega) (by
          by_cases w : F (cl) (4 : Int) = 0
          · exact Or.inl w
          · exact Or.inr ((c_NT.1 _ o_cl t_cl (n_cl.resolve_left (own_z o_cl)).2.2.1).2.2.1 (by omega) (own_z ho63.1) w).1) (SN_w (SN_c hC c_NT n_cl (own_z o_cl) (by omega)) (by omega)) (PSx_m c_PSx (by omega)) (RtS_m c_RtS (by omega))
  · have _q := h62
    refine jx_rt (v := none) rfl rfl rfl rfl rfl rfl ?_
    exact ⟨F, rfl, rfl, hC, hM0, PSx_m c_PSx (by omega), RtS_m c_RtS (by omega), trivial⟩
def UPy (X : jX) (kk : Nat) : Prop := ∀ ⦃dd : Nat⦄ ⦃R : Nat → jC⦄ ⦃m : Nat⦄ ⦃tg ln : Int → Int⦄ ⦃F : Int → Int → Int⦄ ⦃a0 cr : Int⦄ ⦃me p : Int⦄ (hd : 3 * kk + 16 ≤ dd) (hC : HC 0 m tg ln F) (o_me : own m me) (t_me : tg me = 12) (y_p : p = 0 ∨ (own m p ∧ tg p = 8)) (c_PSx : PSx m tg F) (c_RtS : RtS m tg F a0 cr) (c_NT : NT m tg F) (n_p : SN m tg F p (kk)), wk X dd 228 [rv me, rv p] (cV R m tg ln F) (fun o V_q => ∃ (F_q : Int → Int → Int), V_q = cV R m tg ln F_q ∧ o = .inl none ∧ HC 0 m tg ln F_q ∧ Fq 0 [(7, 11), (8, 15), (8, 16), (8, 17), (8, 18), (12, 2), (12, 4), (24, -5), (8, 13), (8, 14)] m tg F F_q ∧ (PSx m tg F_q) ∧ (RtS m tg F_q a0 cr) ∧ True)
set_option maxRecDepth 20000 in
set_option maxHeartbeats 4000000 in
theorem k_LUses_choices2_at_5 {X : jX} {kk : Nat} (hE : 1 ≤ kk → UPy X (kk - 1)) {d : Nat} {R : Nat → jC} {m : Nat} {tg ln : Int → Int} {F : Int → Int → Int} {a0 cr : Int} {me p : Int} (hd : 3 * kk + 15 ≤ d + 1) (hC : HC 0 m tg ln F) (o_me : own m me) (t_me : tg me = 12) (o_p : own m p) (t_p : tg p = 8) (c_PSx : PSx m tg F) (c_RtS : RtS m tg F a0 cr) (c_NT : NT m tg F) (n_p : SN m tg F p (kk)) : ∀ (mm : Nat) (L : jL) (Fx : Int → Int → Int) (ch : Int), (mz m ch).toNat = mm → jGet L 0 = some (rv (me)) → jGet L 1 = some (rv (p)) → jGet L 2 = some (rv ch) → HC 0 m tg ln Fx → Fq 0 [(7, 11), (8, 15), (8, 16), (8, 17), (8, 18), (12, 2), (12, 4), (24, -5), (8, 13), (8, 14)] m tg F Fx → (ch = 0 ∨ (own m ch ∧ tg ch = 8)) → (SN m tg F ch (kk - 1)) → (PSx m tg Fx) → (RtS m tg Fx a0 cr) → wj X d jm229 (5, L, [], cV R m tg ln Fx) (fun o V_q => ∃ (F_q : Int → Int → Int), V_q = cV R m tg ln F_q ∧ o = .inl none ∧ HC 0 m tg ln F_q ∧ Fq 0 [(7, 11), (8, 15), (8, 16), (8, 17), (8, 18), (12, 2), (12, 4), (24, -5), (8, 13), (8, 14)] m tg F F_q ∧ (PSx m tg F_q) ∧ (RtS m tg F_q a0 cr) ∧ True) := by
  intro mm
  induction mm using Nat.strongRecOn with
  | ind mm ih =>
    intro L Fx ch hmm gL_0 gL_1 gL_2 hCx hMx yx_ch sx_ch cx_PSx cx_RtS
    have k1 := SN_p n_p (own_z o_p)
    have hE2 := hE (by omega)
    refine jx_ld (pc_q := 6) (l_q := L) (st_q := [rv (ch)]) rfl (jl_rvn gL_2) ?_
    refine cx_nul (pc_q := 9) (tg_q := 52) rfl rfl rfl (fun h3 => ?_) (fun h3 => ?_)
    · have _q := h3
      refine jx_rt (v := none) rfl rfl rfl rfl rfl rfl ?_
      exact ⟨Fx, rfl, rfl, hCx, hMx, PSx_m cx_PSx (by omega), RtS_m cx_RtS (by omega), trivial⟩
    · have _q := h3
      have ho4 : own m (ch) ∧ tg (ch) = 8 := yx_ch.resolve_left h3
      have k5 := SN_p sx_ch h3
      refine jx_ld (pc_q := 10) (l_q := L) (st_q := [rv (me)]) rfl (jl_rvn gL_0) ?_
      refine jx_ld (pc_q := 11) (l_q := L) (st_q := [rv (ch), rv (me)]) rfl (jl_rvn gL_2) ?_
      refine cx_gr (pc_q := 14) (c := 7) (q := 4) (v := F (ch) (4 : Int)) rfl rfl (by decide) (by decide) rfl rfl ho4.1 ho4.2 (show Fx (ch) (4 : Int) = F (ch) (4 : Int) from hMx _ _ ho4.1 (own_z ho4.1) (by rw [ho4.2]; rfl)) ?_
      have y6 : F (ch) (4 : Int) = 0 ∨ (own m (F (ch) (4 : Int)) ∧ tg (F (ch) (4 : Int)) = 8) := by have z := HC_r (c := 7) (q := 4) hCx ho4.1 ho4.2 (by decide) rfl; rw [show Fx (ch) ((4 : Nat) : Int) = F (ch) (4 : Int) from (show Fx (ch) (4 : Int) = F (ch) (4 : Int) from hMx _ _ ho4.1 (own_z ho4.1) (by rw [ho4.2]; rfl))] at z; exact z
      refine cx_vi (c := 11) (a := me) (st := []) (as := [rv (F (ch) (4 : Int))]) rfl rfl rfl o_me t_me (by decide) rfl ⟨rfl, rfl, (Nat.le_of_ble_eq_true rfl)⟩ rfl (URy_all X ((kk - 1) - 1) (dd := d) (R := R) (m := m) (tg := tg) (ln := ln) (F := Fx) (me := me) (e := F (ch) (4 : Int)) (hd := by omega) (hC := hCx) (o_me := o_me) (t_me := t_me) (y_e := y6) (c_PSx := cx_PSx) (c_RtS := cx_RtS) (c_NT := NT_q hC c_NT hMx rfl) (n_e := (SN_q (SN_w (SN_c hC c_NT sx_ch (own_z ho4.1) (by omega)) (by omega)) hMx rfl rfl))) (fun o V_q hq => ?_)
      obtain ⟨F7, rfl, rfl, hC8, hM9, c10, c11, -⟩ := hq
      have hM12 : Fq 0 [(7, 11), (8, 15), (8, 16), (8, 17), (8, 18), (12, 2), (12, 4), (24, -5), (8, 13), (8, 14)] m tg F F7 := Fq_t (ln := ln) (ln1 := ln) hMx Ex_r hM9 (by decide) (Or.inl rfl)
      refine Or.inl ⟨rfl, ?_⟩
      refine jx_ld (pc_q := 18) (l_q := L) (st_q := [rv (me)]) rfl (jl_rvn gL_0) ?_
      refine jx_ld (pc_q := 19) (l_q := L) (st_q := [rv (ch), rv (me)]) rfl (jl_rvn gL_2) ?_
      refine cx_gr (pc_q := 22) (c := 7) (q := 5) (v := F (ch) (5 : Int)) rfl rfl (by decide) (by decide) rfl rfl ho4.1 ho4.2 ((show F7 (ch) (5 : Int) = Fx (ch) (5 : Int) from hM9 _ _ ho4.1 (own_z ho4.1) (by rw [ho4.2]; rfl)).trans (show Fx (ch) (5 : Int) = F (ch) (5 : Int) from hMx _ _ ho4.1 (own_z ho4.1) (by rw [ho4.2]; rfl))) ?_
      have y13 : F (ch) (5 : Int) = 0 ∨ (own m (F (ch) (5 : Int)) ∧ tg (F (ch) (5 : Int)) = 8) := by have z := HC_r (c := 7) (q := 5) hC8 ho4.1 ho4.2 (by decide) rfl; rw [show F7 (ch) ((5 : Nat) : Int) = F (ch) (5 : Int) from ((show F7 (ch) (5 : Int) = Fx (ch) (5 : Int) from hM9 _ _ ho4.1 (own_z ho4.1) (by rw [ho4.2]; rfl)).trans (show Fx (ch) (5 : Int) = F (ch) (5 : Int) from hMx _ _ ho4.1 (own_z ho4.1) (by rw [ho4.2]; rfl)))] at z; exact z
      refine jx_ar (pc_q := 24) (st_q := [.int (i32 (8)), rv (F (ch) (5 : Int)), rv (me)]) rfl rfl rfl rfl ?_
      refine cx_vi (c := 11) (a := me) (st := []) (as := [rv (F (ch) (5 : Int)), .int (i32 (8))]) rfl rfl rfl o_me t_me (by decide) rfl ⟨rfl, rfl, (Nat.le_of_ble_eq_true rfl)⟩ rfl (k_LUses_use2 (dd := d) (R := R) (m := m) (tg := tg) (ln := ln) (F := F7) (kk := (kk - 1) - 1) (hE := fun _ => URy_all X _) (me := me) (p := F (ch) (5 : Int)) (fl := 8) (hd := by omega) (hC := hC8) (o_me := o_me) (t_me := t_me) (y_p := y13) (h_fl := by omega) (c_PSx := c10) (c_RtS := c11) (c_NT := NT_q hC c_NT hM12 rfl) (n_p := (SN_q (SN_w (SN_c hC c_NT sx_ch (own_z ho4.1) (by omega)) (by omega)) hM12 rfl rfl))) (fun o V_q hq => ?_)
      obtain ⟨F14, rfl, rfl, hC15, hM16, c17, c18, -⟩ := hq
      have hM19 : Fq 0 [(7, 11), (8, 15), (8, 16), (8, 17), (8, 18), (12, 2), (12, 4), (24, -5), (8, 13), (8, 14)] m tg F F14 := Fq_t (ln := ln) (ln1 := ln) hM12 Ex_r hM16 (by decide) (Or.inl rfl)
      refine Or.inl ⟨rfl, ?_⟩
      refine jx_ld (pc_q := 28) (l_q := L) (st_q := [rv (me)]) rfl (jl_rvn gL_0) ?_
      refine jx_ld (pc_q := 29) (l_q := L) (st_q := [rv (ch), rv (me)]) rfl (jl_rvn gL_2) ?_
      refine cx_gr (pc_q := 32) (c := 7) (q := 6) (v := F (ch) (6 : Int)) rfl rfl (by decide) (by decide) rfl rfl ho4.1 ho4.2 ((show F14 (ch) (6 : Int) = F7 (ch) (6 : Int) from hM16 _ _ ho4.1 (own_z ho4.1) (by rw [ho4.2]; rfl)).trans ((show F7 (ch) (6 : Int) = Fx (ch) (6 : Int) from hM9 _ _ ho4.1 (own_z ho4.1) (by rw [ho4.2]; rfl)).trans (show Fx (ch) (6 : Int) = F (ch) (6 : Int) from hMx _ _ ho4.1 (own_z ho4.1) (by rw [ho4.2]; rfl)))) ?_
      have y20 : F (ch) (6 : Int) = 0 ∨ (own m (F (ch) (6 : Int)) ∧ tg (F (ch) (6 : Int)) = 8) := by have z := HC_r (c := 7) (q := 6) hC15 ho4.1 ho4.2 (by decide) rfl; rw [show F14 (ch) ((6 : Nat) : Int) = F (ch) (6 : Int) from ((show F14 (ch) (6 : Int) = F7 (ch) (6 : Int) from hM16 _ _ ho4.1 (own_z ho4.1) (by rw [ho4.2]; rfl)).trans ((show F7 (ch) (6 : Int) = Fx (ch) (6 : Int) from hM9 _ _ ho4.1 (own_z ho4.1) (by rw [ho4.2]; rfl)).trans (show Fx (ch) (6 : Int) = F (ch) (6 : Int) from hMx _ _ ho4.1 (own_z ho4.1) (by rw [ho4.2]; rfl))))] at z; exact z
      refine jx_ar (pc_q := 33) (st_q := [.int (i32 (2)), rv (F (ch) (6 : Int)), rv (me)]) rfl rfl rfl rfl ?_
      refine cx_vi (c := 11) (a := me) (st := []) (as := [rv (F (ch) (6 : Int)), .int (i32 (2))]) rfl rfl rfl o_me t_me (by decide) rfl ⟨rfl, rfl, (Nat.le_of_ble_eq_true rfl)⟩ rfl (k_LUses_use2 (dd := d) (R := R) (m := m) (tg := tg) (ln := ln) (F := F14) (kk := (kk - 1) - 1) (hE := fun _ => URy_all X _) (me := me) (p := F (ch) (6 : Int)) (fl := 2) (hd := by omega) (hC := hC15) (o_me := o_me) (t_me := t_me) (y_p := y20) (h_fl := by omega) (c_PSx := c17) (c_RtS := c18) (c_NT := NT_q hC c_NT hM19 rfl) (n_p := (SN_q (SN_w (SN_c hC c_NT sx_ch (own_z ho4.1) (by omega)) (by omega)) hM19 rfl rfl))) (fun o V_q hq => ?_)
      obtain ⟨F21, rfl, rfl, hC22, hM23, c24, c25, -⟩ := hq
      have hM26 : Fq 0 [(7, 11), (8, 15), (8, 16), (8, 17), (8, 18), (12, 2), (12, 4), (24, -5), (8, 13), (8, 14)] m tg F F21 := Fq_t (ln := ln) (ln1 := ln) hM19 Ex_r hM23 (by decide) (Or.inl rfl)
      refine Or.inl ⟨rfl, ?_⟩
      refine jx_ld (pc_q := 37) (l_q := L) (st_q := [rv (me)]) rfl (jl_rvn gL_0) ?_
      refine jx_ld (pc_q := 38) (l_q := L) (st_q := [rv (ch), rv (me)]) rfl (jl_rvn gL_2) ?_
      refine cx_gr (pc_q := 41) (c := 7) (q := 7) (v := F (ch) (7 : Int)) rfl rfl (by decide) (by decide) rfl rfl ho4.1 ho4.2 ((show F21 (ch) (7 : Int) = F14 (ch) (7 : Int) from hM23 _ _ ho4.1 (own_z ho4.1) (by rw [ho4.2]; rfl)).trans ((show F14 (ch) (7 : Int) = F7 (ch) (7 : Int) from hM16 _ _ ho4.1 (own_z ho4.1) (by rw [ho4.2]; rfl)).trans ((show F7 (ch) (7 : Int) = Fx (ch) (7 : Int) from hM9 _ _ ho4.1 (own_z ho4.1) (by rw [ho4.2]; rfl)).trans (show Fx (ch) (7 : Int) = F (ch) (7 : Int) from hMx _ _ ho4.1 (own_z ho4.1) (by rw [ho4.2]; rfl))))) ?_
      have y27 : F (ch) (7 : Int) = 0 ∨ (own m (F (ch) (7 : Int)) ∧ tg (F (ch) (7 : Int)) = 8) := by have z := HC_r (c := 7) (q := 7) hC22 ho4.1 ho4.2 (by decide) rfl; rw [show F21 (ch) ((7 : Nat) : Int) = F (ch) (7 : Int) from ((show F21 (ch) (7 : Int) = F14 (ch) (7 : Int) from hM23 _ _ ho4.1 (own_z ho4.1) (by rw [ho4.2]; rfl)).trans ((show F14 (ch) (7 : Int) = F7 (ch) (7 : Int) from hM16 _ _ ho4.1 (own_z ho4.1) (by rw [ho4.2]; rfl)).trans ((show F7 (ch) (7 : Int) = Fx (ch) (7 : Int) from hM9 _ _ ho4.1 (own_z ho4.1) (by rw [ho4.2]; rfl)).trans (show Fx (ch) (7 : Int) = F (ch) (7 : Int) from hMx _ _ ho4.1 (own_z ho4.1) (by rw [ho4.2]; rfl)))))] at z; exact z
      refine cx_vi (c := 11) (a := me) (st := []) (as := [rv (F (ch) (7 : Int))]) rfl rfl rfl o_me t_me (by decide) rfl ⟨rfl, rfl, (Nat.le_of_ble_eq_true rfl)⟩ rfl (hE2 (dd := d) (R := R) (m := m) (tg := tg) (ln := ln) (F := F21) (me := me) (p := F (ch) (7 : Int)) (hd := by omega) (hC := hC22) (o_me := o_me) (t_me := t_me) (y_p := y27) (c_PSx := c24) (c_RtS := c25) (c_NT := NT_q hC c_NT hM26 rfl) (n_p := (SN_q (SN_w (k_q := kk - 1) (SN_c hC c_NT sx_ch (own_z ho4.1) (by omega)) (by omega)) hM26 rfl rfl))) (fun o V_q hq => ?_)
      obtain ⟨F28, rfl, rfl, hC29, hM30, c31, c32, -⟩ := hq
      have hM33 : Fq 0 [(7, 11), (8, 15), (8, 16), (8, 17), (8, 18), (12, 2), (12, 4), (24, -5), (8, 13), (8, 14)] m tg F F28 := Fq_t (ln := ln) (ln1 := ln) hM26 Ex_r hM30 (by decide) (Or.inl rfl)
      refine Or.inl ⟨rfl, ?_⟩
      refine jx_ld (pc_q := 45) (l_q := L) (st_q := [rv (ch)]) rfl (jl_rvn gL_2) ?_
      refine cx_gr (pc_q := 48) (c := 7) (q := 8) (v := F (ch) (8 : Int)) rfl rfl (by decide) (by decide) rfl rfl ho4.1 ho4.2 ((show F28 (ch) (8 : Int) = F21 (ch) (8 : Int) from hM30 _ _ ho4.1 (own_z ho4.1) (by rw [ho4.2]; rfl)).trans ((show F21 (ch) (8 : Int) = F14 (ch) (8 : Int) from hM23 _ _ ho4.1 (own_z ho4.1) (by rw [ho4.2]; rfl)).trans ((show F14 (ch) (8 : Int) = F7 (ch) (8 : Int) from hM16 _ _ ho4.1 (own_z ho4.1) (by rw [ho4.2]; rfl)).trans ((show F7 (ch) (8 : Int) = Fx (ch) (8 : Int) from hM9 _ _ ho4.1 (own_z ho4.1) (by rw [ho4.2]; rfl)).trans (show Fx (ch) (8 : Int) = F (ch) (8 : Int) from hMx _ _ ho4.1 (own_z ho4.1) (by rw [ho4.2]; rfl)))))) ?_
      have y34 : F (ch) (8 : Int) = 0 ∨ (own m (F (ch) (8 : Int)) ∧ tg (F (ch) (8 : Int)) = 8) := by have z := HC_r (c := 7) (q := 8) hC29 ho4.1 ho4.2 (by decide) rfl; rw [show F28 (ch) ((8 : Nat) : Int) = F (ch) (8 : Int) from ((show F28 (ch) (8 : Int) = F21 (ch) (8 : Int) from hM30 _ _ ho4.1 (own_z ho4.1) (by rw [ho4.2]; rfl)).trans ((show F21 (ch) (8 : Int) = F14 (ch) (8 : Int) from hM23 _ _ ho4.1 (own_z ho4.1) (by rw [ho4.2]; rfl)).trans ((show F14 (ch) (8 : Int) = F7 (ch) (8 : Int) from hM16 _ _ ho4.1 (own_z ho4.1) (by rw [ho4.2]; rfl)).trans ((show F7 (ch) (8 : Int) = Fx (ch) (8 : Int) from hM9 _ _ ho4.1 (own_z ho4.1) (by rw [ho4.2]; rfl)).trans (show Fx (ch) (8 : Int) = F (ch) (8 : Int) from hMx _ _ ho4.1 (own_z ho4.1) (by rw [ho4.2]; rfl))))))] at z; exact z
      have z35 := mz_n hC c_NT sx_ch (own_z ho4.1)
      refine jx_ld (pc_q := 49) (l_q := jSto1 L 2 (rv (F (ch) (8 : Int)))) (st_q := []) rfl (js_rvn (by decide)) ?_
      obtain ⟨L36, eL36⟩ : ∃ q : jL, q = jSto1 L 2 (rv (F (ch) (8 : Int))) := ⟨_, rfl⟩
      rw [← eL36]
      have g37 : jGet L36 0 = some (rv (me)) := eL36 ▸ jg_nr (by decide) gL_0
      have g38 : jGet L36 1 = some (rv (p)) := eL36 ▸ jg_nr (by decide) gL_1
      have g39 : jGet L36 2 = some (rv (F (ch) (8 : Int))) := eL36 ▸ jg_eq
      clear eL36
      refine jx_go (tg := 5) rfl rfl ?_
      exact ih _ (by omega) L36 F28 (F (ch) (8 : Int)) rfl g37 g38 g39 hC29 hM33 y34 (SN_w (SN_n hC c_NT sx_ch (own_z ho4.1)) (by omega)) (PSx_m c31 (by omega)) (RtS_m c32 (by omega))
set_option maxRecDepth 20000 in
set_option maxHeartbeats 4000000 in
theorem k_LUses_choices2 {X : jX} {kk : Nat} (hE : 1 ≤ kk → UPy X (kk - 1)) {dd : Nat} {R : Nat → jC} {m : Nat} {tg ln : Int → Int} {F : Int → Int → Int} {a0 cr : Int} {me p : Int} (hd : 3 * kk + 15 ≤ dd) (hC : HC 0 m tg ln F) (o_me : own m me) (t_me : tg me = 12) (o_p : own m p) (t_p : tg p = 8) (c_PSx : PSx m tg F) (c_RtS : RtS m tg F a0 cr) (c_NT : NT m tg F) (n_p : SN m tg F p (kk)) : wk X dd 229 [rv me, rv p] (cV R m tg ln F) (fun o V_q => ∃ (F_q : Int → Int → Int), V_q = cV R m tg ln F_q ∧ o = .inl none ∧ HC 0 m tg ln F_q ∧ Fq 0 [(7, 11), (8, 15), (8, 16), (8, 17), (8, 18), (12, 2), (12, 4), (24, -5), (8, 13), (8, 14)] m tg F F_q ∧ (PSx m tg F_q) ∧ (RtS m tg F_q a0 cr) ∧ True) := by
  obtain ⟨d, rfl⟩ : ∃ d, dd = d + 1 := ⟨dd - 1, by omega⟩
  refine wk_of (e := jm229) rfl (by rw [jS_r, jS_r, jS_0]; exact Nat.le_of_ble_eq_true rfl) ?_
  rw [la_r, la_r, la_0]
  show wj X d jm229 (0, [(0, rv (me)), (1, rv (p))], [], cV R m tg ln F) _
  have hM0 : Fq 0 [(7, 11), (8, 15), (8, 16), (8, 17), (8, 18), (12, 2), (12, 4), (24, -5), (8, 13), (8, 14)] m tg F F := Fq_r
  obtain ⟨L0, eL0⟩ : ∃ q : jL, q = [(0, rv (me)), (1, rv (p))] := ⟨_, rfl⟩
  rw [← eL0]
  have g40 : jGet L0 0 = some (rv (me)) := eL0 ▸ (rfl : jGet [(0, rv (me)), (1, rv (p))] 0 = some (rv (me)))
  have g41 : jGet L0 1 = some (rv (p)) := eL0 ▸ (rfl : jGet [(0, rv (me)), (1, rv (p))] 1 = some (rv (p)))
  clear eL0
  have k42 := SN_p n_p (own_z o_p)
  have hE43 := hE (by omega)
  refine jx_ld (pc_q := 1) (l_q := L0) (st_q := [rv (p)]) rfl (jl_rvn g41) ?_
  refine cx_gr (pc_q := 4) (c := 7) (q := 4) (v := F (p) (4 : Int)) rfl rfl (by decide) (by decide) rfl rfl o_p t_p rfl ?_
  have y44 : F (p) (4 : Int) = 0 ∨ (own m (F (p) (4 : Int)) ∧ tg (F (p) (4 : Int)) = 8) := by have z := HC_r (c := 7) (q := 4) hC o_p t_p (by decide) rfl; rw [show F (p) ((4 : Nat) : Int) = F (p) (4 : Int) from rfl] at z; exact z
  refine jx_ld (pc_q := 5) (l_q := jSto1 L0 2 (rv (F (p) (4 : Int)))) (st_q := []) rfl (js_rvn (by decide)) ?_
  obtain ⟨L45, eL45⟩ : ∃ q : jL, q = jSto1 L0 2 (rv (F (p) (4 : Int))) := ⟨_, rfl⟩
  rw [← eL45]
  have g46 : jGet L45 0 = some (rv (me)) := eL45 ▸ jg_nr (by decide) g40
  have g47 : jGet L45 1 = some (rv (p)) := eL45 ▸ jg_nr (by decide) g41
  have g48 : jGet L45 2 = some (rv (F (p) (4 : Int))) := eL45 ▸ jg_eq
  clear eL45
  exact k_LUses_choices2_at_5 (X := X) (kk := kk) (hE := hE) (d := d) (R := R) (m := m) (tg := tg) (ln := ln) (F := F) (a0 := a0) (cr := cr) (me := me) (p := p) (hd := hd) (hC := hC) (o_me := o_me) (t_me := t_me) (o_p := o_p) (t_p := t_p) (c_PSx := c_PSx) (c_RtS := c_RtS) (c_NT := c_NT) (n_p := n_p) _ L45 F (F (p) (4 : Int)) rfl g46 g47 g48 hC hM0 y44 (SN_w (SN_c hC c_NT n_p (own_z o_p) (by omega)) (by omega)) (PSx_m c_PSx (by omega)) (RtS_m c_RtS (by omega))
set_option maxRecDepth 20000 in
set_option maxHeartbeats 4000000 in
theorem k_LUses_branches2_at_81 {X : jX} {kk : Nat} (hE : 1 ≤ kk → UPy X (kk - 1)) {d : Nat} {R : Nat → jC} {m : Nat} {tg ln : Int → Int} {F : Int → Int → Int} {a0 cr : Int} {me p : Int} (hd : 3 * kk + 15 ≤ d + 1) (hC : HC 0 m tg ln F) (o_me : own m me) (t_me : tg me = 12) (o_p : own m p) (t_p : tg p = 8) (c_PSx : PSx m tg F) (c_RtS : RtS m tg F a0 cr) (c_NT : NT m tg F) (n_p : SN m tg F p (kk)) : ∀ (mm : Nat) (L : jL) (Fx : Int → Int → Int) (b : Int), (mz m b).toNat = mm → jGet L 0 = some (rv (me)) → jGet L 1 = some (rv (p)) → jGet L 2 = some (rv b) → HC 0 m tg ln Fx → Fq 0 [(7, 11), (8, 15), (8, 16), (8, 17), (8, 18), (12, 2), (12, 4), (24, -5), (8, 13), (8, 14)] m tg F Fx → (b = 0 ∨ (own m b ∧ tg b = 8)) → (SN m tg F b (kk - 1)) → (PSx m tg Fx) → (RtS m tg Fx a0 cr) → wj X d jm237 (81, L, [], cV R m tg ln Fx) (fun o V_q => ∃ (F_q : Int → Int → Int), V_q = cV R m tg ln F_q ∧ o = .inl none ∧ HC 0 m tg ln F_q ∧ Fq 0 [(7, 11), (8, 15), (8, 16), (8, 17), (8, 18), (12, 2), (12, 4), (24, -5), (8, 13), (8, 14)] m tg F F_q ∧ (PSx m tg F_q) ∧ (RtS m tg F_q a0 cr) ∧ True) := by
  intro mm
  induction mm using Nat.strongRecOn with
  | ind mm ih =>
    intro L Fx b hmm gL_0 gL_1 gL_2 hCx hMx yx_b sx_b cx_PSx cx_RtS
    have k1 := SN_p n_p (own_z o_p)
    have hE2 := hE (by omega)
    refine jx_ld (pc_q := 82) (l_q := L) (st_q := [rv (b)]) rfl (jl_rvn gL_2) ?_
    refine cx_nul (pc_q := 85) (tg_q := 117) rfl rfl rfl (fun h3 => ?_) (fun h3 => ?_)
    · have _q := h3
      refine jx_rt (v := none) rfl rfl rfl rfl rfl rfl ?_
      exact ⟨Fx, rfl, rfl, hCx, hMx, PSx_m cx_PSx (by omega), RtS_m cx_RtS (by omega), trivial⟩
    · have _q := h3
      have ho4 : own m (b) ∧ tg (b) = 8 := yx_b.resolve_left h3
      have k5 := SN_p sx_b h3
      refine jx_ld (pc_q := 86) (l_q := L) (st_q := [rv (b)]) rfl (jl_rvn gL_2) ?_
      refine cx_gr (pc_q := 89) (c := 7) (q := 8) (v := F (b) (8 : Int)) rfl rfl (by decide) (by decide) rfl rfl ho4.1 ho4.2 (show Fx (b) (8 : Int) = F (b) (8 : Int) from hMx _ _ ho4.1 (own_z ho4.1) (by rw [ho4.2]; rfl)) ?_
      have y6 : F (b) (8 : Int) = 0 ∨ (own m (F (b) (8 : Int)) ∧ tg (F (b) (8 : Int)) = 8) := by have z := HC_r (c := 7) (q := 8) hCx ho4.1 ho4.2 (by decide) rfl; rw [show Fx (b) ((8 : Nat) : Int) = F (b) (8 : Int) from (show Fx (b) (8 : Int) = F (b) (8 : Int) from hMx _ _ ho4.1 (own_z ho4.1) (by rw [ho4.2]; rfl))] at z; exact z
      have z7 := mz_n hC c_NT sx_b (own_z ho4.1)
      refine jx_ld (pc_q := 90) (l_q := jSto1 L 3 (rv (F (b) (8 : Int)))) (st_q := []) rfl (js_rvn (by decide)) ?_
      obtain ⟨L8, eL8⟩ : ∃ q : jL, q = jSto1 L 3 (rv (F (b) (8 : Int))) := ⟨_, rfl⟩
      rw [← eL8]
      have g9 : jGet L8 0 = some (rv (me)) := eL8 ▸ jg_nr (by decide) gL_0
      have g10 : jGet L8 1 = some (rv (p)) := eL8 ▸ jg_nr (by decide) gL_1
      have g11 : jGet L8 2 = some (rv (b)) := eL8 ▸ jg_nr (by decide) gL_2
      have g12 : jGet L8 3 = some (rv (F (b) (8 : Int))) := eL8 ▸ jg_eq
      clear eL8
      have hin : ∀ (mm2 : Nat) (L2 : jL) (Fx2 : Int → Int → Int) (o : Int), (mz m o).toNat = mm2 → jGet L2 0 = some (rv (me)) → jGet L2 1 = some (rv (p)) → jGet L2 2 = some (rv (b)) → jGet L2 3 = some (rv o) → HC 0 m tg ln Fx2 → Fq 0 [(7, 11), (8, 15), (8, 16), (8, 17), (8, 18), (12, 2), (12, 4), (24, -5), (8, 13), (8, 14)] m tg F Fx2 → (o = 0 ∨ (own m o ∧ tg o = 8)) → (SN m tg F o (kk - 1)) → (PSx m tg Fx2) → (RtS m tg Fx2 a0 cr) → wj X d jm237 (90, L2, [], cV R m tg ln Fx2) (fun o V_q => ∃ (F_q : Int → Int → Int), V_q = cV R m tg ln F_q ∧ o = .inl none ∧ HC 0 m tg ln F_q ∧ Fq 0 [(7, 11), (8, 15), (8, 16), (8, 17), (8, 18), (12, 2), (12, 4), (24, -5), (8, 13), (8, 14)] m tg F F_q ∧ (PSx m tg F_q) ∧ (RtS m tg F_q a0 cr) ∧ True) := by
        intro mm2
        induction mm2 using Nat.strongRecOn with
        | ind mm2 ih2 =>
          intro L2 Fx2 o hmm2 gL2_0 gL2_1 gL2_2 gL2_3 hCx2 hMx2 yx2_o sx2_o cx2_PSx cx2_RtS
          refine jx_ld (pc_q := 91) (l_q := L2) (st_q := [rv (o)]) rfl (jl_rvn gL2_3) ?_
          refine cx_nul (pc_q := 94) (tg_q := 109) rfl rfl rfl (fun h13 => ?_) (fun h13 => ?_)
          · have _q := h13
            refine jx_ld (pc_q := 110) (l_q := L2) (st_q := [rv (b)]) rfl (jl_rvn gL2_2) ?_
            refine cx_gr (pc_q := 113) (c := 7) (q := 8) (v := F (b) (8 : Int)) rfl rfl (by decide) (by decide) rfl rfl ho4.1 ho4.2 (show Fx2 (b) (8 : Int) = F (b) (8 : Int) from hMx2 _ _ ho4.1 (own_z ho4.1) (by rw [ho4.2]; rfl)) ?_
            refine jx_ld (pc_q := 114) (l_q := jSto1 L2 2 (rv (F (b) (8 : Int)))) (st_q := []) rfl (js_rvn (by decide)) ?_
            obtain ⟨L14, eL14⟩ : ∃ q : jL, q = jSto1 L2 2 (rv (F (b) (8 : Int))) := ⟨_, rfl⟩
            rw [← eL14]
            have g15 : jGet L14 0 = some (rv (me)) := eL14 ▸ jg_nr (by decide) gL2_0
            have g16 : jGet L14 1 = some (rv (p)) := eL14 ▸ jg_nr (by decide) gL2_1
            have g17 : jGet L14 3 = some (rv (o)) := eL14 ▸ jg_nr (by decide) gL2_3
            have g18 : jGet L14 2 = some (rv (F (b) (8 : Int))) := eL14 ▸ jg_eq
            clear eL14
            refine jx_go (tg := 81) rfl rfl ?_
            exact ih _ (by omega) L14 Fx2 (F (b) (8 : Int)) rfl g15 g16 g18 hCx2 hMx2 y6 (SN_w (SN_n hC c_NT sx_b (own_z ho4.1)) (by omega)) (PSx_m cx2_PSx (by omega)) (RtS_m cx2_RtS (by omega))
          · have _q := h13
            have ho19 : own m (o) ∧ tg (o) = 8 := yx2_o.resolve_left h13
            have k20 := SN_p sx2_o h13
            refine jx_ld (pc_q := 95) (l_q := L2) (st_q := [rv (me)]) rfl (jl_rvn gL2_0) ?_
            refine jx_ld (pc_q := 96) (l_q := L2) (st_q := [rv (p), rv (me)]) rfl (jl_rvn gL2_1) ?_
            refine jx_ld (pc_q := 97) (l_q := L2) (st_q := [rv (b), rv (p), rv (me)]) rfl (jl_rvn gL2_2) ?_
            refine jx_ld (pc_q := 98) (l_q := L2) (st_q := [rv (o), rv (b), rv (p), rv (me)]) rfl (jl_rvn gL2_3) ?_
            refine cx_vi (c := 11) (a := me) (st := []) (as := [rv (p), rv (b), rv (o)]) rfl rfl rfl o_me t_me (by decide) rfl ⟨rfl, rfl, (Nat.le_of_ble_eq_true rfl)⟩ rfl (k_LUses_compare2 (dd := d) (R := R) (m := m) (tg := tg) (ln := ln) (F := Fx2) (me := me) (pr := p) (b := b) (o := o) (hd := by omega) (hC := hCx2) (o_me := o_me) (t_me := t_me) (o_pr := o_p) (t_pr := t_p) (o_b := ho4.1) (t_b := ho4.2) (o_o := ho19.1) (t_o := ho19.2) (c_PSx := cx2_PSx) (c_RtS := cx2_RtS)) (fun o V_q hq => ?_)
            obtain ⟨F21, rfl, rfl, hC22, hM23, c24, c25, -⟩ := hq
            have hM26 : Fq 0 [(7, 11), (8, 15), (8, 16), (8, 17), (8, 18), (12, 2), (12, 4), (24, -5), (8, 13), (8, 14)] m tg F F21 := Fq_t (ln := ln) (ln1 := ln) hMx2 Ex_r hM23 (by decide) (Or.inl rfl)
            refine Or.inl ⟨rfl, ?_⟩
            refine jx_ld (pc_q := 102) (l_q := L2) (st_q := [rv (o)]) rfl (jl_rvn gL2_3) ?_
            refine cx_gr (pc_q := 105) (c := 7) (q := 8) (v := F (o) (8 : Int)) rfl rfl (by decide) (by decide) rfl rfl ho19.1 ho19.2 ((show F21 (o) (8 : Int) = Fx2 (o) (8 : Int) from hM23 _ _ ho19.1 (own_z ho19.1) (by rw [ho19.2]; rfl)).trans (show Fx2 (o) (8 : Int) = F (o) (8 : Int) from hMx2 _ _ ho19.1 (own_z ho19.1) (by rw [ho19.2]; rfl))) ?_
            have y27 : F (o) (8 : Int) = 0 ∨ (own m (F (o) (8 : Int)) ∧ tg (F (o) (8 : Int)) = 8) := by have z := HC_r (c := 7) (q := 8) hC22 ho19.1 ho19.2 (by decide) rfl; rw [show F21 (o) ((8 : Nat) : Int) = F (o) (8 : Int) from ((show F21 (o) (8 : Int) = Fx2 (o) (8 : Int) from hM23 _ _ ho19.1 (own_z ho19.1) (by rw [ho19.2]; rfl)).trans (show Fx2 (o) (8 : Int) = F (o) (8 : Int) from hMx2 _ _ ho19.1 (own_z ho19.1) (by rw [ho19.2]; rfl)))] at z; exact z
            have z28 := mz_n hC c_NT sx2_o (own_z ho19.1)
            refine jx_ld (pc_q := 106) (l_q := jSto1 L2 3 (rv (F (o) (8 : Int)))) (st_q := []) rfl (js_rvn (by decide)) ?_
            obtain ⟨L29, eL29⟩ : ∃ q : jL, q = jSto1 L2 3 (rv (F (o) (8 : Int))) := ⟨_, rfl⟩
            rw [← eL29]
            have g30 : jGet L29 0 = some (rv (me)) := eL29 ▸ jg_nr (by decide) gL2_0
            have g31 : jGet L29 1 = some (rv (p)) := eL29 ▸ jg_nr (by decide) gL2_1
            have g32 : jGet L29 2 = some (rv (b)) := eL29 ▸ jg_nr (by decide) gL2_2
            have g33 : jGet L29 3 = some (rv (F (o) (8 : Int))) := eL29 ▸ jg_eq
            clear eL29
            refine jx_go (tg := 90) rfl rfl ?_
            exact ih2 _ (by omega) L29 F21 (F (o) (8 : Int)) rfl g30 g31 g32 g33 hC22 hM26 y27 (SN_w (SN_n hC c_NT sx2_o (own_z ho19.1)) (by omega)) (PSx_m c24 (by omega)) (RtS_m c25 (by omega))
      exact hin _ L8 Fx (F (b) (8 : Int)) rfl g9 g10 g11 g12 hCx hMx y6 (SN_w (SN_n hC c_NT sx_b (own_z ho4.1)) (by omega)) (PSx_m cx_PSx (by omega)) (RtS_m cx_RtS (by omega))
set_option maxRecDepth 20000 in
set_option maxHeartbeats 4000000 in
theorem k_LUses_branches2_at_5 {X : jX} {kk : Nat} (hE : 1 ≤ kk → UPy X (kk - 1)) {d : Nat} {R : Nat → jC} {m : Nat} {tg ln : Int → Int} {F : Int → Int → Int} {a0 cr : Int} {me p : Int} (hd : 3 * kk + 15 ≤ d + 1) (hC : HC 0 m tg ln F) (o_me : own m me) (t_me : tg me = 12) (o_p : own m p) (t_p : tg p = 8) (c_PSx : PSx m tg F) (c_RtS : RtS m tg F a0 cr) (c_NT : NT m tg F) (n_p : SN m tg F p (kk)) : ∀ (mm : Nat) (L : jL) (Fx : Int → Int → Int) (b : Int), (mz m b).toNat = mm → jGet L 0 = some (rv (me)) → jGet L 1 = some (rv (p)) → jGet L 2 = some (rv b) → HC 0 m tg ln Fx → Fq 0 [(7, 11), (8, 15), (8, 16), (8, 17), (8, 18), (12, 2), (12, 4), (24, -5), (8, 13), (8, 14)] m tg F Fx → (b = 0 ∨ (own m b ∧ tg b = 8)) → (SN m tg F b (kk - 1)) → (PSx m tg Fx) → (RtS m tg Fx a0 cr) → wj X d jm237 (5, L, [], cV R m tg ln Fx) (fun o V_q => ∃ (F_q : Int → Int → Int), V_q = cV R m tg ln F_q ∧ o = .inl none ∧ HC 0 m tg ln F_q ∧ Fq 0 [(7, 11), (8, 15), (8, 16), (8, 17), (8, 18), (12, 2), (12, 4), (24, -5), (8, 13), (8, 14)] m tg F F_q ∧ (PSx m tg F_q) ∧ (RtS m tg F_q a0 cr) ∧ True) := by
  intro mm
  induction mm using Nat.strongRecOn with
  | ind mm ih =>
    intro L Fx b hmm gL_0 gL_1 gL_2 hCx hMx yx_b sx_b cx_PSx cx_RtS
    have k34 := SN_p n_p (own_z o_p)
    have hE35 := hE (by omega)
    refine jx_ld (pc_q := 6) (l_q := L) (st_q := [rv (b)]) rfl (jl_rvn gL_2) ?_
    refine cx_nul (pc_q := 9) (tg_q := 38) rfl rfl rfl (fun h36 => ?_) (fun h36 => ?_)
    · have _q := h36
      refine jx_ld (pc_q := 39) (l_q := L) (st_q := [rv (p)]) rfl (jl_rvn gL_1) ?_
      refine cx_gi (pc_q := 42) (c := 7) (q := 0) (v := F (p) (0 : Int)) rfl rfl (by decide) (by decide) (Or.inl rfl) rfl o_p t_p (show Fx (p) (0 : Int) = F (p) (0 : Int) from hMx _ _ o_p (own_z o_p) (by rw [t_p]; rfl)) ?_
      have b37 : (-2147483648 : Int) ≤ F (p) (0 : Int) ∧ F (p) (0 : Int) ≤ 2147483647 := by have z := HC_i (c := 7) (q := 0) hCx o_p t_p (by decide) rfl; rw [show Fx (p) ((0 : Nat) : Int) = F (p) (0 : Int) from (show Fx (p) (0 : Int) = F (p) (0 : Int) from hMx _ _ o_p (own_z o_p) (by rw [t_p]; rfl))] at z; exact z
      refine jx_ar (pc_q := 44) (st_q := [.int (i32 (10)), .int (i32 (F (p) (0 : Int)))]) rfl rfl rfl rfl ?_
      refine jx_icmp_ne (pc_q := 47) (tg := 76) rfl rfl rfl (by omega) (by omega) (by decide) (by decide) (fun h38 => ?_) (fun h38 => ?_)
      · have _q := h38
        refine jx_ld (pc_q := 77) (l_q := L) (st_q := [rv (p)]) rfl (jl_rvn gL_1) ?_
        refine cx_gr (pc_q := 80) (c := 7) (q := 4) (v := F (p) (4 : Int)) rfl rfl (by decide) (by decide) rfl rfl o_p t_p (show Fx (p) (4 : Int) = F (p) (4 : Int) from hMx _ _ o_p (own_z o_p) (by rw [t_p]; rfl)) ?_
        have y39 : F (p) (4 : Int) = 0 ∨ (own m (F (p) (4 : Int)) ∧ tg (F (p) (4 : Int)) = 8) := by have z := HC_r (c := 7) (q := 4) hCx o_p t_p (by decide) rfl; rw [show Fx (p) ((4 : Nat) : Int) = F (p) (4 : Int) from (show Fx (p) (4 : Int) = F (p) (4 : Int) from hMx _ _ o_p (own_z o_p) (by rw [t_p]; rfl))] at z; exact z
        refine jx_ld (pc_q := 81) (l_q := jSto1 L 2 (rv (F (p) (4 : Int)))) (st_q := []) rfl (js_rvn (by decide)) ?_
        obtain ⟨L40, eL40⟩ : ∃ q : jL, q = jSto1 L 2 (rv (F (p) (4 : Int))) := ⟨_, rfl⟩
        rw [← eL40]
        have g41 : jGet L40 0 = some (rv (me)) := eL40 ▸ jg_nr (by decide) gL_0
        have g42 : jGet L40 1 = some (rv (p)) := eL40 ▸ jg_nr (by decide) gL_1
        have g43 : jGet L40 2 = some (rv (F (p) (4 : Int))) := eL40 ▸ jg_eq
        clear eL40
        exact k_LUses_branches2_at_81 (X := X) (kk := kk) (hE := hE) (d := d) (R := R) (m := m) (tg := tg) (ln := ln) (F := F) (a0 := a0) (cr := cr) (me := me) (p := p) (hd := hd) (hC := hC) (o_me := o_me) (t_me := t_me) (o_p := o_p) (t_p := t_p) (c_PSx := c_PSx) (c_RtS := c_RtS) (c_NT := c_NT) (n_p := n_p) _ L40 Fx (F (p) (4 : Int)) rfl g41 g42 g43 hCx hMx y39 (SN_w (SN_c hC c_NT n_p (own_z o_p) (by omega)) (by omega)) (PSx_m cx_PSx (by omega)) (RtS_m cx_RtS (by omega))
      · have _q := h38
        refine jx_ld (pc_q := 48) (l_q := L) (st_q := [rv (p)]) rfl (jl_rvn gL_1) ?_
        refine cx_gr (pc_q := 51) (c := 7) (q := 4) (v := F (p) (4 : Int)) rfl rfl (by decide) (by decide) rfl rfl o_p t_p (show Fx (p) (4 : Int) = F (p) (4 : Int) from hMx _ _ o_p (own_z o_p) (by rw [t_p]; rfl)) ?_
        have y44 : F (p) (4 : Int) = 0 ∨ (own m (F (p) (4 : Int)) ∧ tg (F (p) (4 : Int)) = 8) := by have z := HC_r (c := 7) (q := 4) hCx o_p t_p (by decide) rfl; rw [show Fx (p) ((4 : Nat) : Int) = F (p) (4 : Int) from (show Fx (p) (4 : Int) = F (p) (4 : Int) from hMx _ _ o_p (own_z o_p) (by rw [t_p]; rfl))] at z; exact z
        refine cx_nul (pc_q := 54) (tg_q := 75) rfl rfl rfl (fun h45 => ?_) (fun h45 => ?_)
        · have _q := h45
          refine jx_rt (v := none) rfl rfl rfl rfl rfl rfl ?_
          exact ⟨Fx, rfl, rfl, hCx, hMx, PSx_m cx_PSx (by omega), RtS_m cx_RtS (by omega), trivial⟩
        · have _q := h45
          have ho46 : own m (F (p) (4 : Int)) ∧ tg (F (p) (4 : Int)) = 8 := y44.resolve_left h45
          have k47 := SN_p (SN_c hC c_NT n_p (own_z o_p) (by omega)) h45
          refine jx_ld (pc_q := 55) (l_q := L) (st_q := [rv (p)]) rfl (jl_rvn gL_1) ?_
          refine cx_gi (pc_q := 58) (c := 7) (q := 2) (v := F (p) (2 : Int)) rfl rfl (by decide) (by decide) (Or.inl rfl) rfl o_p t_p (show Fx (p) (2 : Int) = F (p) (2 : Int) from hMx _ _ o_p (own_z o_p) (by rw [t_p]; rfl)) ?_
          have b48 : (-2147483648 : Int) ≤ F (p) (2 : Int) ∧ F (p) (2 : Int) ≤ 2147483647 := by have z := HC_i (c := 7) (q := 2) hCx o_p t_p (by decide) rfl; rw [show Fx (p) ((2 : Nat) : Int) = F (p) (2 : Int) from (show Fx (p) (2 : Int) = F (p) (2 : Int) from hMx _ _ o_p (own_z o_p) (by rw [t_p]; rfl))] at z; exact z
          refine jx_ar (pc_q := 59) (st_q := [.int (i32 (1)), .int (i32 (F (p) (2 : Int)))]) rfl rfl rfl rfl ?_
          refine jx_icmp_le (pc_q := 62) (tg := 75) rfl rfl rfl (by omega) (by omega) (by decide) (by decide) (fun h49 => ?_) (fun h49 => ?_)
          · have _q := h49
            refine jx_rt (v := none) rfl rfl rfl rfl rfl rfl ?_
            exact ⟨Fx, rfl, rfl, hCx, hMx, PSx_m cx_PSx (by omega), RtS_m cx_RtS (by omega), trivial⟩
          · have _q := h49
            refine jx_ld (pc_q := 63) (l_q := L) (st_q := [rv (me)]) rfl (jl_rvn gL_0) ?_
            refine jx_ld (pc_q := 64) (l_q := L) (st_q := [rv (p), rv (me)]) rfl (jl_rvn gL_1) ?_
            refine jx_ld (pc_q := 65) (l_q := L) (st_q := [rv (p), rv (p), rv (me)]) rfl (jl_rvn gL_1) ?_
            refine cx_gr (pc_q := 68) (c := 7) (q := 4) (v := F (p) (4 : Int)) rfl rfl (by decide) (by decide) rfl rfl o_p t_p (show Fx (p) (4 : Int) = F (p) (4 : Int) from hMx _ _ o_p (own_z o_p) (by rw [t_p]; rfl)) ?_
            refine jx_ld (pc_q := 69) (l_q := L) (st_q := [rv (p), rv (F (p) (4 : Int)), rv (p), rv (me)]) rfl (jl_rvn gL_1) ?_
            refine cx_gr (pc_q := 72) (c := 7) (q := 4) (v := F (p) (4 : Int)) rfl rfl (by decide) (by decide) rfl rfl o_p t_p (show Fx (p) (4 : Int) = F (p) (4 : Int) from hMx _ _ o_p (own_z o_p) (by rw [t_p]; rfl)) ?_
            refine cx_vi (c := 11) (a := me) (st := []) (as := [rv (p), rv (F (p) (4 : Int)), rv (F (p) (4 : Int))]) rfl rfl rfl o_me t_me (by decide) rfl ⟨rfl, rfl, (Nat.le_of_ble_eq_true rfl)⟩ rfl (k_LUses_compare2 (dd := d) (R := R) (m := m) (tg := tg) (ln := ln) (F := Fx) (me := me) (pr := p) (b := F (p) (4 : Int)) (o := F (p) (4 : Int)) (hd := by omega) (hC := hCx) (o_me := o_me) (t_me := t_me) (o_pr := o_p) (t_pr := t_p) (o_b := ho46.1) (t_b := ho46.2) (o_o := ho46.1) (t_o := ho46.2) (c_PSx := cx_PSx) (c_RtS := cx_RtS)) (fun o V_q hq => ?_)
            obtain ⟨F50, rfl, rfl, hC51, hM52, c53, c54, -⟩ := hq
            have hM55 : Fq 0 [(7, 11), (8, 15), (8, 16), (8, 17), (8, 18), (12, 2), (12, 4), (24, -5), (8, 13), (8, 14)] m tg F F50 := Fq_t (ln := ln) (ln1 := ln) hMx Ex_r hM52 (by decide) (Or.inl rfl)
            refine Or.inl ⟨rfl, ?_⟩
            refine jx_rt (v := none) rfl rfl rfl rfl rfl rfl ?_
            exact ⟨F50, rfl, rfl, hC51, hM55, PSx_m c53 (by omega), RtS_m c54 (by omega), trivial⟩
    · have _q := h36
      have ho56 : own m (b) ∧ tg (b) = 8 := yx_b.resolve_left h36
      have k57 := SN_p sx_b h36
      refine jx_ld (pc_q := 10) (l_q := L) (st_q := [rv (b)]) rfl (jl_rvn gL_2) ?_
      refine jx_ld (pc_q := 11) (l_q := L) (st_q := [rv (me), rv (b)]) rfl (jl_rvn gL_0) ?_
      refine cx_gi (pc_q := 14) (c := 11) (q := 2) (v := Fx (me) (2 : Int)) rfl rfl (by decide) (by decide) (Or.inl rfl) rfl o_me t_me rfl ?_
      have b58 : (0 : Int) ≤ Fx (me) (2 : Int) ∧ Fx (me) (2 : Int) ≤ 1000000 := by have z := HC_i (c := 11) (q := 2) hCx o_me t_me (by decide) rfl; rw [show Fx (me) ((2 : Nat) : Int) = Fx (me) (2 : Int) from rfl] at z; exact z
      refine cx_pi (pc_q := 17) (c := 7) (q := 13) (qi := (13 : Int)) (z := Fx (me) (2 : Int)) rfl rfl (by decide) (by decide) rfl rfl rfl (by decide) rfl ho56.1 ho56.2 rfl ?_
      obtain ⟨F59, eF59⟩ : ∃ q, q = uF Fx (b) (13 : Int) (Fx (me) (2 : Int)) := ⟨_, rfl⟩
      rw [← eF59]
      have hC60 : HC 0 m tg ln F59 := by rw [eF59]; exact HC_fi (c := 7) (q := 13) hCx ho56.2 (by decide) rfl (by omega) (by omega) ⟨fun w => absurd w (by decide), fun w => absurd w (by decide)⟩
      have hM61 : Fq 0 [(7, 11), (8, 15), (8, 16), (8, 17), (8, 18), (12, 2), (12, 4), (24, -5), (8, 13), (8, 14)] m tg F F59 := by rw [eF59]; exact Fq_p hMx ho56.2 (fun _ => rfl) rfl
      have c62 : PSx m tg F59 := by rw [eF59]; exact PSx_u cx_PSx ho56.2 (by omega)
      have c63 : RtS m tg F59 a0 cr := by rw [eF59]; exact RtS_u cx_RtS ho56.2 (by omega)
      refine jx_ld (pc_q := 18) (l_q := L) (st_q := [rv (me)]) rfl (jl_rvn gL_0) ?_
      refine jx_ld (pc_q := 19) (l_q := L) (st_q := [rv (b), rv (me)]) rfl (jl_rvn gL_2) ?_
      refine cx_vi (c := 11) (a := me) (st := []) (as := [rv (b)]) rfl rfl rfl o_me t_me (by decide) rfl ⟨rfl, rfl, (Nat.le_of_ble_eq_true rfl)⟩ rfl (hE35 (dd := d) (R := R) (m := m) (tg := tg) (ln := ln) (F := F59) (me := me) (p := b) (hd := by omega) (hC := hC60) (o_me := o_me) (t_me := t_me) (y_p := (Or.inr ⟨ho56.1, ho56.2⟩)) (c_PSx := c62) (c_RtS := c63) (c_NT := NT_q hC c_NT hM61 rfl) (n_p := (SN_q (SN_w (k_q := kk - 1) sx_b (by omega)) hM61 rfl rfl))) (fun o V_q hq => ?_)
      obtain ⟨F64, rfl, rfl, hC65, hM66, c67, c68, -⟩ := hq
      have hM69 : Fq 0 [(7, 11), (8, 15), (8, 16), (8, 17), (8, 18), (12, 2), (12, 4), (24, -5), (8, 13), (8, 14)] m tg F F64 := Fq_t (ln := ln) (ln1 := ln) hM61 Ex_r hM66 (by decide) (Or.inl rfl)
      refine Or.inl ⟨rfl, ?_⟩
      refine jx_ld (pc_q := 23) (l_q := L) (st_q := [rv (b)]) rfl (jl_rvn gL_2) ?_
      refine jx_ld (pc_q := 24) (l_q := L) (st_q := [rv (me), rv (b)]) rfl (jl_rvn gL_0) ?_
      refine cx_gi (pc_q := 27) (c := 11) (q := 2) (v := F64 (me) (2 : Int)) rfl rfl (by decide) (by decide) (Or.inl rfl) rfl o_me t_me rfl ?_
      have b70 : (0 : Int) ≤ F64 (me) (2 : Int) ∧ F64 (me) (2 : Int) ≤ 1000000 := by have z := HC_i (c := 11) (q := 2) hC65 o_me t_me (by decide) rfl; rw [show F64 (me) ((2 : Nat) : Int) = F64 (me) (2 : Int) from rfl] at z; exact z
      refine cx_pi (pc_q := 30) (c := 7) (q := 14) (qi := (14 : Int)) (z := F64 (me) (2 : Int)) rfl rfl (by decide) (by decide) rfl rfl rfl (by decide) rfl ho56.1 ho56.2 rfl ?_
      obtain ⟨F71, eF71⟩ : ∃ q, q = uF F64 (b) (14 : Int) (F64 (me) (2 : Int)) := ⟨_, rfl⟩
      rw [← eF71]
      have hC72 : HC 0 m tg ln F71 := by rw [eF71]; exact HC_fi (c := 7) (q := 14) hC65 ho56.2 (by decide) rfl (by omega) (by omega) ⟨fun w => absurd w (by decide), fun w => absurd w (by decide)⟩
      have hM73 : Fq 0 [(7, 11), (8, 15), (8, 16), (8, 17), (8, 18), (12, 2), (12, 4), (24, -5), (8, 13), (8, 14)] m tg F F71 := by rw [eF71]; exact Fq_p hM69 ho56.2 (fun _ => rfl) rfl
      have c74 : PSx m tg F71 := by rw [eF71]; exact PSx_u c67 ho56.2 (by omega)
      have c75 : RtS m tg F71 a0 cr := by rw [eF71]; exact RtS_u c68 ho56.2 (by omega)
      refine jx_ld (pc_q := 31) (l_q := L) (st_q := [rv (b)]) rfl (jl_rvn gL_2) ?_
      refine cx_gr (pc_q := 34) (c := 7) (q := 8) (v := F (b) (8 : Int)) rfl rfl (by decide) (by decide) rfl rfl ho56.1 ho56.2 ((show F71 (b) (8 : Int) = F64 (b) (8 : Int) from by rw [eF71]; exact uF_j (by decide)).trans ((show F64 (b) (8 : Int) = F59 (b) (8 : Int) from hM66 _ _ ho56.1 (own_z ho56.1) (by rw [ho56.2]; rfl)).trans ((show F59 (b) (8 : Int) = Fx (b) (8 : Int) from by rw [eF59]; exact uF_j (by decide)).trans (show Fx (b) (8 : Int) = F (b) (8 : Int) from hMx _ _ ho56.1 (own_z ho56.1) (by rw [ho56.2]; rfl))))) ?_
      have y76 : F (b) (8 : Int) = 0 ∨ (own m (F (b) (8 : Int)) ∧ tg (F (b) (8 : Int)) = 8) := by have z := HC_r (c := 7) (q := 8) hC72 ho56.1 ho56.2 (by decide) rfl; rw [show F71 (b) ((8 : Nat) : Int) = F (b) (8 : Int) from ((show F71 (b) (8 : Int) = F64 (b) (8 : Int) from by rw [eF71]; exact uF_j (by decide)).trans ((show F64 (b) (8 : Int) = F59 (b) (8 : Int) from hM66 _ _ ho56.1 (own_z ho56.1) (by rw [ho56.2]; rfl)).trans ((show F59 (b) (8 : Int) = Fx (b) (8 : Int) from by rw [eF59]; exact uF_j (by decide)).trans (show Fx (b) (8 : Int) = F (b) (8 : Int) from hMx _ _ ho56.1 (own_z ho56.1) (by rw [ho56.2]; rfl)))))] at z; exact z
      have z77 := mz_n hC c_NT sx_b (own_z ho56.1)
      refine jx_ld (pc_q := 35) (l_q := jSto1 L 2 (rv (F (b) (8 : Int)))) (st_q := []) rfl (js_rvn (by decide)) ?_
      obtain ⟨L78, eL78⟩ : ∃ q : jL, q = jSto1 L 2 (rv (F (b) (8 : Int))) := ⟨_, rfl⟩
      rw [← eL78]
      have g79 : jGet L78 0 = some (rv (me)) := eL78 ▸ jg_nr (by decide) gL_0
      have g80 : jGet L78 1 = some (rv (p)) := eL78 ▸ jg_nr (by decide) gL_1
      have g81 : jGet L78 2 = some (rv (F (b) (8 : Int))) := eL78 ▸ jg_eq
      clear eL78
      refine jx_go (tg := 5) rfl rfl ?_
      exact ih _ (by omega) L78 F71 (F (b) (8 : Int)) rfl g79 g80 g81 hC72 hM73 y76 (SN_w (SN_n hC c_NT sx_b (own_z ho56.1)) (by omega)) (PSx_m c74 (by omega)) (RtS_m c75 (by omega))
set_option maxRecDepth 20000 in
set_option maxHeartbeats 4000000 in
theorem k_LUses_branches2 {X : jX} {kk : Nat} (hE : 1 ≤ kk → UPy X (kk - 1)) {dd : Nat} {R : Nat → jC} {m : Nat} {tg ln : Int → Int} {F : Int → Int → Int} {a0 cr : Int} {me p : Int} (hd : 3 * kk + 15 ≤ dd) (hC : HC 0 m tg ln F) (o_me : own m me) (t_me : tg me = 12) (o_p : own m p) (t_p : tg p = 8) (c_PSx : PSx m tg F) (c_RtS : RtS m tg F a0 cr) (c_NT : NT m tg F) (n_p : SN m tg F p (kk)) : wk X dd 237 [rv me, rv p] (cV R m tg ln F) (fun o V_q => ∃ (F_q : Int → Int → Int), V_q = cV R m tg ln F_q ∧ o = .inl none ∧ HC 0 m tg ln F_q ∧ Fq 0 [(7, 11), (8, 15), (8, 16), (8, 17), (8, 18), (12, 2), (12, 4), (24, -5), (8, 13), (8, 14)] m tg F F_q ∧ (PSx m tg F_q) ∧ (RtS m tg F_q a0 cr) ∧ True) := by
  obtain ⟨d, rfl⟩ : ∃ d, dd = d + 1 := ⟨dd - 1, by omega⟩
  refine wk_of (e := jm237) rfl (by rw [jS_r, jS_r, jS_0]; exact Nat.le_of_ble_eq_true rfl) ?_
  rw [la_r, la_r, la_0]
  show wj X d jm237 (0, [(0, rv (me)), (1, rv (p))], [], cV R m tg ln F) _
  have hM0 : Fq 0 [(7, 11), (8, 15), (8, 16), (8, 17), (8, 18), (12, 2), (12, 4), (24, -5), (8, 13), (8, 14)] m tg F F := Fq_r
  obtain ⟨L0, eL0⟩ : ∃ q : jL, q = [(0, rv (me)), (1, rv (p))] := ⟨_, rfl⟩
  rw [← eL0]
  have g82 : jGet L0 0 = some (rv (me)) := eL0 ▸ (rfl : jGet [(0, rv (me)), (1, rv (p))] 0 = some (rv (me)))
  have g83 : jGet L0 1 = some (rv (p)) := eL0 ▸ (rfl : jGet [(0, rv (me)), (1, rv (p))] 1 = some (rv (p)))
  clear eL0
  have k84 := SN_p n_p (own_z o_p)
  have hE85 := hE (by omega)
  refine jx_ld (pc_q := 1) (l_q := L0) (st_q := [rv (p)]) rfl (jl_rvn g83) ?_
  refine cx_gr (pc_q := 4) (c := 7) (q := 4) (v := F (p) (4 : Int)) rfl rfl (by decide) (by decide) rfl rfl o_p t_p rfl ?_
  have y86 : F (p) (4 : Int) = 0 ∨ (own m (F (p) (4 : Int)) ∧ tg (F (p) (4 : Int)) = 8) := by have z := HC_r (c := 7) (q := 4) hC o_p t_p (by decide) rfl; rw [show F (p) ((4 : Nat) : Int) = F (p) (4 : Int) from rfl] at z; exact z
  refine jx_ld (pc_q := 5) (l_q := jSto1 L0 2 (rv (F (p) (4 : Int)))) (st_q := []) rfl (js_rvn (by decide)) ?_
  obtain ⟨L87, eL87⟩ : ∃ q : jL, q = jSto1 L0 2 (rv (F (p) (4 : Int))) := ⟨_, rfl⟩
  rw [← eL87]
  have g88 : jGet L87 0 = some (rv (me)) := eL87 ▸ jg_nr (by decide) g82
  have g89 : jGet L87 1 = some (rv (p)) := eL87 ▸ jg_nr (by decide) g83
  have g90 : jGet L87 2 = some (rv (F (p) (4 : Int))) := eL87 ▸ jg_eq
  clear eL87
  exact k_LUses_branches2_at_5 (X := X) (kk := kk) (hE := hE) (d := d) (R := R) (m := m) (tg := tg) (ln := ln) (F := F) (a0 := a0) (cr := cr) (me := me) (p := p) (hd := hd) (hC := hC) (o_me := o_me) (t_me := t_me) (o_p := o_p) (t_p := t_p) (c_PSx := c_PSx) (c_RtS := c_RtS) (c_NT := c_NT) (n_p := n_p) _ L87 F (F (p) (4 : Int)) rfl g88 g89 g90 hC hM0 y86 (SN_w (SN_c hC c_NT n_p (own_z o_p) (by omega)) (by omega)) (PSx_m c_PSx (by omega)) (RtS_m c_RtS (by omega))
set_option maxRecDepth 20000 in
set_option maxHeartbeats 4000000 in
theorem k_LUses_process2_at_163 {X : jX} {kk : Nat} (hE : 1 ≤ kk → UPy X (kk - 1)) {d : Nat} {R : Nat → jC} {m : Nat} {tg ln : Int → Int} {F : Int → Int → Int} {a0 cr : Int} {me p : Int} (hd : 3 * kk + 16 ≤ d + 1) (hC : HC 0 m tg ln F) (o_me : own m me) (t_me : tg me = 12) (y_p : p = 0 ∨ (own m p ∧ tg p = 8)) (c_PSx : PSx m tg F) (c_RtS : RtS m tg F a0 cr) (c_NT : NT m tg F) (n_p : SN m tg F p (kk)) : ∀ (mm : Nat) (L : jL) (Fx : Int → Int → Int) (ch : Int), (mz m ch).toNat = mm → jGet L 0 = some (rv (me)) → jGet L 1 = some (rv (p)) → jGet L 2 = some (rv ch) → HC 0 m tg ln Fx → Fq 0 [(7, 11), (8, 15), (8, 16), (8, 17), (8, 18), (12, 2), (12, 4), (24, -5), (8, 13), (8, 14)] m tg F Fx → (ch = 0 ∨ (own m ch ∧ tg ch = 8)) → (p ≠ 0) → (SN m tg F ch (kk - 1)) → (PSx m tg Fx) → (RtS m tg Fx a0 cr) → wj X d jm228 (163, L, [], cV R m tg ln Fx) (fun o V_q => ∃ (F_q : Int → Int → Int), V_q = cV R m tg ln F_q ∧ o = .inl none ∧ HC 0 m tg ln F_q ∧ Fq 0 [(7, 11), (8, 15), (8, 16), (8, 17), (8, 18), (12, 2), (12, 4), (24, -5), (8, 13), (8, 14)] m tg F F_q ∧ (PSx m tg F_q) ∧ (RtS m tg F_q a0 cr) ∧ True) := by
  intro mm
  induction mm using Nat.strongRecOn with
  | ind mm ih =>
    intro L Fx ch hmm gL_0 gL_1 gL_2 hCx hMx yx_ch iv_0 sx_ch cx_PSx cx_RtS
    refine jx_ld (pc_q := 164) (l_q := L) (st_q := [rv (ch)]) rfl (jl_rvn gL_2) ?_
    refine cx_nul (pc_q := 167) (tg_q := 180) rfl rfl rfl (fun h1 => ?_) (fun h1 => ?_)
    · have _q := h1
      refine jx_go (tg := 207) rfl rfl ?_
      refine jx_rt (v := none) rfl rfl rfl rfl rfl rfl ?_
      exact ⟨Fx, rfl, rfl, hCx, hMx, PSx_m cx_PSx (by omega), RtS_m cx_RtS (by omega), trivial⟩
    · have _q := h1
      have ho2 : own m (ch) ∧ tg (ch) = 8 := yx_ch.resolve_left h1
      have k3 := SN_p sx_ch h1
      have hE4 := hE (by omega)
      refine jx_ld (pc_q := 168) (l_q := L) (st_q := [rv (me)]) rfl (jl_rvn gL_0) ?_
      refine jx_ld (pc_q := 169) (l_q := L) (st_q := [rv (ch), rv (me)]) rfl (jl_rvn gL_2) ?_
      refine cx_vi (c := 11) (a := me) (st := []) (as := [rv (ch)]) rfl rfl rfl o_me t_me (by decide) rfl ⟨rfl, rfl, (Nat.le_of_ble_eq_true rfl)⟩ rfl (hE4 (dd := d) (R := R) (m := m) (tg := tg) (ln := ln) (F := Fx) (me := me) (p := ch) (hd := by omega) (hC := hCx) (o_me := o_me) (t_me := t_me) (y_p := (Or.inr ⟨ho2.1, ho2.2⟩)) (c_PSx := cx_PSx) (c_RtS := cx_RtS) (c_NT := NT_q hC c_NT hMx rfl) (n_p := (SN_q (SN_w (k_q := kk - 1) sx_ch (by omega)) hMx rfl rfl))) (fun o V_q hq => ?_)
      obtain ⟨F5, rfl, rfl, hC6, hM7, c8, c9, -⟩ := hq
      have hM10 : Fq 0 [(7, 11), (8, 15), (8, 16), (8, 17), (8, 18), (12, 2), (12, 4), (24, -5), (8, 13), (8, 14)] m tg F F5 := Fq_t (ln := ln) (ln1 := ln) hMx Ex_r hM7 (by decide) (Or.inl rfl)
      refine Or.inl ⟨rfl, ?_⟩
      refine jx_ld (pc_q := 173) (l_q := L) (st_q := [rv (ch)]) rfl (jl_rvn gL_2) ?_
      refine cx_gr (pc_q := 176) (c := 7) (q := 8) (v := F (ch) (8 : Int)) rfl rfl (by decide) (by decide) rfl rfl ho2.1 ho2.2 ((show F5 (ch) (8 : Int) = Fx (ch) (8 : Int) from hM7 _ _ ho2.1 (own_z ho2.1) (by rw [ho2.2]; rfl)).trans (show Fx (ch) (8 : Int) = F (ch) (8 : Int) from hMx _ _ ho2.1 (own_z ho2.1) (by rw [ho2.2]; rfl))) ?_
      have y11 : F (ch) (8 : Int) = 0 ∨ (own m (F (ch) (8 : Int)) ∧ tg (F (ch) (8 : Int)) = 8) := by have z := HC_r (c := 7) (q := 8) hC6 ho2.1 ho2.2 (by decide) rfl; rw [show F5 (ch) ((8 : Nat) : Int) = F (ch) (8 : Int) from ((show F5 (ch) (8 : Int) = Fx (ch) (8 : Int) from hM7 _ _ ho2.1 (own_z ho2.1) (by rw [ho2.2]; rfl)).trans (show Fx (ch) (8 : Int) = F (ch) (8 : Int) from hMx _ _ ho2.1 (own_z ho2.1) (by rw [ho2.2]; rfl)))] at z; exact z
      have z12 := mz_n hC c_NT sx_ch (own_z ho2.1)
      refine jx_ld (pc_q := 177) (l_q := jSto1 L 2 (rv (F (ch) (8 : Int)))) (st_q := []) rfl (js_rvn (by decide)) ?_
      obtain ⟨L13, eL13⟩ : ∃ q : jL, q = jSto1 L 2 (rv (F (ch) (8 : Int))) := ⟨_, rfl⟩
      rw [← eL13]
      have g14 : jGet L13 0 = some (rv (me)) := eL13 ▸ jg_nr (by decide) gL_0
      have g15 : jGet L13 1 = some (rv (p)) := eL13 ▸ jg_nr (by decide) gL_1
      have g16 : jGet L13 2 = some (rv (F (ch) (8 : Int))) := eL13 ▸ jg_eq
      clear eL13
      refine jx_go (tg := 163) rfl rfl ?_
      exact ih _ (by omega) L13 F5 (F (ch) (8 : Int)) rfl g14 g15 g16 hC6 hM10 y11 (by omega) (SN_w (SN_n hC c_NT sx_ch (own_z ho2.1)) (by omega)) (PSx_m c8 (by omega)) (RtS_m c9 (by omega))
set_option maxRecDepth 20000 in
set_option maxHeartbeats 4000000 in
theorem k_LUses_process2 {X : jX} {kk : Nat} (hE : 1 ≤ kk → UPy X (kk - 1)) {dd : Nat} {R : Nat → jC} {m : Nat} {tg ln : Int → Int} {F : Int → Int → Int} {a0 cr : Int} {me p : Int} (hd : 3 * kk + 16 ≤ dd) (hC : HC 0 m tg ln F) (o_me : own m me) (t_me : tg me = 12) (y_p : p = 0 ∨ (own m p ∧ tg p = 8)) (c_PSx : PSx m tg F) (c_RtS : RtS m tg F a0 cr) (c_NT : NT m tg F) (n_p : SN m tg F p (kk)) : wk X dd 228 [rv me, rv p] (cV R m tg ln F) (fun o V_q => ∃ (F_q : Int → Int → Int), V_q = cV R m tg ln F_q ∧ o = .inl none ∧ HC 0 m tg ln F_q ∧ Fq 0 [(7, 11), (8, 15), (8, 16), (8, 17), (8, 18), (12, 2), (12, 4), (24, -5), (8, 13), (8, 14)] m tg F F_q ∧ (PSx m tg F_q) ∧ (RtS m tg F_q a0 cr) ∧ True) := by
  obtain ⟨d, rfl⟩ : ∃ d, dd = d + 1 := ⟨dd - 1, by omega⟩
  refine wk_of (e := jm228) rfl (by rw [jS_r, jS_r, jS_0]; exact Nat.le_of_ble_eq_true rfl) ?_
  rw [la_r, la_r, la_0]
  show wj X d jm228 (0, [(0, rv (me)), (1, rv (p))], [], cV R m tg ln F) _
  have hM0 : Fq 0 [(7, 11), (8, 15), (8, 16), (8, 17), (8, 18), (12, 2), (12, 4), (24, -5), (8, 13), (8, 14)] m tg F F := Fq_r
  obtain ⟨L0, eL0⟩ : ∃ q : jL, q = [(0, rv (me)), (1, rv (p))] := ⟨_, rfl⟩
  rw [← eL0]
  have g17 : jGet L0 0 = some (rv (me)) := eL0 ▸ (rfl : jGet [(0, rv (me)), (1, rv (p))] 0 = some (rv (me)))
  have g18 : jGet L0 1 = some (rv (p)) := eL0 ▸ (rfl : jGet [(0, rv (me)), (1, rv (p))] 1 = some (rv (p)))
  clear eL0
  refine jx_ld (pc_q := 1) (l_q := L0) (st_q := [rv (p)]) rfl (jl_rvn g18) ?_
  refine cx_non (pc_q := 4) (tg_q := 5) rfl rfl rfl (fun h19 => ?_) (fun h19 => ?_)
  · have _q := h19
    have ho20 : own m (p) ∧ tg (p) = 8 := y_p.resolve_left h19
    have k21 := SN_p n_p h19
    have hE22 := hE (by omega)
    refine jx_ld (pc_q := 6) (l_q := L0) (st_q := [rv (p)]) rfl (jl_rvn g18) ?_
    refine cx_gi (pc_q := 9) (c := 7) (q := 0) (v := F (p) (0 : Int)) rfl rfl (by decide) (by decide) (Or.inl rfl) rfl ho20.1 ho20.2 rfl ?_
    have b23 : (-2147483648 : Int) ≤ F (p) (0 : Int) ∧ F (p) (0 : Int) ≤ 2147483647 := by have z := HC_i (c := 7) (q := 0) hC ho20.1 ho20.2 (by decide) rfl; rw [show F (p) ((0 : Nat) : Int) = F (p) (0 : Int) from rfl] at z; exact z
    by_cases h24 : F (p) (0 : Int) = 2
    · refine jx_swe (tg := 72) h24 rfl rfl rfl rfl ?_
      refine jx_ld (pc_q := 73) (l_q := L0) (st_q := [rv (me)]) rfl (jl_rvn g17) ?_
      refine jx_ld (pc_q := 74) (l_q := L0) (st_q := [rv (p), rv (me)]) rfl (jl_rvn g18) ?_
      refine cx_gr (pc_q := 77) (c := 7) (q := 5) (v := F (p) (5 : Int)) rfl rfl (by decide) (by decide) rfl rfl ho20.1 ho20.2 rfl ?_
      have y25 : F (p) (5 : Int) = 0 ∨ (own m (F (p) (5 : Int)) ∧ tg (F (p) (5 : Int)) = 8) := by have z := HC_r (c := 7) (q := 5) hC ho20.1 ho20.2 (by decide) rfl; rw [show F (p) ((5 : Nat) : Int) = F (p) (5 : Int) from rfl] at z; exact z
      refine cx_vi (c := 11) (a := me) (st := []) (as := [rv (F (p) (5 : Int))]) rfl rfl rfl o_me t_me (by decide) rfl ⟨rfl, rfl, (Nat.le_of_ble_eq_true rfl)⟩ rfl (URy_all X ((kk) - 1) (dd := d) (R := R) (m := m) (tg := tg) (ln := ln) (F := F) (me := me) (e := F (p) (5 : Int)) (hd := by omega) (hC := hC) (o_me := o_me) (t_me := t_me) (y_e := y25) (c_PSx := c_PSx) (c_RtS := c_RtS) (c_NT := c_NT) (n_e := (SN_w (SN_c hC c_NT n_p (own_z ho20.1) (by omega)) (by omega)))) (fun o V_q hq => ?_)
      obtain ⟨F26, rfl, rfl, hC27, hM28, c29, c30, -⟩ := hq
      have hM31 : Fq 0 [(7, 11), (8, 15), (8, 16), (8, 17), (8, 18), (12, 2), (12, 4), (24, -5), (8, 13), (8, 14)] m tg F F26 := Fq_t (ln := ln) (ln1 := ln) hM0 Ex_r hM28 (by decide) (Or.inl rfl)
      refine Or.inl ⟨rfl, ?_⟩
      refine jx_ld (pc_q := 81) (l_q := L0) (st_q := [rv (me)]) rfl (jl_rvn g17) ?_
      refine jx_ld (pc_q := 82) (l_q := L0) (st_q := [rv (p), rv (me)]) rfl (jl_rvn g18) ?_
      refine cx_gr (pc_q := 85) (c := 7) (q := 4) (v := F (p) (4 : Int)) rfl rfl (by decide) (by decide) rfl rfl ho20.1 ho20.2 (show F26 (p) (4 : Int) = F (p) (4 : Int) from hM28 _ _ ho20.1 (own_z ho20.1) (by rw [ho20.2]; rfl)) ?_
      have y32 : F (p) (4 : Int) = 0 ∨ (own m (F (p) (4 : Int)) ∧ tg (F (p) (4 : Int)) = 8) := by have z := HC_r (c := 7) (q := 4) hC27 ho20.1 ho20.2 (by decide) rfl; rw [show F26 (p) ((4 : Nat) : Int) = F (p) (4 : Int) from (show F26 (p) (4 : Int) = F (p) (4 : Int) from hM28 _ _ ho20.1 (own_z ho20.1) (by rw [ho20.2]; rfl))] at z; exact z
      refine jx_ar (pc_q := 86) (st_q := [.int (i32 (2)), rv (F (p) (4 : Int)), rv (me)]) rfl rfl rfl rfl ?_
      refine cx_vi (c := 11) (a := me) (st := []) (as := [rv (F (p) (4 : Int)), .int (i32 (2))]) rfl rfl rfl o_me t_me (by decide) rfl ⟨rfl, rfl, (Nat.le_of_ble_eq_true rfl)⟩ rfl (k_LUses_use2 (dd := d) (R := R) (m := m) (tg := tg) (ln := ln) (F := F26) (kk := (kk) - 1) (hE := fun _ => URy_all X _) (me := me) (p := F (p) (4 : Int)) (fl := 2) (hd := by omega) (hC := hC27) (o_me := o_me) (t_me := t_me) (y_p := y32) (h_fl := by omega) (c_PSx := c29) (c_RtS := c30) (c_NT := NT_q hC c_NT hM31 rfl) (n_p := (SN_q (SN_w (SN_c hC c_NT n_p (own_z ho20.1) (by omega)) (by omega)) hM31 rfl rfl))) (fun o V_q hq => ?_)
      obtain ⟨F33, rfl, rfl, hC34, hM35, c36, c37, -⟩ := hq
      have hM38 : Fq 0 [(7, 11), (8, 15), (8, 16), (8, 17), (8, 18), (12, 2), (12, 4), (24, -5), (8, 13), (8, 14)] m tg F F33 := Fq_t (ln := ln) (ln1 := ln) hM31 Ex_r hM35 (by decide) (Or.inl rfl)
      refine Or.inl ⟨rfl, ?_⟩
      refine jx_go (tg := 207) rfl rfl ?_
      refine jx_rt (v := none) rfl rfl rfl rfl rfl rfl ?_
      exact ⟨F33, rfl, rfl, hC34, hM38, PSx_m c36 (by omega), RtS_m c37 (by omega), trivial⟩
    by_cases h39 : F (p) (0 : Int) = 3
    · refine jx_swe (tg := 92) h39 rfl rfl rfl rfl ?_
      refine jx_ld (pc_q := 93) (l_q := L0) (st_q := [rv (me)]) rfl (jl_rvn g17) ?_
      refine jx_ld (pc_q := 94) (l_q := L0) (st_q := [rv (p), rv (me)]) rfl (jl_rvn g18) ?_
      refine cx_gr (pc_q := 97) (c := 7) (q := 5) (v := F (p) (5 : Int)) rfl rfl (by decide) (by decide) rfl rfl ho20.1 ho20.2 rfl ?_
      have y40 : F (p) (5 : Int) = 0 ∨ (own m (F (p) (5 : Int)) ∧ tg (F (p) (5 : Int)) = 8) := by have z := HC_r (c := 7) (q := 5) hC ho20.1 ho20.2 (by decide) rfl; rw [show F (p) ((5 : Nat) : Int) = F (p) (5 : Int) from rfl] at z; exact z
      refine cx_vi (c := 11) (a := me) (st := []) (as := [rv (F (p) (5 : Int))]) rfl rfl rfl o_me t_me (by decide) rfl ⟨rfl, rfl, (Nat.le_of_ble_eq_true rfl)⟩ rfl (URy_all X ((kk) - 1) (dd := d) (R := R) (m := m) (tg := tg) (ln := ln) (F := F) (me := me) (e := F (p) (5 : Int)) (hd := by omega) (hC := hC) (o_me := o_me) (t_me := t_me) (y_e := y40) (c_PSx := c_PSx) (c_RtS := c_RtS) (c_NT := c_NT) (n_e := (SN_w (SN_c hC c_NT n_p (own_z ho20.1) (by omega)) (by omega)))) (fun o V_q hq => ?_)
      obtain ⟨F41, rfl, rfl, hC42, hM43, c44, c45, -⟩ := hq
      have hM46 : Fq 0 [(7, 11), (8, 15), (8, 16), (8, 17), (8, 18), (12, 2), (12, 4), (24, -5), (8, 13), (8, 14)] m tg F F41 := Fq_t (ln := ln) (ln1 := ln) hM0 Ex_r hM43 (by decide) (Or.inl rfl)
      refine Or.inl ⟨rfl, ?_⟩
      refine jx_ld (pc_q := 101) (l_q := L0) (st_q := [rv (me)]) rfl (jl_rvn g17) ?_
      refine jx_ld (pc_q := 102) (l_q := L0) (st_q := [rv (p), rv (me)]) rfl (jl_rvn g18) ?_
      refine cx_gr (pc_q := 105) (c := 7) (q := 4) (v := F (p) (4 : Int)) rfl rfl (by decide) (by decide) rfl rfl ho20.1 ho20.2 (show F41 (p) (4 : Int) = F (p) (4 : Int) from hM43 _ _ ho20.1 (own_z ho20.1) (by rw [ho20.2]; rfl)) ?_
      have y47 : F (p) (4 : Int) = 0 ∨ (own m (F (p) (4 : Int)) ∧ tg (F (p) (4 : Int)) = 8) := by have z := HC_r (c := 7) (q := 4) hC42 ho20.1 ho20.2 (by decide) rfl; rw [show F41 (p) ((4 : Nat) : Int) = F (p) (4 : Int) from (show F41 (p) (4 : Int) = F (p) (4 : Int) from hM43 _ _ ho20.1 (own_z ho20.1) (by rw [ho20.2]; rfl))] at z; exact z
      refine jx_ar (pc_q := 106) (st_q := [.int (i32 (4)), rv (F (p) (4 : Int)), rv (me)]) rfl rfl rfl rfl ?_
      refine cx_vi (c := 11) (a := me) (st := []) (as := [rv (F (p) (4 : Int)), .int (i32 (4))]) rfl rfl rfl o_me t_me (by decide) rfl ⟨rfl, rfl, (Nat.le_of_ble_eq_true rfl)⟩ rfl (k_LUses_use2 (dd := d) (R := R) (m := m) (tg := tg) (ln := ln) (F := F41) (kk := (kk) - 1) (hE := fun _ => URy_all X _) (me := me) (p := F (p) (4 : Int)) (fl := 4) (hd := by omega) (hC := hC42) (o_me := o_me) (t_me := t_me) (y_p := y47) (h_fl := by omega) (c_PSx := c44) (c_RtS := c45) (c_NT := NT_q hC c_NT hM46 rfl) (n_p := (SN_q (SN_w (SN_c hC c_NT n_p (own_z ho20.1) (by omega)) (by omega)) hM46 rfl rfl))) (fun o V_q hq => ?_)
      obtain ⟨F48, rfl, rfl, hC49, hM50, c51, c52, -⟩ := hq
      have hM53 : Fq 0 [(7, 11), (8, 15), (8, 16), (8, 17), (8, 18), (12, 2), (12, 4), (24, -5), (8, 13), (8, 14)] m tg F F48 := Fq_t (ln := ln) (ln1 := ln) hM46 Ex_r hM50 (by decide) (Or.inl rfl)
      refine Or.inl ⟨rfl, ?_⟩
      refine jx_go (tg := 207) rfl rfl ?_
      refine jx_rt (v := none) rfl rfl rfl rfl rfl rfl ?_
      exact ⟨F48, rfl, rfl, hC49, hM53, PSx_m c51 (by omega), RtS_m c52 (by omega), trivial⟩
    by_cases h54 : F (p) (0 : Int) = 4
    · refine jx_swe (tg := 112) h54 rfl rfl rfl rfl ?_
      refine jx_ld (pc_q := 113) (l_q := L0) (st_q := [rv (me)]) rfl (jl_rvn g17) ?_
      refine jx_ld (pc_q := 114) (l_q := L0) (st_q := [rv (p), rv (me)]) rfl (jl_rvn g18) ?_
      refine cx_gr (pc_q := 117) (c := 7) (q := 4) (v := F (p) (4 : Int)) rfl rfl (by decide) (by decide) rfl rfl ho20.1 ho20.2 rfl ?_
      have y55 : F (p) (4 : Int) = 0 ∨ (own m (F (p) (4 : Int)) ∧ tg (F (p) (4 : Int)) = 8) := by have z := HC_r (c := 7) (q := 4) hC ho20.1 ho20.2 (by decide) rfl; rw [show F (p) ((4 : Nat) : Int) = F (p) (4 : Int) from rfl] at z; exact z
      refine jx_ar (pc_q := 119) (st_q := [.int (i32 (8)), rv (F (p) (4 : Int)), rv (me)]) rfl rfl rfl rfl ?_
      refine cx_vi (c := 11) (a := me) (st := []) (as := [rv (F (p) (4 : Int)), .int (i32 (8))]) rfl rfl rfl o_me t_me (by decide) rfl ⟨rfl, rfl, (Nat.le_of_ble_eq_true rfl)⟩ rfl (k_LUses_use2 (dd := d) (R := R) (m := m) (tg := tg) (ln := ln) (F := F) (kk := (kk) - 1) (hE := fun _ => URy_all X _) (me := me) (p := F (p) (4 : Int)) (fl := 8) (hd := by omega) (hC := hC) (o_me := o_me) (t_me := t_me) (y_p := y55) (h_fl := by omega) (c_PSx := c_PSx) (c_RtS := c_RtS) (c_NT := c_NT) (n_p := (SN_w (SN_c hC c_NT n_p (own_z ho20.1) (by omega)) (by omega)))) (fun o V_q hq => ?_)
      obtain ⟨F56, rfl, rfl, hC57, hM58, c59, c60, -⟩ := hq
      have hM61 : Fq 0 [(7, 11), (8, 15), (8, 16), (8, 17), (8, 18), (12, 2), (12, 4), (24, -5), (8, 13), (8, 14)] m tg F F56 := Fq_t (ln := ln) (ln1 := ln) hM0 Ex_r hM58 (by decide) (Or.inl rfl)
      refine Or.inl ⟨rfl, ?_⟩
      refine jx_ld (pc_q := 123) (l_q := L0) (st_q := [rv (me)]) rfl (jl_rvn g17) ?_
      refine jx_ld (pc_q := 124) (l_q := L0) (st_q := [rv (p), rv (me)]) rfl (jl_rvn g18) ?_
      refine cx_gr (pc_q := 127) (c := 7) (q := 5) (v := F (p) (5 : Int)) rfl rfl (by decide) (by decide) rfl rfl ho20.1 ho20.2 (show F56 (p) (5 : Int) = F (p) (5 : Int) from hM58 _ _ ho20.1 (own_z ho20.1) (by rw [ho20.2]; rfl)) ?_
      have y62 : F (p) (5 : Int) = 0 ∨ (own m (F (p) (5 : Int)) ∧ tg (F (p) (5 : Int)) = 8) := by have z := HC_r (c := 7) (q := 5) hC57 ho20.1 ho20.2 (by decide) rfl; rw [show F56 (p) ((5 : Nat) : Int) = F (p) (5 : Int) from (show F56 (p) (5 : Int) = F (p) (5 : Int) from hM58 _ _ ho20.1 (own_z ho20.1) (by rw [ho20.2]; rfl))] at z; exact z
      refine jx_ar (pc_q := 128) (st_q := [.int (i32 (2)), rv (F (p) (5 : Int)), rv (me)]) rfl rfl rfl rfl ?_
      refine cx_vi (c := 11) (a := me) (st := []) (as := [rv (F (p) (5 : Int)), .int (i32 (2))]) rfl rfl rfl o_me t_me (by decide) rfl ⟨rfl, rfl, (Nat.le_of_ble_eq_true rfl)⟩ rfl (k_LUses_use2 (dd := d) (R := R) (m := m) (tg := tg) (ln := ln) (F := F56) (kk := (kk) - 1) (hE := fun _ => URy_all X _) (me := me) (p := F (p) (5 : Int)) (fl := 2) (hd := by omega) (hC := hC57) (o_me := o_me) (t_me := t_me) (y_p := y62) (h_fl := by omega) (c_PSx := c59) (c_RtS := c60) (c_NT := NT_q hC c_NT hM61 rfl) (n_p := (SN_q (SN_w (SN_c hC c_NT n_p (own_z ho20.1) (by omega)) (by omega)) hM61 rfl rfl))) (fun o V_q hq => ?_)
      obtain ⟨F63, rfl, rfl, hC64, hM65, c66, c67, -⟩ := hq
      have hM68 : Fq 0 [(7, 11), (8, 15), (8, 16), (8, 17), (8, 18), (12, 2), (12, 4), (24, -5), (8, 13), (8, 14)] m tg F F63 := Fq_t (ln := ln) (ln1 := ln) hM61 Ex_r hM65 (by decide) (Or.inl rfl)
      refine Or.inl ⟨rfl, ?_⟩
      refine jx_go (tg := 207) rfl rfl ?_
      refine jx_rt (v := none) rfl rfl rfl rfl rfl rfl ?_
      exact ⟨F63, rfl, rfl, hC64, hM68, PSx_m c66 (by omega), RtS_m c67 (by omega), trivial⟩
    by_cases h69 : F (p) (0 : Int) = 5
    · refine jx_swe (tg := 134) h69 rfl rfl rfl rfl ?_
      refine jx_ld (pc_q := 135) (l_q := L0) (st_q := [rv (me)]) rfl (jl_rvn g17) ?_
      refine jx_ld (pc_q := 136) (l_q := L0) (st_q := [rv (p), rv (me)]) rfl (jl_rvn g18) ?_
      refine cx_vi (c := 11) (a := me) (st := []) (as := [rv (p)]) rfl rfl rfl o_me t_me (by decide) rfl ⟨rfl, rfl, (Nat.le_of_ble_eq_true rfl)⟩ rfl (k_LUses_arguments2 (dd := d) (R := R) (m := m) (tg := tg) (ln := ln) (F := F) (kk := kk) (me := me) (cl := p) (hd := by omega) (hC := hC) (o_me := o_me) (t_me := t_me) (o_cl := ho20.1) (t_cl := ho20.2) (p_0 := by omega) (c_PSx := c_PSx) (c_RtS := c_RtS) (c_NT := c_NT) (n_cl := (SN_w n_p (by omega)))) (fun o V_q hq => ?_)
      obtain ⟨F70, rfl, rfl, hC71, hM72, c73, c74, -⟩ := hq
      have hM75 : Fq 0 [(7, 11), (8, 15), (8, 16), (8, 17), (8, 18), (12, 2), (12, 4), (24, -5), (8, 13), (8, 14)] m tg F F70 := Fq_t (ln := ln) (ln1 := ln) hM0 Ex_r hM72 (by decide) (Or.inl rfl)
      refine Or.inl ⟨rfl, ?_⟩
      refine jx_go (tg := 207) rfl rfl ?_
      refine jx_rt (v := none) rfl rfl rfl rfl rfl rfl ?_
      exact ⟨F70, rfl, rfl, hC71, hM75, PSx_m c73 (by omega), RtS_m c74 (by omega), trivial⟩
    by_cases h76 : F (p) (0 : Int) = 6
    · refine jx_swe (tg := 158) h76 rfl rfl rfl rfl ?_
      refine jx_ld (pc_q := 159) (l_q := L0) (st_q := [rv (p)]) rfl (jl_rvn g18) ?_
      refine cx_gr (pc_q := 162) (c := 7) (q := 4) (v := F (p) (4 : Int)) rfl rfl (by decide) (by decide) rfl rfl ho20.1 ho20.2 rfl ?_
      have y77 : F (p) (4 : Int) = 0 ∨ (own m (F (p) (4 : Int)) ∧ tg (F (p) (4 : Int)) = 8) := by have z := HC_r (c := 7) (q := 4) hC ho20.1 ho20.2 (by decide) rfl; rw [show F (p) ((4 : Nat) : Int) = F (p) (4 : Int) from rfl] at z; exact z
      refine jx_ld (pc_q := 163) (l_q := jSto1 L0 2 (rv (F (p) (4 : Int)))) (st_q := []) rfl (js_rvn (by decide)) ?_
      obtain ⟨L78, eL78⟩ : ∃ q : jL, q = jSto1 L0 2 (rv (F (p) (4 : Int))) := ⟨_, rfl⟩
      rw [← eL78]
      have g79 : jGet L78 0 = some (rv (me)) := eL78 ▸ jg_nr (by decide) g17
      have g80 : jGet L78 1 = some (rv (p)) := eL78 ▸ jg_nr (by decide) g18
      have g81 : jGet L78 2 = some (rv (F (p) (4 : Int))) := eL78 ▸ jg_eq
      clear eL78
      exact k_LUses_process2_at_163 (X := X) (kk := kk) (hE := hE) (d := d) (R := R) (m := m) (tg := tg) (ln := ln) (F := F) (a0 := a0) (cr := cr) (me := me) (p := p) (hd := hd) (hC := hC) (o_me := o_me) (t_me := t_me) (y_p := y_p) (c_PSx := c_PSx) (c_RtS := c_RtS) (c_NT := c_NT) (n_p := n_p) _ L78 F (F (p) (4 : Int)) rfl g79 g80 g81 hC hM0 y77 (by omega) (SN_w (SN_c hC c_NT n_p (own_z ho20.1) (by omega)) (by omega)) (PSx_m c_PSx (by omega)) (RtS_m c_RtS (by omega))
    by_cases h82 : F (p) (0 : Int) = 7
    · refine jx_swe (tg := 183) h82 rfl rfl rfl rfl ?_
      refine jx_ld (pc_q := 184) (l_q := L0) (st_q := [rv (me)]) rfl (jl_rvn g17) ?_
      refine jx_ld (pc_q := 185) (l_q := L0) (st_q := [rv (p), rv (me)]) rfl (jl_rvn g18) ?_
      refine cx_gr (pc_q := 188) (c := 7) (q := 4) (v := F (p) (4 : Int)) rfl rfl (by decide) (by decide) rfl rfl ho20.1 ho20.2 rfl ?_
      have y83 : F (p) (4 : Int) = 0 ∨ (own m (F (p) (4 : Int)) ∧ tg (F (p) (4 : Int)) = 8) := by have z := HC_r (c := 7) (q := 4) hC ho20.1 ho20.2 (by decide) rfl; rw [show F (p) ((4 : Nat) : Int) = F (p) (4 : Int) from rfl] at z; exact z
      refine cx_vi (c := 11) (a := me) (st := []) (as := [rv (F (p) (4 : Int))]) rfl rfl rfl o_me t_me (by decide) rfl ⟨rfl, rfl, (Nat.le_of_ble_eq_true rfl)⟩ rfl (URy_all X ((kk) - 1) (dd := d) (R := R) (m := m) (tg := tg) (ln := ln) (F := F) (me := me) (e := F (p) (4 : Int)) (hd := by omega) (hC := hC) (o_me := o_me) (t_me := t_me) (y_e := y83) (c_PSx := c_PSx) (c_RtS := c_RtS) (c_NT := c_NT) (n_e := (SN_w (SN_c hC c_NT n_p (own_z ho20.1) (by omega)) (by omega)))) (fun o V_q hq => ?_)
      obtain ⟨F84, rfl, rfl, hC85, hM86, c87, c88, -⟩ := hq
      have hM89 : Fq 0 [(7, 11), (8, 15), (8, 16), (8, 17), (8, 18), (12, 2), (12, 4), (24, -5), (8, 13), (8, 14)] m tg F F84 := Fq_t (ln := ln) (ln1 := ln) hM0 Ex_r hM86 (by decide) (Or.inl rfl)
      refine Or.inl ⟨rfl, ?_⟩
      refine jx_ld (pc_q := 192) (l_q := L0) (st_q := [rv (me)]) rfl (jl_rvn g17) ?_
      refine jx_ld (pc_q := 193) (l_q := L0) (st_q := [rv (p), rv (me)]) rfl (jl_rvn g18) ?_
      refine cx_gr (pc_q := 196) (c := 7) (q := 5) (v := F (p) (5 : Int)) rfl rfl (by decide) (by decide) rfl rfl ho20.1 ho20.2 (show F84 (p) (5 : Int) = F (p) (5 : Int) from hM86 _ _ ho20.1 (own_z ho20.1) (by rw [ho20.2]; rfl)) ?_
      have y90 : F (p) (5 : Int) = 0 ∨ (own m (F (p) (5 : Int)) ∧ tg (F (p) (5 : Int)) = 8) := by have z := HC_r (c := 7) (q := 5) hC85 ho20.1 ho20.2 (by decide) rfl; rw [show F84 (p) ((5 : Nat) : Int) = F (p) (5 : Int) from (show F84 (p) (5 : Int) = F (p) (5 : Int) from hM86 _ _ ho20.1 (own_z ho20.1) (by rw [ho20.2]; rfl))] at z; exact z
      refine cx_vi (c := 11) (a := me) (st := []) (as := [rv (F (p) (5 : Int))]) rfl rfl rfl o_me t_me (by decide) rfl ⟨rfl, rfl, (Nat.le_of_ble_eq_true rfl)⟩ rfl (URy_all X ((kk) - 1) (dd := d) (R := R) (m := m) (tg := tg) (ln := ln) (F := F84) (me := me) (e := F (p) (5 : Int)) (hd := by omega) (hC := hC85) (o_me := o_me) (t_me := t_me) (y_e := y90) (c_PSx := c87) (c_RtS := c88) (c_NT := NT_q hC c_NT hM89 rfl) (n_e := (SN_q (SN_w (SN_c hC c_NT n_p (own_z ho20.1) (by omega)) (by omega)) hM89 rfl rfl))) (fun o V_q hq => ?_)
      obtain ⟨F91, rfl, rfl, hC92, hM93, c94, c95, -⟩ := hq
      have hM96 : Fq 0 [(7, 11), (8, 15), (8, 16), (8, 17), (8, 18), (12, 2), (12, 4), (24, -5), (8, 13), (8, 14)] m tg F F91 := Fq_t (ln := ln) (ln1 := ln) hM89 Ex_r hM93 (by decide) (Or.inl rfl)
      refine Or.inl ⟨rfl, ?_⟩
      refine jx_ld (pc_q := 200) (l_q := L0) (st_q := [rv (me)]) rfl (jl_rvn g17) ?_
      refine jx_ld (pc_q := 201) (l_q := L0) (st_q := [rv (p), rv (me)]) rfl (jl_rvn g18) ?_
      refine cx_gr (pc_q := 204) (c := 7) (q := 7) (v := F (p) (7 : Int)) rfl rfl (by decide) (by decide) rfl rfl ho20.1 ho20.2 ((show F91 (p) (7 : Int) = F84 (p) (7 : Int) from hM93 _ _ ho20.1 (own_z ho20.1) (by rw [ho20.2]; rfl)).trans (show F84 (p) (7 : Int) = F (p) (7 : Int) from hM86 _ _ ho20.1 (own_z ho20.1) (by rw [ho20.2]; rfl))) ?_
      have y97 : F (p) (7 : Int) = 0 ∨ (own m (F (p) (7 : Int)) ∧ tg (F (p) (7 : Int)) = 8) := by have z := HC_r (c := 7) (q := 7) hC92 ho20.1 ho20.2 (by decide) rfl; rw [show F91 (p) ((7 : Nat) : Int) = F (p) (7 : Int) from ((show F91 (p) (7 : Int) = F84 (p) (7 : Int) from hM93 _ _ ho20.1 (own_z ho20.1) (by rw [ho20.2]; rfl)).trans (show F84 (p) (7 : Int) = F (p) (7 : Int) from hM86 _ _ ho20.1 (own_z ho20.1) (by rw [ho20.2]; rfl)))] at z; exact z
      refine cx_vi (c := 11) (a := me) (st := []) (as := [rv (F (p) (7 : Int))]) rfl rfl rfl o_me t_me (by decide) rfl ⟨rfl, rfl, (Nat.le_of_ble_eq_true rfl)⟩ rfl (hE22 (dd := d) (R := R) (m := m) (tg := tg) (ln := ln) (F := F91) (me := me) (p := F (p) (7 : Int)) (hd := by omega) (hC := hC92) (o_me := o_me) (t_me := t_me) (y_p := y97) (c_PSx := c94) (c_RtS := c95) (c_NT := NT_q hC c_NT hM96 rfl) (n_p := (SN_q (SN_w (k_q := kk - 1) (SN_c hC c_NT n_p (own_z ho20.1) (by omega)) (by omega)) hM96 rfl rfl))) (fun o V_q hq => ?_)
      obtain ⟨F98, rfl, rfl, hC99, hM100, c101, c102, -⟩ := hq
      have hM103 : Fq 0 [(7, 11), (8, 15), (8, 16), (8, 17), (8, 18), (12, 2), (12, 4), (24, -5), (8, 13), (8, 14)] m tg F F98 := Fq_t (ln := ln) (ln1 := ln) hM96 Ex_r hM100 (by decide) (Or.inl rfl)
      refine Or.inl ⟨rfl, ?_⟩
      refine jx_rt (v := none) rfl rfl rfl rfl rfl rfl ?_
      exact ⟨F98, rfl, rfl, hC99, hM103, PSx_m c101 (by omega), RtS_m c102 (by omega), trivial⟩
    by_cases h104 : F (p) (0 : Int) = 8
    · refine jx_swe (tg := 142) h104 rfl rfl rfl rfl ?_
      refine jx_ld (pc_q := 143) (l_q := L0) (st_q := [rv (me)]) rfl (jl_rvn g17) ?_
      refine jx_ld (pc_q := 144) (l_q := L0) (st_q := [rv (p), rv (me)]) rfl (jl_rvn g18) ?_
      refine cx_vi (c := 11) (a := me) (st := []) (as := [rv (p)]) rfl rfl rfl o_me t_me (by decide) rfl ⟨rfl, rfl, (Nat.le_of_ble_eq_true rfl)⟩ rfl (k_LUses_branches2 (dd := d) (R := R) (m := m) (tg := tg) (ln := ln) (F := F) (kk := kk) (hE := hE) (me := me) (p := p) (hd := by omega) (hC := hC) (o_me := o_me) (t_me := t_me) (o_p := ho20.1) (t_p := ho20.2) (c_PSx := c_PSx) (c_RtS := c_RtS) (c_NT := c_NT) (n_p := (SN_w n_p (by omega)))) (fun o V_q hq => ?_)
      obtain ⟨F105, rfl, rfl, hC106, hM107, c108, c109, -⟩ := hq
      have hM110 : Fq 0 [(7, 11), (8, 15), (8, 16), (8, 17), (8, 18), (12, 2), (12, 4), (24, -5), (8, 13), (8, 14)] m tg F F105 := Fq_t (ln := ln) (ln1 := ln) hM0 Ex_r hM107 (by decide) (Or.inl rfl)
      refine Or.inl ⟨rfl, ?_⟩
      refine jx_go (tg := 207) rfl rfl ?_
      refine jx_rt (v := none) rfl rfl rfl rfl rfl rfl ?_
      exact ⟨F105, rfl, rfl, hC106, hM110, PSx_m c108 (by omega), RtS_m c109 (by omega), trivial⟩
    by_cases h111 : F (p) (0 : Int) = 9
    · refine jx_swe (tg := 142) h111 rfl rfl rfl rfl ?_
      refine jx_ld (pc_q := 143) (l_q := L0) (st_q := [rv (me)]) rfl (jl_rvn g17) ?_
      refine jx_ld (pc_q := 144) (l_q := L0) (st_q := [rv (p), rv (me)]) rfl (jl_rvn g18) ?_
      refine cx_vi (c := 11) (a := me) (st := []) (as := [rv (p)]) rfl rfl rfl o_me t_me (by decide) rfl ⟨rfl, rfl, (Nat.le_of_ble_eq_true rfl)⟩ rfl (k_LUses_branches2 (dd := d) (R := R) (m := m) (tg := tg) (ln := ln) (F := F) (kk := kk) (hE := hE) (me := me) (p := p) (hd := by omega) (hC := hC) (o_me := o_me) (t_me := t_me) (o_p := ho20.1) (t_p := ho20.2) (c_PSx := c_PSx) (c_RtS := c_RtS) (c_NT := c_NT) (n_p := (SN_w n_p (by omega)))) (fun o V_q hq => ?_)
      obtain ⟨F112, rfl, rfl, hC113, hM114, c115, c116, -⟩ := hq
      have hM117 : Fq 0 [(7, 11), (8, 15), (8, 16), (8, 17), (8, 18), (12, 2), (12, 4), (24, -5), (8, 13), (8, 14)] m tg F F112 := Fq_t (ln := ln) (ln1 := ln) hM0 Ex_r hM114 (by decide) (Or.inl rfl)
      refine Or.inl ⟨rfl, ?_⟩
      refine jx_go (tg := 207) rfl rfl ?_
      refine jx_rt (v := none) rfl rfl rfl rfl rfl rfl ?_
      exact ⟨F112, rfl, rfl, hC113, hM117, PSx_m c115 (by omega), RtS_m c116 (by omega), trivial⟩
    by_cases h118 : F (p) (0 : Int) = 10
    · refine jx_swe (tg := 142) h118 rfl rfl rfl rfl ?_
      refine jx_ld (pc_q := 143) (l_q := L0) (st_q := [rv (me)]) rfl (jl_rvn g17) ?_
      refine jx_ld (pc_q := 144) (l_q := L0) (st_q := [rv (p), rv (me)]) rfl (jl_rvn g18) ?_
      refine cx_vi (c := 11) (a := me) (st := []) (as := [rv (p)]) rfl rfl rfl o_me t_me (by decide) rfl ⟨rfl, rfl, (Nat.le_of_ble_eq_true rfl)⟩ rfl (k_LUses_branches2 (dd := d) (R := R) (m := m) (tg := tg) (ln := ln) (F := F) (kk := kk) (hE := hE) (me := me) (p := p) (hd := by omega) (hC := hC) (o_me := o_me) (t_me := t_me) (o_p := ho20.1) (t_p := ho20.2) (c_PSx := c_PSx) (c_RtS := c_RtS) (c_NT := c_NT) (n_p := (SN_w n_p (by omega)))) (fun o V_q hq => ?_)
      obtain ⟨F119, rfl, rfl, hC120, hM121, c122, c123, -⟩ := hq
      have hM124 : Fq 0 [(7, 11), (8, 15), (8, 16), (8, 17), (8, 18), (12, 2), (12, 4), (24, -5), (8, 13), (8, 14)] m tg F F119 := Fq_t (ln := ln) (ln1 := ln) hM0 Ex_r hM121 (by decide) (Or.inl rfl)
      refine Or.inl ⟨rfl, ?_⟩
      refine jx_go (tg := 207) rfl rfl ?_
      refine jx_rt (v := none) rfl rfl rfl rfl rfl rfl ?_
      exact ⟨F119, rfl, rfl, hC120, hM124, PSx_m c122 (by omega), RtS_m c123 (by omega), trivial⟩
    by_cases h125 : F (p) (0 : Int) = 11
    · refine jx_swe (tg := 150) h125 rfl rfl rfl rfl ?_
      refine jx_ld (pc_q := 151) (l_q := L0) (st_q := [rv (me)]) rfl (jl_rvn g17) ?_
      refine jx_ld (pc_q := 152) (l_q := L0) (st_q := [rv (p), rv (me)]) rfl (jl_rvn g18) ?_
      refine cx_vi (c := 11) (a := me) (st := []) (as := [rv (p)]) rfl rfl rfl o_me t_me (by decide) rfl ⟨rfl, rfl, (Nat.le_of_ble_eq_true rfl)⟩ rfl (k_LUses_choices2 (dd := d) (R := R) (m := m) (tg := tg) (ln := ln) (F := F) (kk := kk) (hE := hE) (me := me) (p := p) (hd := by omega) (hC := hC) (o_me := o_me) (t_me := t_me) (o_p := ho20.1) (t_p := ho20.2) (c_PSx := c_PSx) (c_RtS := c_RtS) (c_NT := c_NT) (n_p := (SN_w n_p (by omega)))) (fun o V_q hq => ?_)
      obtain ⟨F126, rfl, rfl, hC127, hM128, c129, c130, -⟩ := hq
      have hM131 : Fq 0 [(7, 11), (8, 15), (8, 16), (8, 17), (8, 18), (12, 2), (12, 4), (24, -5), (8, 13), (8, 14)] m tg F F126 := Fq_t (ln := ln) (ln1 := ln) hM0 Ex_r hM128 (by decide) (Or.inl rfl)
      refine Or.inl ⟨rfl, ?_⟩
      refine jx_go (tg := 207) rfl rfl ?_
      refine jx_rt (v := none) rfl rfl rfl rfl rfl rfl ?_
      exact ⟨F126, rfl, rfl, hC127, hM131, PSx_m c129 (by omega), RtS_m c130 (by omega), trivial⟩
    by_cases h132 : F (p) (0 : Int) = 12
    · refine jx_swe (tg := 183) h132 rfl rfl rfl rfl ?_
      refine jx_ld (pc_q := 184) (l_q := L0) (st_q := [rv (me)]) rfl (jl_rvn g17) ?_
      refine jx_ld (pc_q := 185) (l_q := L0) (st_q := [rv (p), rv (me)]) rfl (jl_rvn g18) ?_
      refine cx_gr (pc_q := 188) (c := 7) (q := 4) (v := F (p) (4 : Int)) rfl rfl (by decide) (by decide) rfl rfl ho20.1 ho20.2 rfl ?_
      have y133 : F (p) (4 : Int) = 0 ∨ (own m (F (p) (4 : Int)) ∧ tg (F (p) (4 : Int)) = 8) := by have z := HC_r (c := 7) (q := 4) hC ho20.1 ho20.2 (by decide) rfl; rw [show F (p) ((4 : Nat) : Int) = F (p) (4 : Int) from rfl] at z; exact z
      refine cx_vi (c := 11) (a := me) (st := []) (as := [rv (F (p) (4 : Int))]) rfl rfl rfl o_me t_me (by decide) rfl ⟨rfl, rfl, (Nat.le_of_ble_eq_true rfl)⟩ rfl (URy_all X ((kk) - 1) (dd := d) (R := R) (m := m) (tg := tg) (ln := ln) (F := F) (me := me) (e := F (p) (4 : Int)) (hd := by omega) (hC := hC) (o_me := o_me) (t_me := t_me) (y_e := y133) (c_PSx := c_PSx) (c_RtS := c_RtS) (c_NT := c_NT) (n_e := (SN_w (SN_c hC c_NT n_p (own_z ho20.1) (by omega)) (by omega)))) (fun o V_q hq => ?_)
      obtain ⟨F134, rfl, rfl, hC135, hM136, c137, c138, -⟩ := hq
      have hM139 : Fq 0 [(7, 11), (8, 15), (8, 16), (8, 17), (8, 18), (12, 2), (12, 4), (24, -5), (8, 13), (8, 14)] m tg F F134 := Fq_t (ln := ln) (ln1 := ln) hM0 Ex_r hM136 (by decide) (Or.inl rfl)
      refine Or.inl ⟨rfl, ?_⟩
      refine jx_ld (pc_q := 192) (l_q := L0) (st_q := [rv (me)]) rfl (jl_rvn g17) ?_
      refine jx_ld (pc_q := 193) (l_q := L0) (st_q := [rv (p), rv (me)]) rfl (jl_rvn g18) ?_
      refine cx_gr (pc_q := 196) (c := 7) (q := 5) (v := F (p) (5 : Int)) rfl rfl (by decide) (by decide) rfl rfl ho20.1 ho20.2 (show F134 (p) (5 : Int) = F (p) (5 : Int) from hM136 _ _ ho20.1 (own_z ho20.1) (by rw [ho20.2]; rfl)) ?_
      have y140 : F (p) (5 : Int) = 0 ∨ (own m (F (p) (5 : Int)) ∧ tg (F (p) (5 : Int)) = 8) := by have z := HC_r (c := 7) (q := 5) hC135 ho20.1 ho20.2 (by decide) rfl; rw [show F134 (p) ((5 : Nat) : Int) = F (p) (5 : Int) from (show F134 (p) (5 : Int) = F (p) (5 : Int) from hM136 _ _ ho20.1 (own_z ho20.1) (by rw [ho20.2]; rfl))] at z; exact z
      refine cx_vi (c := 11) (a := me) (st := []) (as := [rv (F (p) (5 : Int))]) rfl rfl rfl o_me t_me (by decide) rfl ⟨rfl, rfl, (Nat.le_of_ble_eq_true rfl)⟩ rfl (URy_all X ((kk) - 1) (dd := d) (R := R) (m := m) (tg := tg) (ln := ln) (F := F134) (me := me) (e := F (p) (5 : Int)) (hd := by omega) (hC := hC135) (o_me := o_me) (t_me := t_me) (y_e := y140) (c_PSx := c137) (c_RtS := c138) (c_NT := NT_q hC c_NT hM139 rfl) (n_e := (SN_q (SN_w (SN_c hC c_NT n_p (own_z ho20.1) (by omega)) (by omega)) hM139 rfl rfl))) (fun o V_q hq => ?_)
      obtain ⟨F141, rfl, rfl, hC142, hM143, c144, c145, -⟩ := hq
      have hM146 : Fq 0 [(7, 11), (8, 15), (8, 16), (8, 17), (8, 18), (12, 2), (12, 4), (24, -5), (8, 13), (8, 14)] m tg F F141 := Fq_t (ln := ln) (ln1 := ln) hM139 Ex_r hM143 (by decide) (Or.inl rfl)
      refine Or.inl ⟨rfl, ?_⟩
      refine jx_ld (pc_q := 200) (l_q := L0) (st_q := [rv (me)]) rfl (jl_rvn g17) ?_
      refine jx_ld (pc_q := 201) (l_q := L0) (st_q := [rv (p), rv (me)]) rfl (jl_rvn g18) ?_
      refine cx_gr (pc_q := 204) (c := 7) (q := 7) (v := F (p) (7 : Int)) rfl rfl (by decide) (by decide) rfl rfl ho20.1 ho20.2 ((show F141 (p) (7 : Int) = F134 (p) (7 : Int) from hM143 _ _ ho20.1 (own_z ho20.1) (by rw [ho20.2]; rfl)).trans (show F134 (p) (7 : Int) = F (p) (7 : Int) from hM136 _ _ ho20.1 (own_z ho20.1) (by rw [ho20.2]; rfl))) ?_
      have y147 : F (p) (7 : Int) = 0 ∨ (own m (F (p) (7 : Int)) ∧ tg (F (p) (7 : Int)) = 8) := by have z := HC_r (c := 7) (q := 7) hC142 ho20.1 ho20.2 (by decide) rfl; rw [show F141 (p) ((7 : Nat) : Int) = F (p) (7 : Int) from ((show F141 (p) (7 : Int) = F134 (p) (7 : Int) from hM143 _ _ ho20.1 (own_z ho20.1) (by rw [ho20.2]; rfl)).trans (show F134 (p) (7 : Int) = F (p) (7 : Int) from hM136 _ _ ho20.1 (own_z ho20.1) (by rw [ho20.2]; rfl)))] at z; exact z
      refine cx_vi (c := 11) (a := me) (st := []) (as := [rv (F (p) (7 : Int))]) rfl rfl rfl o_me t_me (by decide) rfl ⟨rfl, rfl, (Nat.le_of_ble_eq_true rfl)⟩ rfl (hE22 (dd := d) (R := R) (m := m) (tg := tg) (ln := ln) (F := F141) (me := me) (p := F (p) (7 : Int)) (hd := by omega) (hC := hC142) (o_me := o_me) (t_me := t_me) (y_p := y147) (c_PSx := c144) (c_RtS := c145) (c_NT := NT_q hC c_NT hM146 rfl) (n_p := (SN_q (SN_w (k_q := kk - 1) (SN_c hC c_NT n_p (own_z ho20.1) (by omega)) (by omega)) hM146 rfl rfl))) (fun o V_q hq => ?_)
      obtain ⟨F148, rfl, rfl, hC149, hM150, c151, c152, -⟩ := hq
      have hM153 : Fq 0 [(7, 11), (8, 15), (8, 16), (8, 17), (8, 18), (12, 2), (12, 4), (24, -5), (8, 13), (8, 14)] m tg F F148 := Fq_t (ln := ln) (ln1 := ln) hM146 Ex_r hM150 (by decide) (Or.inl rfl)
      refine Or.inl ⟨rfl, ?_⟩
      refine jx_rt (v := none) rfl rfl rfl rfl rfl rfl ?_
      exact ⟨F148, rfl, rfl, hC149, hM153, PSx_m c151 (by omega), RtS_m c152 (by omega), trivial⟩
    by_cases h154 : F (p) (0 : Int) = 13
    · refine jx_swe (tg := 150) h154 rfl rfl rfl rfl ?_
      refine jx_ld (pc_q := 151) (l_q := L0) (st_q := [rv (me)]) rfl (jl_rvn g17) ?_
      refine jx_ld (pc_q := 152) (l_q := L0) (st_q := [rv (p), rv (me)]) rfl (jl_rvn g18) ?_
      refine cx_vi (c := 11) (a := me) (st := []) (as := [rv (p)]) rfl rfl rfl o_me t_me (by decide) rfl ⟨rfl, rfl, (Nat.le_of_ble_eq_true rfl)⟩ rfl (k_LUses_choices2 (dd := d) (R := R) (m := m) (tg := tg) (ln := ln) (F := F) (kk := kk) (hE := hE) (me := me) (p := p) (hd := by omega) (hC := hC) (o_me := o_me) (t_me := t_me) (o_p := ho20.1) (t_p := ho20.2) (c_PSx := c_PSx) (c_RtS := c_RtS) (c_NT := c_NT) (n_p := (SN_w n_p (by omega)))) (fun o V_q hq => ?_)
      obtain ⟨F155, rfl, rfl, hC156, hM157, c158, c159, -⟩ := hq
      have hM160 : Fq 0 [(7, 11), (8, 15), (8, 16), (8, 17), (8, 18), (12, 2), (12, 4), (24, -5), (8, 13), (8, 14)] m tg F F155 := Fq_t (ln := ln) (ln1 := ln) hM0 Ex_r hM157 (by decide) (Or.inl rfl)
      refine Or.inl ⟨rfl, ?_⟩
      refine jx_go (tg := 207) rfl rfl ?_
      refine jx_rt (v := none) rfl rfl rfl rfl rfl rfl ?_
      exact ⟨F155, rfl, rfl, hC156, hM160, PSx_m c158 (by omega), RtS_m c159 (by omega), trivial⟩
    refine jx_swt (tg := 183) (by omega) (by omega) rfl (by omega) rfl ?_
    refine jx_ld (pc_q := 184) (l_q := L0) (st_q := [rv (me)]) rfl (jl_rvn g17) ?_
    refine jx_ld (pc_q := 185) (l_q := L0) (st_q := [rv (p), rv (me)]) rfl (jl_rvn g18) ?_
    refine cx_gr (pc_q := 188) (c := 7) (q := 4) (v := F (p) (4 : Int)) rfl rfl (by decide) (by decide) rfl rfl ho20.1 ho20.2 rfl ?_
    have y161 : F (p) (4 : Int) = 0 ∨ (own m (F (p) (4 : Int)) ∧ tg (F (p) (4 : Int)) = 8) := by have z := HC_r (c := 7) (q := 4) hC ho20.1 ho20.2 (by decide) rfl; rw [show F (p) ((4 : Nat) : Int) = F (p) (4 : Int) from rfl] at z; exact z
    refine cx_vi (c := 11) (a := me) (st := []) (as := [rv (F (p) (4 : Int))]) rfl rfl rfl o_me t_me (by decide) rfl ⟨rfl, rfl, (Nat.le_of_ble_eq_true rfl)⟩ rfl (URy_all X ((kk) - 1) (dd := d) (R := R) (m := m) (tg := tg) (ln := ln) (F := F) (me := me) (e := F (p) (4 : Int)) (hd := by omega) (hC := hC) (o_me := o_me) (t_me := t_me) (y_e := y161) (c_PSx := c_PSx) (c_RtS := c_RtS) (c_NT := c_NT) (n_e := (SN_w (SN_c hC c_NT n_p (own_z ho20.1) (by omega)) (by omega)))) (fun o V_q hq => ?_)
    obtain ⟨F162, rfl, rfl, hC163, hM164, c165, c166, -⟩ := hq
    have hM167 : Fq 0 [(7, 11), (8, 15), (8, 16), (8, 17), (8, 18), (12, 2), (12, 4), (24, -5), (8, 13), (8, 14)] m tg F F162 := Fq_t (ln := ln) (ln1 := ln) hM0 Ex_r hM164 (by decide) (Or.inl rfl)
    refine Or.inl ⟨rfl, ?_⟩
    refine jx_ld (pc_q := 192) (l_q := L0) (st_q := [rv (me)]) rfl (jl_rvn g17) ?_
    refine jx_ld (pc_q := 193) (l_q := L0) (st_q := [rv (p), rv (me)]) rfl (jl_rvn g18) ?_
    refine cx_gr (pc_q := 196) (c := 7) (q := 5) (v := F (p) (5 : Int)) rfl rfl (by decide) (by decide) rfl rfl ho20.1 ho20.2 (show F162 (p) (5 : Int) = F (p) (5 : Int) from hM164 _ _ ho20.1 (own_z ho20.1) (by rw [ho20.2]; rfl)) ?_
    have y168 : F (p) (5 : Int) = 0 ∨ (own m (F (p) (5 : Int)) ∧ tg (F (p) (5 : Int)) = 8) := by have z := HC_r (c := 7) (q := 5) hC163 ho20.1 ho20.2 (by decide) rfl; rw [show F162 (p) ((5 : Nat) : Int) = F (p) (5 : Int) from (show F162 (p) (5 : Int) = F (p) (5 : Int) from hM164 _ _ ho20.1 (own_z ho20.1) (by rw [ho20.2]; rfl))] at z; exact z
    refine cx_vi (c := 11) (a := me) (st := []) (as := [rv (F (p) (5 : Int))]) rfl rfl rfl o_me t_me (by decide) rfl ⟨rfl, rfl, (Nat.le_of_ble_eq_true rfl)⟩ rfl (URy_all X ((kk) - 1) (dd := d) (R := R) (m := m) (tg := tg) (ln := ln) (F := F162) (me := me) (e := F (p) (5 : Int)) (hd := by omega) (hC := hC163) (o_me := o_me) (t_me := t_me) (y_e := y168) (c_PSx := c165) (c_RtS := c166) (c_NT := NT_q hC c_NT hM167 rfl) (n_e := (SN_q (SN_w (SN_c hC c_NT n_p (own_z ho20.1) (by omega)) (by omega)) hM167 rfl rfl))) (fun o V_q hq => ?_)
    obtain ⟨F169, rfl, rfl, hC170, hM171, c172, c173, -⟩ := hq
    have hM174 : Fq 0 [(7, 11), (8, 15), (8, 16), (8, 17), (8, 18), (12, 2), (12, 4), (24, -5), (8, 13), (8, 14)] m tg F F169 := Fq_t (ln := ln) (ln1 := ln) hM167 Ex_r hM171 (by decide) (Or.inl rfl)
    refine Or.inl ⟨rfl, ?_⟩
    refine jx_ld (pc_q := 200) (l_q := L0) (st_q := [rv (me)]) rfl (jl_rvn g17) ?_
    refine jx_ld (pc_q := 201) (l_q := L0) (st_q := [rv (p), rv (me)]) rfl (jl_rvn g18) ?_
    refine cx_gr (pc_q := 204) (c := 7) (q := 7) (v := F (p) (7 : Int)) rfl rfl (by decide) (by decide) rfl rfl ho20.1 ho20.2 ((show F169 (p) (7 : Int) = F162 (p) (7 : Int) from hM171 _ _ ho20.1 (own_z ho20.1) (by rw [ho20.2]; rfl)).trans (show F162 (p) (7 : Int) = F (p) (7 : Int) from hM164 _ _ ho20.1 (own_z ho20.1) (by rw [ho20.2]; rfl))) ?_
    have y175 : F (p) (7 : Int) = 0 ∨ (own m (F (p) (7 : Int)) ∧ tg (F (p) (7 : Int)) = 8) := by have z := HC_r (c := 7) (q := 7) hC170 ho20.1 ho20.2 (by decide) rfl; rw [show F169 (p) ((7 : Nat) : Int) = F (p) (7 : Int) from ((show F169 (p) (7 : Int) = F162 (p) (7 : Int) from hM171 _ _ ho20.1 (own_z ho20.1) (by rw [ho20.2]; rfl)).trans (show F162 (p) (7 : Int) = F (p) (7 : Int) from hM164 _ _ ho20.1 (own_z ho20.1) (by rw [ho20.2]; rfl)))] at z; exact z
    refine cx_vi (c := 11) (a := me) (st := []) (as := [rv (F (p) (7 : Int))]) rfl rfl rfl o_me t_me (by decide) rfl ⟨rfl, rfl, (Nat.le_of_ble_eq_true rfl)⟩ rfl (hE22 (dd := d) (R := R) (m := m) (tg := tg) (ln := ln) (F := F169) (me := me) (p := F (p) (7 : Int)) (hd := by omega) (hC := hC170) (o_me := o_me) (t_me := t_me) (y_p := y175) (c_PSx := c172) (c_RtS := c173) (c_NT := NT_q hC c_NT hM174 rfl) (n_p := (SN_q (SN_w (k_q := kk - 1) (SN_c hC c_NT n_p (own_z ho20.1) (by omega)) (by omega)) hM174 rfl rfl))) (fun o V_q hq => ?_)
    obtain ⟨F176, rfl, rfl, hC177, hM178, c179, c180, -⟩ := hq
    have hM181 : Fq 0 [(7, 11), (8, 15), (8, 16), (8, 17), (8, 18), (12, 2), (12, 4), (24, -5), (8, 13), (8, 14)] m tg F F176 := Fq_t (ln := ln) (ln1 := ln) hM174 Ex_r hM178 (by decide) (Or.inl rfl)
    refine Or.inl ⟨rfl, ?_⟩
    refine jx_rt (v := none) rfl rfl rfl rfl rfl rfl ?_
    exact ⟨F176, rfl, rfl, hC177, hM181, PSx_m c179 (by omega), RtS_m c180 (by omega), trivial⟩
  · have _q := h19
    refine jx_rt (v := none) rfl rfl rfl rfl rfl rfl ?_
    exact ⟨F, rfl, rfl, hC, hM0, PSx_m c_PSx (by omega), RtS_m c_RtS (by omega), trivial⟩
theorem UPy_all (X : jX) : ∀ k, UPy X k
  | 0 => @k_LUses_process2 X 0 (fun h => absurd h (by decide))
  | k + 1 => @k_LUses_process2 X (k + 1) (fun _ => UPy_all X k)
set_option maxRecDepth 20000 in
set_option maxHeartbeats 4000000 in
theorem k_LUses_judge2_at_65 {X : jX} {d : Nat} {R : Nat → jC} {m : Nat} {tg ln : Int → Int} {F : Int → Int → Int} {a0 cr : Int} {me : Int} (hd : 200 ≤ d + 1) (hC : HC 0 m tg ln F) (o_me : own m me) (t_me : tg me = 12) (c_PSx : PSx m tg F) (c_RtS : RtS m tg F a0 cr) (c_NT : NT m tg F) : ∀ (mm : Nat) (L : jL) (Fx : Int → Int → Int) (p : Int), (6 - p).toNat = mm → jGet L 0 = some (rv (me)) → jGet L 1 = some (.int (i32 p)) → HC 0 m tg ln Fx → Fq 0 [(7, 11), (8, 13), (8, 14), (8, 15), (8, 16), (8, 17), (8, 18), (10, 0), (10, 1), (10, 2), (12, 2), (12, 3), (12, 4), (24, -5)] m tg F Fx → ((-2147483648 : Int) ≤ p ∧ p ≤ 2147483647) → (0 ≤ p) → (p ≤ 6) → (PSx m tg Fx) → (RtS m tg Fx a0 cr) → wj X d jm226 (65, L, [], cV R m tg ln Fx) (fun o V_q => ∃ (F_q : Int → Int → Int), V_q = cV R m tg ln F_q ∧ o = .inl none ∧ HC 0 m tg ln F_q ∧ Fq 0 [(7, 11), (8, 13), (8, 14), (8, 15), (8, 16), (8, 17), (8, 18), (10, 0), (10, 1), (10, 2), (12, 2), (12, 3), (12, 4), (24, -5)] m tg F F_q ∧ (PSx m tg F_q) ∧ (RtS m tg F_q a0 cr) ∧ True) := by
  intro mm
  induction mm using Nat.strongRecOn with
  | ind mm ih =>
    intro L Fx p hmm gL_0 gL_1 hCx hMx rx_p iv_0 iv_1 cx_PSx cx_RtS
    refine jx_ld (pc_q := 66) (l_q := L) (st_q := [.int (i32 (p))]) rfl (jl_iloadn gL_1) ?_
    refine jx_ar (pc_q := 68) (st_q := [.int (i32 (6)), .int (i32 (p))]) rfl rfl rfl rfl ?_
    refine jx_icmp_ge (pc_q := 71) (tg := 100) rfl rfl rfl (by omega) (by omega) (by decide) (by decide) (fun h1 => ?_) (fun h1 => ?_)
    · have _q := h1
      refine jx_ld (pc_q := 101) (l_q := L) (st_q := [rv (me)]) rfl (jl_rvn gL_0) ?_
      refine cx_gi (pc_q := 104) (c := 11) (q := 4) (v := Fx (me) (4 : Int)) rfl rfl (by decide) (by decide) (Or.inl rfl) rfl o_me t_me rfl ?_
      have b2 : (-2147483648 : Int) ≤ Fx (me) (4 : Int) ∧ Fx (me) (4 : Int) ≤ 2147483647 := by have z := HC_i (c := 11) (q := 4) hCx o_me t_me (by decide) rfl; rw [show Fx (me) ((4 : Nat) : Int) = Fx (me) (4 : Int) from rfl] at z; exact z
      refine jx_ar (pc_q := 105) (st_q := [.int (i32 (-1)), .int (i32 (Fx (me) (4 : Int)))]) rfl rfl rfl rfl ?_
      refine jx_icmp_eq (pc_q := 108) (tg := 121) rfl rfl rfl (by omega) (by omega) (by decide) (by decide) (fun h3 => ?_) (fun h3 => ?_)
      · have _q := h3
        refine jx_rt (v := none) rfl rfl rfl rfl rfl rfl ?_
        exact ⟨Fx, rfl, rfl, hCx, hMx, PSx_m cx_PSx (by omega), RtS_m cx_RtS (by omega), trivial⟩
      · have _q := h3
        refine jx_ld (pc_q := 109) (l_q := L) (st_q := [rv (me)]) rfl (jl_rvn gL_0) ?_
        refine cx_gr (pc_q := 112) (c := 11) (q := 0) (v := F (me) (0 : Int)) rfl rfl (by decide) (by decide) rfl rfl o_me t_me (show Fx (me) (0 : Int) = F (me) (0 : Int) from hMx _ _ o_me (own_z o_me) (by rw [t_me]; rfl)) ?_
        have y4 : own m (F (me) (0 : Int)) ∧ tg (F (me) (0 : Int)) = 10 ∧ ((0 : Int) ≠ 0 → ln (F (me) (0 : Int)) = 0) := by have z := HC_n (c := 11) (q := 0) hCx o_me t_me (own_z o_me) (by decide) rfl; rw [show Fx (me) ((0 : Nat) : Int) = F (me) (0 : Int) from (show Fx (me) (0 : Int) = F (me) (0 : Int) from hMx _ _ o_me (own_z o_me) (by rw [t_me]; rfl))] at z; exact ⟨z.1, z.2.1, z.2.2.1⟩
        refine jx_ar (pc_q := 113) (st_q := [.int (i32 (5)), rv (F (me) (0 : Int))]) rfl rfl rfl rfl ?_
        refine jx_ld (pc_q := 114) (l_q := L) (st_q := [rv (me), .int (i32 (5)), rv (F (me) (0 : Int))]) rfl (jl_rvn gL_0) ?_
        refine cx_gi (pc_q := 117) (c := 11) (q := 4) (v := Fx (me) (4 : Int)) rfl rfl (by decide) (by decide) (Or.inl rfl) rfl o_me t_me rfl ?_
        refine jx_ar (pc_q := 118) (st_q := [.int (i32 (-1)), .int (i32 (Fx (me) (4 : Int))), .int (i32 (5)), rv (F (me) (0 : Int))]) rfl rfl rfl rfl ?_
        refine cx_vi (c := 9) (a := F (me) (0 : Int)) (st := []) (as := [.int (i32 (5)), .int (i32 (Fx (me) (4 : Int))), .int (i32 (-1))]) rfl rfl rfl y4.1 y4.2.1 (by decide) rfl ⟨rfl, rfl, (Nat.le_of_ble_eq_true rfl)⟩ rfl (k_LProgram_blame (dd := d) (R := R) (m := m) (tg := tg) (ln := ln) (F := Fx) (me := F (me) (0 : Int)) (k := 5) (l := Fx (me) (4 : Int)) (p := -1) (hd := by omega) (hC := hCx) (o_me := y4.1) (t_me := y4.2.1) (h_k := by omega) (h_l := by omega) (h_p := by omega)) (fun o V_q hq => ?_)
        obtain ⟨F5, rfl, rfl, hC6, hM7, -⟩ := hq
        have hM8 : Fq 0 [(7, 11), (8, 13), (8, 14), (8, 15), (8, 16), (8, 17), (8, 18), (10, 0), (10, 1), (10, 2), (12, 2), (12, 3), (12, 4), (24, -5)] m tg F F5 := Fq_t (ln := ln) (ln1 := ln) hMx Ex_r hM7 (by decide) (Or.inl rfl)
        have c9 : PSx m tg F5 := PSx_q cx_PSx hM7 rfl
        have c10 : RtS m tg F5 a0 cr := RtS_q cx_RtS hM7 rfl
        refine Or.inl ⟨rfl, ?_⟩
        refine jx_rt (v := none) rfl rfl rfl rfl rfl rfl ?_
        exact ⟨F5, rfl, rfl, hC6, hM8, PSx_m c9 (by omega), RtS_m c10 (by omega), trivial⟩
    · have _q := h1
      refine jx_ld (pc_q := 72) (l_q := L) (st_q := [rv (me)]) rfl (jl_rvn gL_0) ?_
      refine jx_ld (pc_q := 73) (l_q := L) (st_q := [.int (i32 (p)), rv (me)]) rfl (jl_iloadn gL_1) ?_
      refine cx_pi (pc_q := 76) (c := 11) (q := 3) (qi := (3 : Int)) (z := p) rfl rfl (by decide) (by decide) rfl rfl rfl (by decide) rfl o_me t_me rfl ?_
      obtain ⟨F11, eF11⟩ : ∃ q, q = uF Fx (me) (3 : Int) (p) := ⟨_, rfl⟩
      rw [← eF11]
      have hC12 : HC 0 m tg ln F11 := by rw [eF11]; exact HC_fi (c := 11) (q := 3) hCx t_me (by decide) rfl (by omega) (by omega) ⟨fun w => absurd w (by decide), fun w => absurd w (by decide)⟩
      have hM13 : Fq 0 [(7, 11), (8, 13), (8, 14), (8, 15), (8, 16), (8, 17), (8, 18), (10, 0), (10, 1), (10, 2), (12, 2), (12, 3), (12, 4), (24, -5)] m tg F F11 := by rw [eF11]; exact Fq_p hMx t_me (fun _ => rfl) rfl
      have c14 : PSx m tg F11 := by rw [eF11]; exact PSx_u cx_PSx t_me (by omega)
      have c15 : RtS m tg F11 a0 cr := by rw [eF11]; exact RtS_u cx_RtS t_me (by omega)
      refine jx_ld (pc_q := 77) (l_q := L) (st_q := [rv (me)]) rfl (jl_rvn gL_0) ?_
      refine jx_ar (pc_q := 78) (st_q := [.int (i32 (0)), rv (me)]) rfl rfl rfl rfl ?_
      refine cx_pi (pc_q := 81) (c := 11) (q := 2) (qi := (2 : Int)) (z := 0) rfl rfl (by decide) (by decide) rfl rfl rfl (by decide) rfl o_me t_me rfl ?_
      obtain ⟨F16, eF16⟩ : ∃ q, q = uF F11 (me) (2 : Int) (0) := ⟨_, rfl⟩
      rw [← eF16]
      have hC17 : HC 0 m tg ln F16 := by rw [eF16]; exact HC_fi (c := 11) (q := 2) hC12 t_me (by decide) rfl (by omega) (by omega) ⟨fun w => absurd w (by decide), fun w => absurd w (by decide)⟩
      have hM18 : Fq 0 [(7, 11), (8, 13), (8, 14), (8, 15), (8, 16), (8, 17), (8, 18), (10, 0), (10, 1), (10, 2), (12, 2), (12, 3), (12, 4), (24, -5)] m tg F F16 := by rw [eF16]; exact Fq_p hM13 t_me (fun _ => rfl) rfl
      have c19 : PSx m tg F16 := by rw [eF16]; exact PSx_u c14 t_me (by omega)
      have c20 : RtS m tg F16 a0 cr := by rw [eF16]; exact RtS_u c15 t_me (by omega)
      refine jx_ld (pc_q := 82) (l_q := L) (st_q := [rv (me)]) rfl (jl_rvn gL_0) ?_
      refine jx_ld (pc_q := 83) (l_q := L) (st_q := [rv (me), rv (me)]) rfl (jl_rvn gL_0) ?_
      refine cx_gr (pc_q := 86) (c := 11) (q := 0) (v := F (me) (0 : Int)) rfl rfl (by decide) (by decide) rfl rfl o_me t_me ((show F16 (me) (0 : Int) = F11 (me) (0 : Int) from by rw [eF16]; exact uF_j (by decide)).trans ((show F11 (me) (0 : Int) = Fx (me) (0 : Int) from by rw [eF11]; exact uF_j (by decide)).trans (show Fx (me) (0 : Int) = F (me) (0 : Int) from hMx _ _ o_me (own_z o_me) (by rw [t_me]; rfl)))) ?_
      have y21 : own m (F (me) (0 : Int)) ∧ tg (F (me) (0 : Int)) = 10 ∧ ((0 : Int) ≠ 0 → ln (F (me) (0 : Int)) = 0) := by have z := HC_n (c := 11) (q := 0) hC17 o_me t_me (own_z o_me) (by decide) rfl; rw [show F16 (me) ((0 : Nat) : Int) = F (me) (0 : Int) from ((show F16 (me) (0 : Int) = F11 (me) (0 : Int) from by rw [eF16]; exact uF_j (by decide)).trans ((show F11 (me) (0 : Int) = Fx (me) (0 : Int) from by rw [eF11]; exact uF_j (by decide)).trans (show Fx (me) (0 : Int) = F (me) (0 : Int) from hMx _ _ o_me (own_z o_me) (by rw [t_me]; rfl))))] at z; exact ⟨z.1, z.2.1, z.2.2.1⟩
      refine cx_gr (pc_q := 89) (c := 9) (q := 3) (v := F (F (me) (0 : Int)) (3 : Int)) rfl rfl (by decide) (by decide) rfl rfl y21.1 y21.2.1 ((show F16 (F (me) (0 : Int)) (3 : Int) = F11 (F (me) (0 : Int)) (3 : Int) from by rw [eF16]; exact uF_j (by decide)).trans ((show F11 (F (me) (0 : Int)) (3 : Int) = Fx (F (me) (0 : Int)) (3 : Int) from by rw [eF11]; exact uF_a (fun w => by have q1 := y21.2.1; have q2 := t_me; rw [w, q2] at q1; exact absurd q1 (by decide))).trans (show Fx (F (me) (0 : Int)) (3 : Int) = F (F (me) (0 : Int)) (3 : Int) from hMx _ _ y21.1 (own_z y21.1) (by rw [y21.2.1]; rfl)))) ?_
      have y22 : own m (F (F (me) (0 : Int)) (3 : Int)) ∧ tg (F (F (me) (0 : Int)) (3 : Int)) = 24 ∧ ((6 : Int) ≠ 0 → ln (F (F (me) (0 : Int)) (3 : Int)) = 6) := by have z := HC_n (c := 9) (q := 3) hC17 y21.1 y21.2.1 (own_z y21.1) (by decide) rfl; rw [show F16 (F (me) (0 : Int)) ((3 : Nat) : Int) = F (F (me) (0 : Int)) (3 : Int) from ((show F16 (F (me) (0 : Int)) (3 : Int) = F11 (F (me) (0 : Int)) (3 : Int) from by rw [eF16]; exact uF_j (by decide)).trans ((show F11 (F (me) (0 : Int)) (3 : Int) = Fx (F (me) (0 : Int)) (3 : Int) from by rw [eF11]; exact uF_a (fun w => by have q1 := y21.2.1; have q2 := t_me; rw [w, q2] at q1; exact absurd q1 (by decide))).trans (show Fx (F (me) (0 : Int)) (3 : Int) = F (F (me) (0 : Int)) (3 : Int) from hMx _ _ y21.1 (own_z y21.1) (by rw [y21.2.1]; rfl))))] at z; exact ⟨z.1, z.2.1, z.2.2.1⟩
      have ly22 : ln (F (F (me) (0 : Int)) (3 : Int)) = 6 := y22.2.2 (by decide)
      refine jx_ld (pc_q := 90) (l_q := L) (st_q := [.int (i32 (p)), rv (F (F (me) (0 : Int)) (3 : Int)), rv (me)]) rfl (jl_iloadn gL_1) ?_
      have b23 := HC_l hC17 y22.1 y22.2.1 (by decide)
      refine cx_aal (pc_q := 91) (z := p) rfl rfl y22.1 (by rw [y22.2.1]; decide) (by omega) (by omega) (by omega) ?_
      rw [show F16 (F (F (me) (0 : Int)) (3 : Int)) (p) = Fx (F (F (me) (0 : Int)) (3 : Int)) (p) from ((show F16 (F (F (me) (0 : Int)) (3 : Int)) (p) = F11 (F (F (me) (0 : Int)) (3 : Int)) (p) from by rw [eF16]; exact uF_a (fun w => by have q1 := y22.2.1; have q2 := t_me; rw [w, q2] at q1; exact absurd q1 (by decide))).trans (show F11 (F (F (me) (0 : Int)) (3 : Int)) (p) = Fx (F (F (me) (0 : Int)) (3 : Int)) (p) from by rw [eF11]; exact uF_a (fun w => by have q1 := y22.2.1; have q2 := t_me; rw [w, q2] at q1; exact absurd q1 (by decide))))]
      have y24 : Fx (F (F (me) (0 : Int)) (3 : Int)) (p) = 0 ∨ (own m (Fx (F (F (me) (0 : Int)) (3 : Int)) (p)) ∧ tg (Fx (F (F (me) (0 : Int)) (3 : Int)) (p)) = 8) := by have z := HC_er (j := p) hC17 y22.1 y22.2.1 (by decide) (by omega); rw [show F16 (F (F (me) (0 : Int)) (3 : Int)) (p) = Fx (F (F (me) (0 : Int)) (3 : Int)) (p) from ((show F16 (F (F (me) (0 : Int)) (3 : Int)) (p) = F11 (F (F (me) (0 : Int)) (3 : Int)) (p) from by rw [eF16]; exact uF_a (fun w => by have q1 := y22.2.1; have q2 := t_me; rw [w, q2] at q1; exact absurd q1 (by decide))).trans (show F11 (F (F (me) (0 : Int)) (3 : Int)) (p) = Fx (F (F (me) (0 : Int)) (3 : Int)) (p) from by rw [eF11]; exact uF_a (fun w => by have q1 := y22.2.1; have q2 := t_me; rw [w, q2] at q1; exact absurd q1 (by decide))))] at z; exact z
      refine cx_vi (c := 11) (a := me) (st := []) (as := [rv (Fx (F (F (me) (0 : Int)) (3 : Int)) (p))]) rfl rfl rfl o_me t_me (by decide) rfl ⟨rfl, rfl, (Nat.le_of_ble_eq_true rfl)⟩ rfl (UPy_all X (60) (dd := d) (R := R) (m := m) (tg := tg) (ln := ln) (F := F16) (me := me) (p := Fx (F (F (me) (0 : Int)) (3 : Int)) (p)) (hd := by omega) (hC := hC17) (o_me := o_me) (t_me := t_me) (y_p := y24) (c_PSx := c19) (c_RtS := c20) (c_NT := NT_q hC c_NT hM18 rfl) (n_p := (by have z := c19.1.1 _ y22.1 y22.2.1 (show F16 (F (F (me) (0 : Int)) (3 : Int)) (-1) = 0 by have z := HC_n (c := 9) (q := 3) hC17 y21.1 y21.2.1 (own_z y21.1) (by decide) rfl; rw [show F16 (F (me) (0 : Int)) ((3 : Nat) : Int) = F (F (me) (0 : Int)) (3 : Int) from ((show F16 (F (me) (0 : Int)) (3 : Int) = F11 (F (me) (0 : Int)) (3 : Int) from by rw [eF16]; exact uF_j (by decide)).trans ((show F11 (F (me) (0 : Int)) (3 : Int) = Fx (F (me) (0 : Int)) (3 : Int) from by rw [eF11]; exact uF_a (fun w => by have q1 := y21.2.1; have q2 := t_me; rw [w, q2] at q1; exact absurd q1 (by decide))).trans (show Fx (F (me) (0 : Int)) (3 : Int) = F (F (me) (0 : Int)) (3 : Int) from hMx _ _ y21.1 (own_z y21.1) (by rw [y21.2.1]; rfl))))] at z; exact z.2.2.2 (by decide)) (p) (by omega); rw [show F16 (F (F (me) (0 : Int)) (3 : Int)) (p) = Fx (F (F (me) (0 : Int)) (3 : Int)) (p) from ((show F16 (F (F (me) (0 : Int)) (3 : Int)) (p) = F11 (F (F (me) (0 : Int)) (3 : Int)) (p) from by rw [eF16]; exact uF_a (fun w => by have q1 := y22.2.1; have q2 := t_me; rw [w, q2] at q1; exact absurd q1 (by decide))).trans (show F11 (F (F (me) (0 : Int)) (3 : Int)) (p) = Fx (F (F (me) (0 : Int)) (3 : Int)) (p) from by rw [eF11]; exact uF_a (fun w => by have q1 := y22.2.1; have q2 := t_me; rw [w, q2] at q1; exact absurd q1 (by decide))))] at z; exact z))) (fun o V_q hq => ?_)
      obtain ⟨F25, rfl, rfl, hC26, hM27, c28, c29, -⟩ := hq
      have hM30 : Fq 0 [(7, 11), (8, 13), (8, 14), (8, 15), (8, 16), (8, 17), (8, 18), (10, 0), (10, 1), (10, 2), (12, 2), (12, 3), (12, 4), (24, -5)] m tg F F25 := Fq_t (ln := ln) (ln1 := ln) hM18 Ex_r hM27 (by decide) (Or.inl rfl)
      refine Or.inl ⟨rfl, ?_⟩
      refine jx_inc (pc_q := 97) (l_q := jSto1 L 1 (.int (i32 (p + (1))))) (x := p) rfl gL_1 (by decide) rfl rfl ?_
      obtain ⟨L31, eL31⟩ : ∃ q : jL, q = jSto1 L 1 (.int (i32 ((p + (1))))) := ⟨_, rfl⟩
      rw [← eL31]
      have g32 : jGet L31 0 = some (rv (me)) := eL31 ▸ jg_nr (by decide) gL_0
      have g33 : jGet L31 1 = some (.int (i32 ((p + (1))))) := eL31 ▸ jg_eq
      clear eL31
      refine jx_go (tg := 65) rfl rfl ?_
      exact ih _ (by omega) L31 F25 ((p + (1))) rfl g32 g33 hC26 hM30 (by omega) (by omega) (by omega) (PSx_m c28 (by omega)) (RtS_m c29 (by omega))
set_option maxRecDepth 20000 in
set_option maxHeartbeats 4000000 in
theorem k_LUses_judge2_at_7 {X : jX} {d : Nat} {R : Nat → jC} {m : Nat} {tg ln : Int → Int} {F : Int → Int → Int} {a0 cr : Int} {me : Int} (hd : 200 ≤ d + 1) (hC : HC 0 m tg ln F) (o_me : own m me) (t_me : tg me = 12) (c_PSx : PSx m tg F) (c_RtS : RtS m tg F a0 cr) (c_NT : NT m tg F) : ∀ (mm : Nat) (L : jL) (Fx : Int → Int → Int) (k : Int), (24 - k).toNat = mm → jGet L 0 = some (rv (me)) → jGet L 1 = some (.int (i32 k)) → HC 0 m tg ln Fx → Fq 0 [(7, 11), (8, 13), (8, 14), (8, 15), (8, 16), (8, 17), (8, 18), (10, 0), (10, 1), (10, 2), (12, 2), (12, 3), (12, 4), (24, -5)] m tg F Fx → ((-2147483648 : Int) ≤ k ∧ k ≤ 2147483647) → (0 ≤ k) → (PSx m tg Fx) → (RtS m tg Fx a0 cr) → wj X d jm226 (7, L, [], cV R m tg ln Fx) (fun o V_q => ∃ (F_q : Int → Int → Int), V_q = cV R m tg ln F_q ∧ o = .inl none ∧ HC 0 m tg ln F_q ∧ Fq 0 [(7, 11), (8, 13), (8, 14), (8, 15), (8, 16), (8, 17), (8, 18), (10, 0), (10, 1), (10, 2), (12, 2), (12, 3), (12, 4), (24, -5)] m tg F F_q ∧ (PSx m tg F_q) ∧ (RtS m tg F_q a0 cr) ∧ True) := by
  intro mm
  induction mm using Nat.strongRecOn with
  | ind mm ih =>
    intro L Fx k hmm gL_0 gL_1 hCx hMx rx_k iv_0 cx_PSx cx_RtS
    refine jx_ld (pc_q := 8) (l_q := L) (st_q := [.int (i32 (k))]) rfl (jl_iloadn gL_1) ?_
    refine jx_ld (pc_q := 9) (l_q := L) (st_q := [rv (me), .int (i32 (k))]) rfl (jl_rvn gL_0) ?_
    refine cx_gr (pc_q := 12) (c := 11) (q := 0) (v := F (me) (0 : Int)) rfl rfl (by decide) (by decide) rfl rfl o_me t_me (show Fx (me) (0 : Int) = F (me) (0 : Int) from hMx _ _ o_me (own_z o_me) (by rw [t_me]; rfl)) ?_
    have y34 : own m (F (me) (0 : Int)) ∧ tg (F (me) (0 : Int)) = 10 ∧ ((0 : Int) ≠ 0 → ln (F (me) (0 : Int)) = 0) := by have z := HC_n (c := 11) (q := 0) hCx o_me t_me (own_z o_me) (by decide) rfl; rw [show Fx (me) ((0 : Nat) : Int) = F (me) (0 : Int) from (show Fx (me) (0 : Int) = F (me) (0 : Int) from hMx _ _ o_me (own_z o_me) (by rw [t_me]; rfl))] at z; exact ⟨z.1, z.2.1, z.2.2.1⟩
    refine cx_gi (pc_q := 15) (c := 9) (q := 5) (v := F (F (me) (0 : Int)) (5 : Int)) rfl rfl (by decide) (by decide) (Or.inl rfl) rfl y34.1 y34.2.1 (show Fx (F (me) (0 : Int)) (5 : Int) = F (F (me) (0 : Int)) (5 : Int) from hMx _ _ y34.1 (own_z y34.1) (by rw [y34.2.1]; rfl)) ?_
    have b35 : (0 : Int) ≤ F (F (me) (0 : Int)) (5 : Int) ∧ F (F (me) (0 : Int)) (5 : Int) ≤ 24 := by have z := HC_i (c := 9) (q := 5) hCx y34.1 y34.2.1 (by decide) rfl; rw [show Fx (F (me) (0 : Int)) ((5 : Nat) : Int) = F (F (me) (0 : Int)) (5 : Int) from (show Fx (F (me) (0 : Int)) (5 : Int) = F (F (me) (0 : Int)) (5 : Int) from hMx _ _ y34.1 (own_z y34.1) (by rw [y34.2.1]; rfl))] at z; exact z
    refine jx_icmp_ge (pc_q := 18) (tg := 63) rfl rfl rfl (by omega) (by omega) (by omega) (by omega) (fun h36 => ?_) (fun h36 => ?_)
    · have _q := h36
      refine jx_ar (pc_q := 64) (st_q := [.int (i32 (0))]) rfl rfl rfl rfl ?_
      refine jx_ld (pc_q := 65) (l_q := jSto1 L 1 (.int (i32 (0)))) (st_q := []) rfl rfl ?_
      obtain ⟨L37, eL37⟩ : ∃ q : jL, q = jSto1 L 1 (.int (i32 (0))) := ⟨_, rfl⟩
      rw [← eL37]
      have g38 : jGet L37 0 = some (rv (me)) := eL37 ▸ jg_nr (by decide) gL_0
      have g39 : jGet L37 1 = some (.int (i32 (0))) := eL37 ▸ jg_eq
      clear eL37
      exact k_LUses_judge2_at_65 (X := X) (d := d) (R := R) (m := m) (tg := tg) (ln := ln) (F := F) (a0 := a0) (cr := cr) (me := me) (hd := hd) (hC := hC) (o_me := o_me) (t_me := t_me) (c_PSx := c_PSx) (c_RtS := c_RtS) (c_NT := c_NT) _ L37 Fx (0) rfl g38 g39 hCx hMx (by omega) (by omega) (by omega) (PSx_m cx_PSx (by omega)) (RtS_m cx_RtS (by omega))
    · have _q := h36
      refine jx_ld (pc_q := 19) (l_q := L) (st_q := [.int (i32 (k))]) rfl (jl_iloadn gL_1) ?_
      refine jx_ld (pc_q := 20) (l_q := L) (st_q := [rv (me), .int (i32 (k))]) rfl (jl_rvn gL_0) ?_
      refine cx_gr (pc_q := 23) (c := 11) (q := 0) (v := F (me) (0 : Int)) rfl rfl (by decide) (by decide) rfl rfl o_me t_me (show Fx (me) (0 : Int) = F (me) (0 : Int) from hMx _ _ o_me (own_z o_me) (by rw [t_me]; rfl)) ?_
      refine cx_gr (pc_q := 26) (c := 9) (q := 4) (v := F (F (me) (0 : Int)) (4 : Int)) rfl rfl (by decide) (by decide) rfl rfl y34.1 y34.2.1 (show Fx (F (me) (0 : Int)) (4 : Int) = F (F (me) (0 : Int)) (4 : Int) from hMx _ _ y34.1 (own_z y34.1) (by rw [y34.2.1]; rfl)) ?_
      have y40 : own m (F (F (me) (0 : Int)) (4 : Int)) ∧ tg (F (F (me) (0 : Int)) (4 : Int)) = 25 ∧ ((24 : Int) ≠ 0 → ln (F (F (me) (0 : Int)) (4 : Int)) = 24) := by have z := HC_n (c := 9) (q := 4) hCx y34.1 y34.2.1 (own_z y34.1) (by decide) rfl; rw [show Fx (F (me) (0 : Int)) ((4 : Nat) : Int) = F (F (me) (0 : Int)) (4 : Int) from (show Fx (F (me) (0 : Int)) (4 : Int) = F (F (me) (0 : Int)) (4 : Int) from hMx _ _ y34.1 (own_z y34.1) (by rw [y34.2.1]; rfl))] at z; exact ⟨z.1, z.2.1, z.2.2.1⟩
      have ly40 : ln (F (F (me) (0 : Int)) (4 : Int)) = 24 := y40.2.2 (by decide)
      have b41 := HC_l hCx y40.1 y40.2.1 (by decide)
      refine cx_len (pc_q := 27) rfl rfl y40.1 (by rw [y40.2.1]; decide) (by omega) ?_
      refine jx_icmp_ge (pc_q := 30) (tg := 63) rfl rfl rfl (by omega) (by omega) (by omega) (by omega) (fun h42 => ?_) (fun h42 => ?_)
      · have _q := h42
        refine jx_ar (pc_q := 64) (st_q := [.int (i32 (0))]) rfl rfl rfl rfl ?_
        refine jx_ld (pc_q := 65) (l_q := jSto1 L 1 (.int (i32 (0)))) (st_q := []) rfl rfl ?_
        obtain ⟨L43, eL43⟩ : ∃ q : jL, q = jSto1 L 1 (.int (i32 (0))) := ⟨_, rfl⟩
        rw [← eL43]
        have g44 : jGet L43 0 = some (rv (me)) := eL43 ▸ jg_nr (by decide) gL_0
        have g45 : jGet L43 1 = some (.int (i32 (0))) := eL43 ▸ jg_eq
        clear eL43
        exact k_LUses_judge2_at_65 (X := X) (d := d) (R := R) (m := m) (tg := tg) (ln := ln) (F := F) (a0 := a0) (cr := cr) (me := me) (hd := hd) (hC := hC) (o_me := o_me) (t_me := t_me) (c_PSx := c_PSx) (c_RtS := c_RtS) (c_NT := c_NT) _ L43 Fx (0) rfl g44 g45 hCx hMx (by omega) (by omega) (by omega) (PSx_m cx_PSx (by omega)) (RtS_m cx_RtS (by omega))
      · have _q := h42
        refine jx_ld (pc_q := 31) (l_q := L) (st_q := [rv (me)]) rfl (jl_rvn gL_0) ?_
        refine cx_gr (pc_q := 34) (c := 11) (q := 0) (v := F (me) (0 : Int)) rfl rfl (by decide) (by decide) rfl rfl o_me t_me (show Fx (me) (0 : Int) = F (me) (0 : Int) from hMx _ _ o_me (own_z o_me) (by rw [t_me]; rfl)) ?_
        refine cx_gr (pc_q := 37) (c := 9) (q := 4) (v := F (F (me) (0 : Int)) (4 : Int)) rfl rfl (by decide) (by decide) rfl rfl y34.1 y34.2.1 (show Fx (F (me) (0 : Int)) (4 : Int) = F (F (me) (0 : Int)) (4 : Int) from hMx _ _ y34.1 (own_z y34.1) (by rw [y34.2.1]; rfl)) ?_
        refine jx_ld (pc_q := 38) (l_q := L) (st_q := [.int (i32 (k)), rv (F (F (me) (0 : Int)) (4 : Int))]) rfl (jl_iloadn gL_1) ?_
        refine cx_aal (pc_q := 39) (z := k) rfl rfl y40.1 (by rw [y40.2.1]; decide) (by omega) (by omega) (by omega) ?_
        rw [show Fx (F (F (me) (0 : Int)) (4 : Int)) (k) = F (F (F (me) (0 : Int)) (4 : Int)) (k) from (show Fx (F (F (me) (0 : Int)) (4 : Int)) (k) = F (F (F (me) (0 : Int)) (4 : Int)) (k) from hMx _ _ y40.1 (own_z y40.1) (by rw [y40.2.1]; rfl))]
        have y46 : F (F (F (me) (0 : Int)) (4 : Int)) (k) = 0 ∨ (own m (F (F (F (me) (0 : Int)) (4 : Int)) (k)) ∧ tg (F (F (F (me) (0 : Int)) (4 : Int)) (k)) = 7) := by have z := HC_er (j := k) hCx y40.1 y40.2.1 (by decide) (by omega); rw [show Fx (F (F (me) (0 : Int)) (4 : Int)) (k) = F (F (F (me) (0 : Int)) (4 : Int)) (k) from (show Fx (F (F (me) (0 : Int)) (4 : Int)) (k) = F (F (F (me) (0 : Int)) (4 : Int)) (k) from hMx _ _ y40.1 (own_z y40.1) (by rw [y40.2.1]; rfl))] at z; exact z
        refine jx_ld (pc_q := 40) (l_q := jSto1 L 2 (rv (F (F (F (me) (0 : Int)) (4 : Int)) (k)))) (st_q := []) rfl (js_rvn (by decide)) ?_
        obtain ⟨L47, eL47⟩ : ∃ q : jL, q = jSto1 L 2 (rv (F (F (F (me) (0 : Int)) (4 : Int)) (k))) := ⟨_, rfl⟩
        rw [← eL47]
        have g48 : jGet L47 0 = some (rv (me)) := eL47 ▸ jg_nr (by decide) gL_0
        have g49 : jGet L47 1 = some (.int (i32 (k))) := eL47 ▸ jg_ne (by decide) gL_1 rfl
        have g50 : jGet L47 2 = some (rv (F (F (F (me) (0 : Int)) (4 : Int)) (k))) := eL47 ▸ jg_eq
        clear eL47
        refine jx_ld (pc_q := 41) (l_q := L47) (st_q := [rv (me)]) rfl (jl_rvn g48) ?_
        refine jx_ar (pc_q := 42) (st_q := [.int (i32 (0)), rv (me)]) rfl rfl rfl rfl ?_
        refine cx_pi (pc_q := 45) (c := 11) (q := 2) (qi := (2 : Int)) (z := 0) rfl rfl (by decide) (by decide) rfl rfl rfl (by decide) rfl o_me t_me rfl ?_
        obtain ⟨F51, eF51⟩ : ∃ q, q = uF Fx (me) (2 : Int) (0) := ⟨_, rfl⟩
        rw [← eF51]
        have hC52 : HC 0 m tg ln F51 := by rw [eF51]; exact HC_fi (c := 11) (q := 2) hCx t_me (by decide) rfl (by omega) (by omega) ⟨fun w => absurd w (by decide), fun w => absurd w (by decide)⟩
        have hM53 : Fq 0 [(7, 11), (8, 13), (8, 14), (8, 15), (8, 16), (8, 17), (8, 18), (10, 0), (10, 1), (10, 2), (12, 2), (12, 3), (12, 4), (24, -5)] m tg F F51 := by rw [eF51]; exact Fq_p hMx t_me (fun _ => rfl) rfl
        have c54 : PSx m tg F51 := by rw [eF51]; exact PSx_u cx_PSx t_me (by omega)
        have c55 : RtS m tg F51 a0 cr := by rw [eF51]; exact RtS_u cx_RtS t_me (by omega)
        refine jx_ld (pc_q := 46) (l_q := L47) (st_q := [rv (F (F (F (me) (0 : Int)) (4 : Int)) (k))]) rfl (jl_rvn g50) ?_
        refine cx_nul (pc_q := 49) (tg_q := 57) rfl rfl rfl (fun h56 => ?_) (fun h56 => ?_)
        · have _q := h56
          refine jx_inc (pc_q := 60) (l_q := jSto1 L47 1 (.int (i32 (k + (1))))) (x := k) rfl g49 (by decide) rfl rfl ?_
          obtain ⟨L57, eL57⟩ : ∃ q : jL, q = jSto1 L47 1 (.int (i32 ((k + (1))))) := ⟨_, rfl⟩
          rw [← eL57]
          have g58 : jGet L57 0 = some (rv (me)) := eL57 ▸ jg_nr (by decide) g48
          have g59 : jGet L57 2 = some (rv (F (F (F (me) (0 : Int)) (4 : Int)) (k))) := eL57 ▸ jg_nr (by decide) g50
          have g60 : jGet L57 1 = some (.int (i32 ((k + (1))))) := eL57 ▸ jg_eq
          clear eL57
          refine jx_go (tg := 7) rfl rfl ?_
          exact ih _ (by omega) L57 F51 ((k + (1))) rfl g58 g60 hC52 hM53 (by omega) (by omega) (PSx_m c54 (by omega)) (RtS_m c55 (by omega))
        · have _q := h56
          have ho61 : own m (F (F (F (me) (0 : Int)) (4 : Int)) (k)) ∧ tg (F (F (F (me) (0 : Int)) (4 : Int)) (k)) = 7 := y46.resolve_left h56
          refine jx_ld (pc_q := 50) (l_q := L47) (st_q := [rv (me)]) rfl (jl_rvn g48) ?_
          refine jx_ld (pc_q := 51) (l_q := L47) (st_q := [rv (F (F (F (me) (0 : Int)) (4 : Int)) (k)), rv (me)]) rfl (jl_rvn g50) ?_
          refine cx_gr (pc_q := 54) (c := 6) (q := 12) (v := F (F (F (F (me) (0 : Int)) (4 : Int)) (k)) (12 : Int)) rfl rfl (by decide) (by decide) rfl rfl ho61.1 ho61.2 ((show F51 (F (F (F (me) (0 : Int)) (4 : Int)) (k)) (12 : Int) = Fx (F (F (F (me) (0 : Int)) (4 : Int)) (k)) (12 : Int) from by rw [eF51]; exact uF_j (by decide)).trans (show Fx (F (F (F (me) (0 : Int)) (4 : Int)) (k)) (12 : Int) = F (F (F (F (me) (0 : Int)) (4 : Int)) (k)) (12 : Int) from hMx _ _ ho61.1 (own_z ho61.1) (by rw [ho61.2]; rfl))) ?_
          have y62 : F (F (F (F (me) (0 : Int)) (4 : Int)) (k)) (12 : Int) = 0 ∨ (own m (F (F (F (F (me) (0 : Int)) (4 : Int)) (k)) (12 : Int)) ∧ tg (F (F (F (F (me) (0 : Int)) (4 : Int)) (k)) (12 : Int)) = 8) := by have z := HC_r (c := 6) (q := 12) hC52 ho61.1 ho61.2 (by decide) rfl; rw [show F51 (F (F (F (me) (0 : Int)) (4 : Int)) (k)) ((12 : Nat) : Int) = F (F (F (F (me) (0 : Int)) (4 : Int)) (k)) (12 : Int) from ((show F51 (F (F (F (me) (0 : Int)) (4 : Int)) (k)) (12 : Int) = Fx (F (F (F (me) (0 : Int)) (4 : Int)) (k)) (12 : Int) from by rw [eF51]; exact uF_j (by decide)).trans (show Fx (F (F (F (me) (0 : Int)) (4 : Int)) (k)) (12 : Int) = F (F (F (F (me) (0 : Int)) (4 : Int)) (k)) (12 : Int) from hMx _ _ ho61.1 (own_z ho61.1) (by rw [ho61.2]; rfl)))] at z; exact z
          refine cx_vi (c := 11) (a := me) (st := []) (as := [rv (F (F (F (F (me) (0 : Int)) (4 : Int)) (k)) (12 : Int))]) rfl rfl rfl o_me t_me (by decide) rfl ⟨rfl, rfl, (Nat.le_of_ble_eq_true rfl)⟩ rfl (UPy_all X (60) (dd := d) (R := R) (m := m) (tg := tg) (ln := ln) (F := F51) (me := me) (p := F (F (F (F (me) (0 : Int)) (4 : Int)) (k)) (12 : Int)) (hd := by omega) (hC := hC52) (o_me := o_me) (t_me := t_me) (y_p := y62) (c_PSx := c54) (c_RtS := c55) (c_NT := NT_q hC c_NT hM53 rfl) (n_p := (SN_q (SN_w (c_PSx.1.2 _ ho61.1 ho61.2) (by omega)) hM53 rfl rfl))) (fun o V_q hq => ?_)
          obtain ⟨F63, rfl, rfl, hC64, hM65, c66, c67, -⟩ := hq
          have hM68 : Fq 0 [(7, 11), (8, 13), (8, 14), (8, 15), (8, 16), (8, 17), (8, 18), (10, 0), (10, 1), (10, 2), (12, 2), (12, 3), (12, 4), (24, -5)] m tg F F63 := Fq_t (ln := ln) (ln1 := ln) hM53 Ex_r hM65 (by decide) (Or.inl rfl)
          refine Or.inl ⟨rfl, ?_⟩
          refine jx_inc (pc_q := 60) (l_q := jSto1 L47 1 (.int (i32 (k + (1))))) (x := k) rfl g49 (by decide) rfl rfl ?_
          obtain ⟨L69, eL69⟩ : ∃ q : jL, q = jSto1 L47 1 (.int (i32 ((k + (1))))) := ⟨_, rfl⟩
          rw [← eL69]
          have g70 : jGet L69 0 = some (rv (me)) := eL69 ▸ jg_nr (by decide) g48
          have g71 : jGet L69 2 = some (rv (F (F (F (me) (0 : Int)) (4 : Int)) (k))) := eL69 ▸ jg_nr (by decide) g50
          have g72 : jGet L69 1 = some (.int (i32 ((k + (1))))) := eL69 ▸ jg_eq
          clear eL69
          refine jx_go (tg := 7) rfl rfl ?_
          exact ih _ (by omega) L69 F63 ((k + (1))) rfl g70 g72 hC64 hM68 (by omega) (by omega) (PSx_m c66 (by omega)) (RtS_m c67 (by omega))
set_option maxRecDepth 20000 in
set_option maxHeartbeats 4000000 in
theorem k_LUses_judge2 {X : jX} {dd : Nat} {R : Nat → jC} {m : Nat} {tg ln : Int → Int} {F : Int → Int → Int} {a0 cr : Int} {me : Int} (hd : 200 ≤ dd) (hC : HC 0 m tg ln F) (o_me : own m me) (t_me : tg me = 12) (c_PSx : PSx m tg F) (c_RtS : RtS m tg F a0 cr) (c_NT : NT m tg F) : wk X dd 226 [rv me] (cV R m tg ln F) (fun o V_q => ∃ (F_q : Int → Int → Int), V_q = cV R m tg ln F_q ∧ o = .inl none ∧ HC 0 m tg ln F_q ∧ Fq 0 [(7, 11), (8, 13), (8, 14), (8, 15), (8, 16), (8, 17), (8, 18), (10, 0), (10, 1), (10, 2), (12, 2), (12, 3), (12, 4), (24, -5)] m tg F F_q ∧ (PSx m tg F_q) ∧ (RtS m tg F_q a0 cr) ∧ True) := by
  obtain ⟨d, rfl⟩ : ∃ d, dd = d + 1 := ⟨dd - 1, by omega⟩
  refine wk_of (e := jm226) rfl (by rw [jS_r, jS_0]; exact Nat.le_of_ble_eq_true rfl) ?_
  rw [la_r, la_0]
  show wj X d jm226 (0, [(0, rv (me))], [], cV R m tg ln F) _
  have hM0 : Fq 0 [(7, 11), (8, 13), (8, 14), (8, 15), (8, 16), (8, 17), (8, 18), (10, 0), (10, 1), (10, 2), (12, 2), (12, 3), (12, 4), (24, -5)] m tg F F := Fq_r
  obtain ⟨L0, eL0⟩ : ∃ q : jL, q = [(0, rv (me))] := ⟨_, rfl⟩
  rw [← eL0]
  have g73 : jGet L0 0 = some (rv (me)) := eL0 ▸ (rfl : jGet [(0, rv (me))] 0 = some (rv (me)))
  clear eL0
  refine jx_ld (pc_q := 1) (l_q := L0) (st_q := [rv (me)]) rfl (jl_rvn g73) ?_
  refine jx_ar (pc_q := 2) (st_q := [.int (i32 (-1)), rv (me)]) rfl rfl rfl rfl ?_
  refine cx_pi (pc_q := 5) (c := 11) (q := 3) (qi := (3 : Int)) (z := -1) rfl rfl (by decide) (by decide) rfl rfl rfl (by decide) rfl o_me t_me rfl ?_
  obtain ⟨F74, eF74⟩ : ∃ q, q = uF F (me) (3 : Int) (-1) := ⟨_, rfl⟩
  rw [← eF74]
  have hC75 : HC 0 m tg ln F74 := by rw [eF74]; exact HC_fi (c := 11) (q := 3) hC t_me (by decide) rfl (by omega) (by omega) ⟨fun w => absurd w (by decide), fun w => absurd w (by decide)⟩
  have hM76 : Fq 0 [(7, 11), (8, 13), (8, 14), (8, 15), (8, 16), (8, 17), (8, 18), (10, 0), (10, 1), (10, 2), (12, 2), (12, 3), (12, 4), (24, -5)] m tg F F74 := by rw [eF74]; exact Fq_p hM0 t_me (fun _ => rfl) rfl
  have c77 : PSx m tg F74 := by rw [eF74]; exact PSx_u c_PSx t_me (by omega)
  have c78 : RtS m tg F74 a0 cr := by rw [eF74]; exact RtS_u c_RtS t_me (by omega)
  refine jx_ar (pc_q := 6) (st_q := [.int (i32 (0))]) rfl rfl rfl rfl ?_
  refine jx_ld (pc_q := 7) (l_q := jSto1 L0 1 (.int (i32 (0)))) (st_q := []) rfl rfl ?_
  obtain ⟨L79, eL79⟩ : ∃ q : jL, q = jSto1 L0 1 (.int (i32 (0))) := ⟨_, rfl⟩
  rw [← eL79]
  have g80 : jGet L79 0 = some (rv (me)) := eL79 ▸ jg_nr (by decide) g73
  have g81 : jGet L79 1 = some (.int (i32 (0))) := eL79 ▸ jg_eq
  clear eL79
  exact k_LUses_judge2_at_7 (X := X) (d := d) (R := R) (m := m) (tg := tg) (ln := ln) (F := F) (a0 := a0) (cr := cr) (me := me) (hd := hd) (hC := hC) (o_me := o_me) (t_me := t_me) (c_PSx := c_PSx) (c_RtS := c_RtS) (c_NT := c_NT) _ L79 F74 (0) rfl g80 g81 hC75 hM76 (by omega) (by omega) (PSx_m c77 (by omega)) (RtS_m c78 (by omega))
