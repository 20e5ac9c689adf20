/-! arguments and choices -/
def BUr (T : Nat → Nat → Int) (Bu : Int → Int) (pb : Int) (A : Nat → Nat → Int) : Prop := ∀ q j : Int, 0 ≤ q → q < pb → 0 ≤ j → j < T 30 q.toNat → A 11 (T 29 q.toNat + j).toNat = Bu (T 29 q.toNat + j) ∧ 0 ≤ Bu (T 29 q.toNat + j) ∧ Bu (T 29 q.toNat + j) ≤ 15
theorem BU_fr {T : Nat → Nat → Int} {Bu : Int → Int} {pb : Int} {A A_q : Nat → Nat → Int} (e : A_q 11 = A 11) (h : BUr T Bu pb A) : BUr T Bu pb A_q := fun q j a b c d => by
  rw [e]
  exact h q j a b c d
def BAr (T : Nat → Nat → Int) (Bu : Int → Int) (A : Nat → Nat → Int) (a : Int) : Prop := A 11 (T 18 a.toNat).toNat = Bu (T 18 a.toNat) ∧ 0 ≤ Bu (T 18 a.toNat) ∧ Bu (T 18 a.toNat) ≤ 15
theorem BA_i {T : Nat → Nat → Int} {Bu : Int → Int} {pb q a : Int} {j : Nat} {A : Nat → Nat → Int} (h : BUr T Bu pb A) (q0 : 0 ≤ q) (q1 : q < pb) (hj : (j : Int) < T 30 q.toNat) (e : T 18 a.toNat = T 29 q.toNat + (j : Int)) : BAr T Bu A a := by
  unfold BAr
  rw [e]
  exact h q (j : Int) q0 q1 (by omega) hj
def ArT (T : Nat → Nat → Int) (V : Nat → Prop) (sb a lo hi : Int) : Prop := (T 7 (T 18 a.toNat).toNat = 5 → wE T V sb 20 (T 17 a.toNat) lo hi) ∧ (T 7 (T 18 a.toNat).toNat ≠ 5 → pX T V sb 20 (T 17 a.toNat) lo hi)
theorem ua_5 {T A A_q : Nat → Nat → Int} {Bu : Int → Int} {R : Nat → Int} {uf us us2 a : Int} (k : T 7 (T 18 a.toNat).toNat = 5) (h : UX A A_q uf us us2 (fun Q => eU T R 30 Q (T 17 a.toNat))) : UX A A_q uf us us2 (fun Q => aU T Bu R Q a) := UX_z (fun Q => ⟨fun w => w.1 k, fun w => ⟨fun _ => w, fun n => absurd k n⟩⟩) h
theorem ua_r {T A A_q : Nat → Nat → Int} {Bu : Int → Int} {R : Nat → Int} {uf us us2 a : Int} (k : T 7 (T 18 a.toNat).toNat ≠ 5) (k3 : T 15 (T 17 a.toNat).toNat ≠ 3) (h : UX A A_q uf us us2 (fun Q => rU T R (eU T R 30) Q (T 17 a.toNat) (Bu (T 18 a.toNat)))) : UX A A_q uf us us2 (fun Q => aU T Bu R Q a) := UX_z (fun Q => ⟨fun w => (w.2 k).1, fun w => ⟨fun n => absurd n k, fun _ => ⟨w, fun n => absurd n k3⟩⟩⟩) h
theorem ua_3 {T A A1 A2 : Nat → Nat → Int} {Bu : Int → Int} {R : Nat → Int} {uf us us1 us2 a : Int} (h0 : 0 ≤ uf) (k : T 7 (T 18 a.toNat).toNat ≠ 5) (k3 : T 15 (T 17 a.toNat).toNat = 3) (h : UX A A1 uf us us1 (fun Q => rU T R (eU T R 30) Q (T 17 a.toNat) (Bu (T 18 a.toNat)))) (g : UX A1 A2 uf us1 us2 (fun Q => eU T R 30 Q (T 18 (T 17 a.toNat).toNat))) : UX A A2 uf us us2 (fun Q => aU T Bu R Q a) := UX_z (fun Q => ⟨fun w => ⟨(w.2 k).1, (w.2 k).2 k3⟩, fun w => ⟨fun n => absurd n k, fun _ => ⟨w.1, fun _ => w.2⟩⟩⟩) (UX_t h0 (rU_mon (fun _ => eU_mon)) h g)
/-- a choice or a guard -/
def chT (T : Nat → Nat → Int) (sb pb : Int) (k : Nat) (V : Nat → Prop) (c lo hi s0 s1 : Int) : Prop := wI T V sb (wP T sb pb k V) c lo hi s0 s1 ∨ wG T V sb (wP T sb pb k V) c lo hi s0 s1
theorem ch_k {T : Nat → Nat → Int} {sb pb : Int} {k : Nat} {V : Nat → Prop} {c lo hi s0 s1 : Int} (h : chT T sb pb k V c lo hi s0 s1) : c = lo ∧ c < hi ∧ ∃ m, c + 1 ≤ m ∧ m ≤ hi ∧ wP T sb pb k V (T 21 c.toNat) m hi s0 s1 := by
  rcases h with ⟨h1, _, m, h2, h3, _, h4⟩ | ⟨h1, _, m, h2, h3, h4, _⟩
  · exact ⟨h1, by omega, m, h2, h3, h4⟩
  · exact ⟨h1, by omega, m, h2, h3, h4⟩
theorem ch_e {T : Nat → Nat → Int} {sb pb : Int} {k : Nat} {V : Nat → Prop} {c lo hi s0 s1 : Int} (h : chT T sb pb k V c lo hi s0 s1) (p : 0 < T 17 c.toNat) : ∃ a b, lo ≤ a ∧ b ≤ hi ∧ wE T V sb 22 (T 17 c.toNat) a b := by
  rcases h with ⟨h1, _, m, h2, h3, h5, h4⟩ | ⟨h1, _, m, h2, h3, h4, h5 | h5 | ⟨a, b, h5, h6, h7, h8, _⟩⟩
  · exact ⟨c + 1, m, by omega, h3, wE_mono (Int.le_refl _) (by omega) (Int.le_refl _) h5⟩
  · omega
  · exact ⟨c + 1, m, by omega, h3, h5.2⟩
  · exact ⟨c + 1, a, by omega, by omega, h8⟩
theorem ch_r {T : Nat → Nat → Int} {sb pb : Int} {k : Nat} {V : Nat → Prop} {c lo hi s0 s1 : Int} (h : chT T sb pb k V c lo hi s0 s1) (p : 0 < T 18 c.toNat) (k33 : T 15 c.toNat = 33) : ∃ a b m, lo ≤ a ∧ a ≤ b ∧ b ≤ m ∧ m ≤ hi ∧ wR T V sb 20 1 (T 18 c.toNat) a b ∧ wR T V sb 20 0 (T 19 c.toNat) b m := by
  rcases h with ⟨h1, h0, m, h2, h3, h5, h4⟩ | ⟨h1, _, m, h2, h3, h4, ⟨_, a, h5, h6, h7, h8⟩ | h5 | ⟨a, b, h5, h6, h7, h8, h9, h10⟩⟩
  · omega
  · exact ⟨c + 1, a, m, by omega, h5, h6, h3, h7, h8⟩
  · omega
  · exact ⟨a, b, m, by omega, h6, h7, h3, h9, h10⟩
theorem ux_no {A : Nat → Nat → Int} {uf us : Int} {P : Prop} {Z : Us → Prop} (n : ¬ P) : UX A A uf us us (fun Q => P → Z Q) := UX_z (fun Q => ⟨fun _ => trivial, fun _ p => absurd p n⟩) UX_0
theorem ux_if {A A_q : Nat → Nat → Int} {uf us us2 : Int} {P : Prop} {Z : Us → Prop} (p : P) (h : UX A A_q uf us us2 Z) : UX A A_q uf us us2 (fun Q => P → Z Q) := UX_z (fun Q => ⟨fun w => w p, fun w _ => w⟩) h
theorem Mon_if {P : Prop} {Z : Us → Prop} (m : Mon Z) : Mon (fun Q => P → Z Q) := fun U U' s h p => m U U' s (h p)
theorem uc_mk {T A A1 A2 A3 : Nat → Nat → Int} {R : Nat → Int} {W : Us → Int → Prop} {uf us us1 us2 us3 c : Int} (h0 : 0 ≤ uf) (h1 : UX A A1 uf us us1 (fun Q => 0 < T 17 c.toNat → eU T R 30 Q (T 17 c.toNat))) (h2 : UX A1 A2 uf us1 us2 (fun Q => (T 15 c.toNat = 33 ∧ 0 < T 18 c.toNat) → rU T R (eU T R 30) Q (T 18 c.toNat) 8 ∧ rU T R (eU T R 30) Q (T 19 c.toNat) 2)) (h3 : UX A2 A3 uf us2 us3 (fun Q => W Q (T 21 c.toNat))) : UX A A3 uf us us3 (fun Q => cU T R W Q c) :=
  UX_z (fun Q => ⟨fun w => ⟨⟨w.1, fun k => w.2.1 k.1 k.2⟩, w.2.2⟩, fun w => ⟨w.1.1, fun k j => w.1.2 ⟨k, j⟩, w.2⟩⟩) (UX_t h0 (Mon_a (Mon_if eU_mon) (Mon_if (Mon_a (rU_mon (fun _ => eU_mon)) (rU_mon (fun _ => eU_mon))))) (UX_t h0 (Mon_if eU_mon) h1 h2) h3)
set_option maxRecDepth 20000 in
set_option maxHeartbeats 4000000 in
theorem c_useArgument {X : jX} {dd : Nat} {T0 : Nat → Nat → Int} {Sn Bu : Int → Int} {Vs : Nat → Prop} {sb M : Int} {Fm : Int → Int → Int → Prop} {c0 c1 : jC} {G : Nat → Int} {A : Nat → Nat → Int} {T : jH} {a : Int} {lo hi : Int} {uf us : Int} (hd : 68 ≤ dd) (hW : Wk G A) (e_uf : G 62 = uf) (e_us : G 61 = us) (h_a : (-2147483648 : Int) ≤ a ∧ a ≤ 2147483647) (p_0 : TA T0 A) (p_1 : 0 ≤ lo) (p_2 : hi ≤ 6999) (p_3 : sb ≤ 202) (p_4 : 0 ≤ uf) (p_5 : uf ≤ us) (p_6 : uf + M ≤ 59999) (p_7 : UI Fm A (uf) (us)) (p_8 : Fbd Fm M) (p_9 : ArT T0 Vs sb (a) (lo) (hi)) (p_10 : 0 ≤ a) (p_11 : a ≤ 6999) (p_12 : 0 ≤ T0 18 (a).toNat) (p_13 : T0 18 (a).toNat < sb) (p_14 : SA T0 Vs Sn A) (p_15 : BAr T0 Bu A (a)) (p_16 : aU T0 Bu (Rf Sn) (fun s al e _ => Fm s al e) (a)) : wk X dd 331 [.ref 66, .int (i32 a)] (rV c0 c1 G A T) (fun o V_q => ∃ (G_q : Nat → Int) (A_q : Nat → Nat → Int) (us2 : Int), V_q = rV c0 c1 G_q A_q T ∧ o = .inl none ∧ Wk G_q A_q ∧ Fr [61] [39, 40, 41, 42] G A G_q A_q ∧ G_q 61 = us2 ∧ (us ≤ us2) ∧ (UI Fm A_q (uf) (us2)) ∧ (UX A A_q (uf) (us) (us2) (fun Q => aU T0 Bu (Rf Sn) Q (a))) ∧ True) := by
  obtain ⟨d, rfl⟩ : ∃ d, dd = d + 1 := ⟨dd - 1, by omega⟩
  refine wk_of (e := jm331) rfl (Nat.le_of_ble_eq_true rfl) ?_
  show wj X d jm331 (0, [(0, .ref 66), (1, .int (i32 (a)))], [], rV c0 c1 G A T) _
  have hF0 : Fr [61] [39, 40, 41, 42] G A G A := Fr_rf
  have b_uf : (-2147483648 : Int) ≤ uf ∧ uf ≤ 2147483647 := e_uf ▸ hW.1 62
  have b_us : (-2147483648 : Int) ≤ us ∧ us ≤ 2147483647 := e_us ▸ hW.1 61
  have hWT := TA_w hW p_0
  refine jx_ld (pc_q := 1) (l_q := [(0, .ref 66), (1, .int (i32 (a)))]) (st_q := [.ref 66]) rfl (jl_aloadn rfl) ?_
  refine jr_get (pc_q := 4) (i := 21) (v := .ref 74) rfl rfl (by decide) rfl rfl ?_
  refine jx_ld (pc_q := 5) (l_q := [(0, .ref 66), (1, .int (i32 (a)))]) (st_q := [.ref 66, .ref 74]) rfl (jl_aloadn rfl) ?_
  refine jr_get (pc_q := 8) (i := 35) (v := .ref 85) rfl rfl (by decide) rfl rfl ?_
  refine jx_ld (pc_q := 9) (l_q := [(0, .ref 66), (1, .int (i32 (a)))]) (st_q := [.int (i32 (a)), .ref 85, .ref 74]) rfl (jl_iloadn rfl) ?_
  have b1 : (-2147483648 : Int) ≤ T0 18 (a).toNat ∧ T0 18 (a).toNat ≤ 2147483647 := hWT.2 18 _
  refine jr_ldv (pc_q := 10) (i := 18) (m := 7000) (z := a) (y := T0 18 (a).toNat) rfl (by decide) rfl (by decide) (by omega) (by omega) rfl (show A 18 (a).toNat = T0 18 (a).toNat from (congrFun (p_0 18 rfl) _)) ?_
  have b2 : (0 : Int) ≤ T0 7 (T0 18 (a).toNat).toNat ∧ T0 7 (T0 18 (a).toNat).toNat ≤ 14 := hWT.2 7 _
  refine jr_ldv (pc_q := 11) (i := 7) (m := 260) (z := T0 18 (a).toNat) (y := T0 7 (T0 18 (a).toNat).toNat) rfl (by decide) rfl (by decide) (by omega) (by omega) rfl (show A 7 (T0 18 (a).toNat).toNat = T0 7 (T0 18 (a).toNat).toNat from (congrFun (p_0 7 rfl) _)) ?_
  refine jx_ar (pc_q := 12) (st_q := [.int (i32 (5)), .int (i32 (T0 7 (T0 18 (a).toNat).toNat))]) rfl rfl rfl rfl ?_
  refine jx_icmp_ne (pc_q := 15) (tg := 26) rfl rfl rfl (Int.le_trans (by decide : (-2147483648 : Int) ≤ 0) b2.1) (Int.le_trans b2.2 (by decide : (14 : Int) ≤ 2147483647)) (by decide) (by decide) (fun h3 => ?_) (fun h3 => ?_)
  · have _q := h3
    have hqp := p_9.2 (by omega); have hqx := qX_pX hqp; have hqi := hqp.1; have hqj := hqp.2.1; have hza := p_16.2 (by omega); have hbu := p_15; unfold BAr at hbu
    refine jx_ld (pc_q := 27) (l_q := [(0, .ref 66), (1, .int (i32 (a)))]) (st_q := [.ref 66]) rfl (jl_aloadn rfl) ?_
    refine jx_ld (pc_q := 28) (l_q := [(0, .ref 66), (1, .int (i32 (a)))]) (st_q := [.ref 66, .ref 66]) rfl (jl_aloadn rfl) ?_
    refine jr_get (pc_q := 31) (i := 34) (v := .ref 84) rfl rfl (by decide) rfl rfl ?_
    refine jx_ld (pc_q := 32) (l_q := [(0, .ref 66), (1, .int (i32 (a)))]) (st_q := [.int (i32 (a)), .ref 84, .ref 66]) rfl (jl_iloadn rfl) ?_
    have b4 : (-2147483648 : Int) ≤ T0 17 (a).toNat ∧ T0 17 (a).toNat ≤ 2147483647 := hWT.2 17 _
    refine jr_ldv (pc_q := 33) (i := 17) (m := 7000) (z := a) (y := T0 17 (a).toNat) rfl (by decide) rfl (by decide) (by omega) (by omega) rfl (show A 17 (a).toNat = T0 17 (a).toNat from (congrFun (p_0 17 rfl) _)) ?_
    refine jx_ld (pc_q := 34) (l_q := [(0, .ref 66), (1, .int (i32 (a)))]) (st_q := [.ref 66, .int (i32 (T0 17 (a).toNat)), .ref 66]) rfl (jl_aloadn rfl) ?_
    refine jr_get (pc_q := 37) (i := 25) (v := .ref 78) rfl rfl (by decide) rfl rfl ?_
    refine jx_ld (pc_q := 38) (l_q := [(0, .ref 66), (1, .int (i32 (a)))]) (st_q := [.ref 66, .ref 78, .int (i32 (T0 17 (a).toNat)), .ref 66]) rfl (jl_aloadn rfl) ?_
    refine jr_get (pc_q := 41) (i := 35) (v := .ref 85) rfl rfl (by decide) rfl rfl ?_
    refine jx_ld (pc_q := 42) (l_q := [(0, .ref 66), (1, .int (i32 (a)))]) (st_q := [.int (i32 (a)), .ref 85, .ref 78, .int (i32 (T0 17 (a).toNat)), .ref 66]) rfl (jl_iloadn rfl) ?_
    refine jr_ldv (pc_q := 43) (i := 18) (m := 7000) (z := a) (y := T0 18 (a).toNat) rfl (by decide) rfl (by decide) (by omega) (by omega) rfl (show A 18 (a).toNat = T0 18 (a).toNat from (congrFun (p_0 18 rfl) _)) ?_
    have b5 : (0 : Int) ≤ A 11 (T0 18 (a).toNat).toNat ∧ A 11 (T0 18 (a).toNat).toNat ≤ 15 := hW.2 11 _
    refine jr_ldv (pc_q := 44) (i := 11) (m := 260) (z := T0 18 (a).toNat) (y := A 11 (T0 18 (a).toNat).toNat) rfl (by decide) rfl (by decide) (by omega) (by omega) rfl (show A 11 (T0 18 (a).toNat).toNat = A 11 (T0 18 (a).toNat).toNat from rfl) ?_
    refine jx_vr (pc_q := 47) (as := [.int (i32 (T0 17 (a).toNat)), .int (i32 (A 11 (T0 18 (a).toNat).toNat))]) (st := []) rfl rfl rfl rfl ⟨rfl, rfl, Nat.le_of_ble_eq_true rfl⟩ rfl rfl (c_useReference_h (dd := d) (hd := by omega) (hW := hW) (x := T0 17 (a).toNat) (dn := A 11 (T0 18 (a).toNat).toNat) (k := 20) (lo := lo) (hi := hi) (uf := uf) (e_uf := show G 62 = uf from (e_uf)) (us := us) (e_us := show G 61 = us from (e_us))  (h_x := ⟨(Int.le_trans (by decide : (-2147483648 : Int) ≤ -2147483648) b4.1), (Int.le_trans b4.2 (by decide : (2147483647 : Int) ≤ 2147483647))⟩) (h_dn := ⟨(Int.le_trans (by decide : (-2147483648 : Int) ≤ 0) b5.1), (Int.le_trans b5.2 (by decide : (15 : Int) ≤ 2147483647))⟩)  (p_0 := p_0) (p_1 := by omega) (p_2 := by omega) (p_3 := by omega) (p_4 := by omega) (p_5 := by omega) (p_6 := by omega) (p_7 := p_7) (p_8 := p_8) (p_9 := hqx) (p_10 := by omega) (p_11 := by omega) (p_12 := by omega) (p_13 := p_14) (p_14 := (by rw [hbu.1]; exact hza.1))) (fun o V_q hq => ?_)
    obtain ⟨G6, A7, us2_8, rfl, rfl, hW9, hF10, e11, p12, p13, p14, -⟩ := hq
    have hF16 := Fr_tr hF0 hF10 (Fr_sub (by decide)) (Fr_sub (by decide))
    have bus2_8 : (-2147483648 : Int) ≤ us2_8 ∧ us2_8 ≤ 2147483647 := e11 ▸ hW9.1 61
    refine .inl ⟨rfl, ?_⟩
    refine jx_ld (pc_q := 48) (l_q := [(0, .ref 66), (1, .int (i32 (a)))]) (st_q := [.ref 66]) rfl (jl_aloadn rfl) ?_
    refine jr_get (pc_q := 51) (i := 32) (v := .ref 82) rfl rfl (by decide) rfl rfl ?_
    refine jx_ld (pc_q := 52) (l_q := [(0, .ref 66), (1, .int (i32 (a)))]) (st_q := [.ref 66, .ref 82]) rfl (jl_aloadn rfl) ?_
    refine jr_get (pc_q := 55) (i := 34) (v := .ref 84) rfl rfl (by decide) rfl rfl ?_
    refine jx_ld (pc_q := 56) (l_q := [(0, .ref 66), (1, .int (i32 (a)))]) (st_q := [.int (i32 (a)), .ref 84, .ref 82]) rfl (jl_iloadn rfl) ?_
    refine jr_ldv (pc_q := 57) (i := 17) (m := 7000) (z := a) (y := T0 17 (a).toNat) rfl (by decide) rfl (by decide) (by omega) (by omega) rfl (show A7 17 (a).toNat = T0 17 (a).toNat from (congrFun ((hF10.2 17 rfl).trans (p_0 17 rfl)) _)) ?_
    have b17 : (0 : Int) ≤ T0 15 (T0 17 (a).toNat).toNat ∧ T0 15 (T0 17 (a).toNat).toNat ≤ 34 := hWT.2 15 _
    refine jr_ldv (pc_q := 58) (i := 15) (m := 7000) (z := T0 17 (a).toNat) (y := T0 15 (T0 17 (a).toNat).toNat) rfl (by decide) rfl (by decide) (by omega) (by omega) rfl (show A7 15 (T0 17 (a).toNat).toNat = T0 15 (T0 17 (a).toNat).toNat from (congrFun ((hF10.2 15 rfl).trans (p_0 15 rfl)) _)) ?_
    refine jx_ar (pc_q := 59) (st_q := [.int (i32 (3)), .int (i32 (T0 15 (T0 17 (a).toNat).toNat))]) rfl rfl rfl rfl ?_
    refine jx_icmp_ne (pc_q := 62) (tg := 77) rfl rfl rfl (Int.le_trans (by decide : (-2147483648 : Int) ≤ 0) b17.1) (Int.le_trans b17.2 (by decide : (34 : Int) ≤ 2147483647)) (by decide) (by decide) (fun h18 => ?_) (fun h18 => ?_)
    · have _q := h18
      refine jx_rt (v := none) rfl rfl rfl rfl rfl rfl ?_
      exact ⟨_, _, us2_8, rfl, rfl, hW9, hF16, (e11), by omega, p13, (ua_r (by omega) (by omega) (by rw [hbu.1] at p14; exact p14)), trivial⟩
    · have _q := h18
      have hqe := (pX_i3 hqp (by omega)).2; have hqk := wE_in hqe
      refine jx_ld (pc_q := 63) (l_q := [(0, .ref 66), (1, .int (i32 (a)))]) (st_q := [.ref 66]) rfl (jl_aloadn rfl) ?_
      refine jx_ld (pc_q := 64) (l_q := [(0, .ref 66), (1, .int (i32 (a)))]) (st_q := [.ref 66, .ref 66]) rfl (jl_aloadn rfl) ?_
      refine jr_get (pc_q := 67) (i := 35) (v := .ref 85) rfl rfl (by decide) rfl rfl ?_
      refine jx_ld (pc_q := 68) (l_q := [(0, .ref 66), (1, .int (i32 (a)))]) (st_q := [.ref 66, .ref 85, .ref 66]) rfl (jl_aloadn rfl) ?_
      refine jr_get (pc_q := 71) (i := 34) (v := .ref 84) rfl rfl (by decide) rfl rfl ?_
      refine jx_ld (pc_q := 72) (l_q := [(0, .ref 66), (1, .int (i32 (a)))]) (st_q := [.int (i32 (a)), .ref 84, .ref 85, .ref 66]) rfl (jl_iloadn rfl) ?_
      refine jr_ldv (pc_q := 73) (i := 17) (m := 7000) (z := a) (y := T0 17 (a).toNat) rfl (by decide) rfl (by decide) (by omega) (by omega) rfl (show A7 17 (a).toNat = T0 17 (a).toNat from (congrFun ((hF10.2 17 rfl).trans (p_0 17 rfl)) _)) ?_
      have b19 : (-2147483648 : Int) ≤ T0 18 (T0 17 (a).toNat).toNat ∧ T0 18 (T0 17 (a).toNat).toNat ≤ 2147483647 := hWT.2 18 _
      refine jr_ldv (pc_q := 74) (i := 18) (m := 7000) (z := T0 17 (a).toNat) (y := T0 18 (T0 17 (a).toNat).toNat) rfl (by decide) rfl (by decide) (by omega) (by omega) rfl (show A7 18 (T0 17 (a).toNat).toNat = T0 18 (T0 17 (a).toNat).toNat from (congrFun ((hF10.2 18 rfl).trans (p_0 18 rfl)) _)) ?_
      refine jx_vr (pc_q := 77) (as := [.int (i32 (T0 18 (T0 17 (a).toNat).toNat))]) (st := []) rfl rfl rfl rfl ⟨rfl, rfl, Nat.le_of_ble_eq_true rfl⟩ rfl rfl (c_useE_h (dd := d) (hd := by omega) (hW := hW9) (e := T0 18 (T0 17 (a).toNat).toNat) (k := 20) (lo := lo) (hi := T0 17 (a).toNat) (uf := uf) (e_uf := show G6 62 = uf from ((hF10.1 62 rfl).trans (e_uf))) (us := us2_8) (e_us := show G6 61 = us2_8 from (e11))  (h_e := ⟨(Int.le_trans (by decide : (-2147483648 : Int) ≤ -2147483648) b19.1), (Int.le_trans b19.2 (by decide : (2147483647 : Int) ≤ 2147483647))⟩)  (p_0 := (TA_fr hF16 (by decide) p_0)) (p_1 := by omega) (p_2 := by omega) (p_3 := by omega) (p_4 := by omega) (p_5 := by omega) (p_6 := by omega) (p_7 := p13) (p_8 := p_8) (p_9 := (wE_mono (by omega) (by omega) (by omega) hqe)) (p_10 := by omega) (p_11 := (SA_fr2 (show A7 13 = A 13 from (hF10.2 13 rfl)) p_14)) (p_12 := (hza.2 (by omega)))) (fun o V_q hq => ?_)
      obtain ⟨G20, A21, us2_22, rfl, rfl, hW23, hF24, e25, p26, p27, p28, -⟩ := hq
      have hF30 := Fr_tr hF16 hF24 (Fr_sub (by decide)) (Fr_sub (by decide))
      have bus2_22 : (-2147483648 : Int) ≤ us2_22 ∧ us2_22 ≤ 2147483647 := e25 ▸ hW23.1 61
      refine .inl ⟨rfl, ?_⟩
      refine jx_rt (v := none) rfl rfl rfl rfl rfl rfl ?_
      exact ⟨_, _, us2_22, rfl, rfl, hW23, hF30, (e25), by omega, p27, (ua_3 (by omega) (by omega) (by omega) (by rw [hbu.1] at p14; exact p14) p28), trivial⟩
  · have _q := h3
    have hqe := p_9.1 (by omega); have hza := p_16.1 (by omega); have hqi := wE_in hqe
    refine jx_ld (pc_q := 16) (l_q := [(0, .ref 66), (1, .int (i32 (a)))]) (st_q := [.ref 66]) rfl (jl_aloadn rfl) ?_
    refine jx_ld (pc_q := 17) (l_q := [(0, .ref 66), (1, .int (i32 (a)))]) (st_q := [.ref 66, .ref 66]) rfl (jl_aloadn rfl) ?_
    refine jr_get (pc_q := 20) (i := 34) (v := .ref 84) rfl rfl (by decide) rfl rfl ?_
    refine jx_ld (pc_q := 21) (l_q := [(0, .ref 66), (1, .int (i32 (a)))]) (st_q := [.int (i32 (a)), .ref 84, .ref 66]) rfl (jl_iloadn rfl) ?_
    have b31 : (-2147483648 : Int) ≤ T0 17 (a).toNat ∧ T0 17 (a).toNat ≤ 2147483647 := hWT.2 17 _
    refine jr_ldv (pc_q := 22) (i := 17) (m := 7000) (z := a) (y := T0 17 (a).toNat) rfl (by decide) rfl (by decide) (by omega) (by omega) rfl (show A 17 (a).toNat = T0 17 (a).toNat from (congrFun (p_0 17 rfl) _)) ?_
    refine jx_vr (pc_q := 25) (as := [.int (i32 (T0 17 (a).toNat))]) (st := []) rfl rfl rfl rfl ⟨rfl, rfl, Nat.le_of_ble_eq_true rfl⟩ rfl rfl (c_useE_h (dd := d) (hd := by omega) (hW := hW) (e := T0 17 (a).toNat) (k := 20) (lo := lo) (hi := hi) (uf := uf) (e_uf := show G 62 = uf from (e_uf)) (us := us) (e_us := show G 61 = us from (e_us))  (h_e := ⟨(Int.le_trans (by decide : (-2147483648 : Int) ≤ -2147483648) b31.1), (Int.le_trans b31.2 (by decide : (2147483647 : Int) ≤ 2147483647))⟩)  (p_0 := p_0) (p_1 := by omega) (p_2 := by omega) (p_3 := by omega) (p_4 := by omega) (p_5 := by omega) (p_6 := by omega) (p_7 := p_7) (p_8 := p_8) (p_9 := (wE_mono (by omega) (by omega) (by omega) hqe)) (p_10 := by omega) (p_11 := p_14) (p_12 := hza)) (fun o V_q hq => ?_)
    obtain ⟨G32, A33, us2_34, rfl, rfl, hW35, hF36, e37, p38, p39, p40, -⟩ := hq
    have hF42 := Fr_tr hF0 hF36 (Fr_sub (by decide)) (Fr_sub (by decide))
    have bus2_34 : (-2147483648 : Int) ≤ us2_34 ∧ us2_34 ≤ 2147483647 := e37 ▸ hW35.1 61
    refine .inl ⟨rfl, ?_⟩
    refine jx_rt (v := none) rfl rfl rfl rfl rfl rfl ?_
    exact ⟨_, _, us2_34, rfl, rfl, hW35, hF42, (e37), by omega, p39, (ua_5 (by omega) p40), trivial⟩
def UA (X : jX) (k : Nat) : Prop := ∀ ⦃dd : Nat⦄ ⦃T0 : Nat → Nat → Int⦄ ⦃Sn Bu : Int → Int⦄ ⦃Vs : Nat → Prop⦄ ⦃sb pb M : Int⦄ ⦃Fm : Int → Int → Int → Prop⦄ ⦃c0 c1 : jC⦄ ⦃G : Nat → Int⦄ ⦃A : Nat → Nat → Int⦄ ⦃T : jH⦄ ⦃p : Int⦄ ⦃lo hi s0 s1 : Int⦄ ⦃uf us : Int⦄ (hd : 2 * k + 70 ≤ dd) (hW : Wk G A) (e_uf : G 62 = uf) (e_us : G 61 = us) (h_p : (-2147483648 : Int) ≤ p ∧ p ≤ 2147483647) (p_0 : TA T0 A) (p_1 : 0 ≤ lo) (p_2 : hi ≤ 6999) (p_3 : sb ≤ 202) (p_4 : 0 ≤ uf) (p_5 : uf ≤ us) (p_6 : uf + M ≤ 59999) (p_7 : UI Fm A (uf) (us)) (p_8 : Fbd Fm M) (p_9 : 0 ≤ s0) (p_10 : s1 ≤ sb) (p_11 : wP T0 sb pb (k) (Vs) (p) (lo) (hi) (s0) (s1)) (p_12 : VB (Vs) (s0)) (p_13 : SA T0 Vs Sn A) (p_14 : BUr T0 Bu pb A) (p_15 : vP T0 Bu (k) Sn (fun s al e _ => Fm s al e) (p)), wk X dd 329 [.ref 66, .int (i32 p)] (rV c0 c1 G A T) (fun o V_q => ∃ (G_q : Nat → Int) (A_q : Nat → Nat → Int) (us2 : Int), V_q = rV c0 c1 G_q A_q T ∧ o = .inl none ∧ Wk G_q A_q ∧ Fr [61] [13, 39, 40, 41, 42] G A G_q A_q ∧ G_q 61 = us2 ∧ (us ≤ us2) ∧ (UI Fm A_q (uf) (us2)) ∧ (SA T0 Vs Sn A_q) ∧ (UX A A_q (uf) (us) (us2) (fun Q => vP T0 Bu (k) Sn Q (p))) ∧ True)
set_option maxRecDepth 20000 in
set_option maxHeartbeats 4000000 in
theorem c_useChoice {X : jX} {k : Nat} (hA : UA X k) {dd : Nat} {T0 : Nat → Nat → Int} {Sn Bu : Int → Int} {Vs : Nat → Prop} {sb pb M : Int} {Fm : Int → Int → Int → Prop} {c0 c1 : jC} {G : Nat → Int} {A : Nat → Nat → Int} {T : jH} {c : Int} {lo hi s0 s1 : Int} {uf us : Int} (hd : 2 * k + 71 ≤ dd) (hW : Wk G A) (e_uf : G 62 = uf) (e_us : G 61 = us) (h_c : (-2147483648 : Int) ≤ c ∧ c ≤ 2147483647) (p_0 : TA T0 A) (p_1 : 0 ≤ lo) (p_2 : hi ≤ 6999) (p_3 : sb ≤ 202) (p_4 : 0 ≤ uf) (p_5 : uf ≤ us) (p_6 : uf + M ≤ 59999) (p_7 : UI Fm A (uf) (us)) (p_8 : Fbd Fm M) (p_9 : 0 ≤ s0) (p_10 : s1 ≤ sb) (p_11 : chT T0 sb pb k Vs (c) (lo) (hi) (s0) (s1)) (p_12 : VB (Vs) (s0)) (p_13 : SA T0 Vs Sn A) (p_14 : BUr T0 Bu pb A) (p_15 : cU T0 (Rf Sn) (vP T0 Bu k Sn) (fun s al e _ => Fm s al e) (c)) : wk X dd 330 [.ref 66, .int (i32 c)] (rV c0 c1 G A T) (fun o V_q => ∃ (G_q : Nat → Int) (A_q : Nat → Nat → Int) (us2 : Int), V_q = rV c0 c1 G_q A_q T ∧ o = .inl none ∧ Wk G_q A_q ∧ Fr [61] [13, 39, 40, 41, 42] G A G_q A_q ∧ G_q 61 = us2 ∧ (us ≤ us2) ∧ (UI Fm A_q (uf) (us2)) ∧ (SA T0 Vs Sn A_q) ∧ (UX A A_q (uf) (us) (us2) (fun Q => cU T0 (Rf Sn) (vP T0 Bu k Sn) Q (c))) ∧ True) := by
  obtain ⟨d, rfl⟩ : ∃ d, dd = d + 1 := ⟨dd - 1, by omega⟩
  refine wk_of (e := jm330) rfl (Nat.le_of_ble_eq_true rfl) ?_
  show wj X d jm330 (0, [(0, .ref 66), (1, .int (i32 (c)))], [], rV c0 c1 G A T) _
  have hF0 : Fr [61] [13, 39, 40, 41, 42] G A G A := Fr_rf
  have b_uf : (-2147483648 : Int) ≤ uf ∧ uf ≤ 2147483647 := e_uf ▸ hW.1 62
  have b_us : (-2147483648 : Int) ≤ us ∧ us ≤ 2147483647 := e_us ▸ hW.1 61
  have hWT := TA_w hW p_0
  obtain ⟨hck, hcl, fm, hcm, hcn, hcf0⟩ := ch_k p_11
  refine jx_ld (pc_q := 1) (l_q := [(0, .ref 66), (1, .int (i32 (c)))]) (st_q := [.ref 66]) rfl (jl_aloadn rfl) ?_
  refine jr_get (pc_q := 4) (i := 34) (v := .ref 84) rfl rfl (by decide) rfl rfl ?_
  refine jx_ld (pc_q := 5) (l_q := [(0, .ref 66), (1, .int (i32 (c)))]) (st_q := [.int (i32 (c)), .ref 84]) rfl (jl_iloadn rfl) ?_
  have b1 : (-2147483648 : Int) ≤ T0 17 (c).toNat ∧ T0 17 (c).toNat ≤ 2147483647 := hWT.2 17 _
  refine jr_ldv (pc_q := 6) (i := 17) (m := 7000) (z := c) (y := T0 17 (c).toNat) rfl (by decide) rfl (by decide) (by omega) (by omega) rfl (show A 17 (c).toNat = T0 17 (c).toNat from (congrFun (p_0 17 rfl) _)) ?_
  refine jx_if_le (pc_q := 9) (tg := 19) rfl rfl rfl (Int.le_trans (by decide : (-2147483648 : Int) ≤ -2147483648) b1.1) (Int.le_trans b1.2 (by decide : (2147483647 : Int) ≤ 2147483647)) (fun h2 => ?_) (fun h2 => ?_)
  · have _q := h2
    refine jx_ld (pc_q := 20) (l_q := [(0, .ref 66), (1, .int (i32 (c)))]) (st_q := [.ref 66]) rfl (jl_aloadn rfl) ?_
    refine jr_get (pc_q := 23) (i := 32) (v := .ref 82) rfl rfl (by decide) rfl rfl ?_
    refine jx_ld (pc_q := 24) (l_q := [(0, .ref 66), (1, .int (i32 (c)))]) (st_q := [.int (i32 (c)), .ref 82]) rfl (jl_iloadn rfl) ?_
    have b3 : (0 : Int) ≤ T0 15 (c).toNat ∧ T0 15 (c).toNat ≤ 34 := hWT.2 15 _
    refine jr_ldv (pc_q := 25) (i := 15) (m := 7000) (z := c) (y := T0 15 (c).toNat) rfl (by decide) rfl (by decide) (by omega) (by omega) rfl (show A 15 (c).toNat = T0 15 (c).toNat from (congrFun (p_0 15 rfl) _)) ?_
    refine jx_ar (pc_q := 27) (st_q := [.int (i32 (33)), .int (i32 (T0 15 (c).toNat))]) rfl rfl rfl rfl ?_
    refine jx_icmp_ne (pc_q := 30) (tg := 62) rfl rfl rfl (Int.le_trans (by decide : (-2147483648 : Int) ≤ 0) b3.1) (Int.le_trans b3.2 (by decide : (34 : Int) ≤ 2147483647)) (by decide) (by decide) (fun h4 => ?_) (fun h4 => ?_)
    · have _q := h4
      have hcf := hcf0; have hzf := p_15.2.2
      refine jx_ld (pc_q := 63) (l_q := [(0, .ref 66), (1, .int (i32 (c)))]) (st_q := [.ref 66]) rfl (jl_aloadn rfl) ?_
      refine jx_ld (pc_q := 64) (l_q := [(0, .ref 66), (1, .int (i32 (c)))]) (st_q := [.ref 66, .ref 66]) rfl (jl_aloadn rfl) ?_
      refine jr_get (pc_q := 67) (i := 38) (v := .ref 88) rfl rfl (by decide) rfl rfl ?_
      refine jx_ld (pc_q := 68) (l_q := [(0, .ref 66), (1, .int (i32 (c)))]) (st_q := [.int (i32 (c)), .ref 88, .ref 66]) rfl (jl_iloadn rfl) ?_
      have b5 : (-2147483648 : Int) ≤ T0 21 (c).toNat ∧ T0 21 (c).toNat ≤ 2147483647 := hWT.2 21 _
      refine jr_ldv (pc_q := 69) (i := 21) (m := 7000) (z := c) (y := T0 21 (c).toNat) rfl (by decide) rfl (by decide) (by omega) (by omega) rfl (show A 21 (c).toNat = T0 21 (c).toNat from (congrFun (p_0 21 rfl) _)) ?_
      refine jx_vr (pc_q := 72) (as := [.int (i32 (T0 21 (c).toNat))]) (st := []) rfl rfl rfl rfl ⟨rfl, rfl, Nat.le_of_ble_eq_true rfl⟩ rfl rfl (hA (dd := d) (hd := by omega) (hW := hW) (p := T0 21 (c).toNat) (lo := fm) (hi := hi) (s0 := s0) (s1 := s1) (uf := uf) (e_uf := show G 62 = uf from (e_uf)) (us := us) (e_us := show G 61 = us from (e_us))  (h_p := ⟨(Int.le_trans (by decide : (-2147483648 : Int) ≤ -2147483648) b5.1), (Int.le_trans b5.2 (by decide : (2147483647 : Int) ≤ 2147483647))⟩)  (p_0 := p_0) (p_1 := by omega) (p_2 := by omega) (p_3 := by omega) (p_4 := by omega) (p_5 := by omega) (p_6 := by omega) (p_7 := p_7) (p_8 := p_8) (p_9 := by omega) (p_10 := by omega) (p_11 := hcf) (p_12 := p_12) (p_13 := p_13) (p_14 := p_14) (p_15 := hzf)) (fun o V_q hq => ?_)
      obtain ⟨G6, A7, us2_8, rfl, rfl, hW9, hF10, e11, p12, p13, p14, p15, -⟩ := hq
      have hF17 := Fr_tr hF0 hF10 (Fr_sub (by decide)) (Fr_sub (by decide))
      have bus2_8 : (-2147483648 : Int) ≤ us2_8 ∧ us2_8 ≤ 2147483647 := e11 ▸ hW9.1 61
      refine .inl ⟨rfl, ?_⟩
      refine jx_rt (v := none) rfl rfl rfl rfl rfl rfl ?_
      exact ⟨_, _, us2_8, rfl, rfl, hW9, hF17, (e11), by omega, p13, p14, (uc_mk (by omega) (ux_no (by omega)) (ux_no (by omega)) p15), trivial⟩
    · have _q := h4
      refine jx_ld (pc_q := 31) (l_q := [(0, .ref 66), (1, .int (i32 (c)))]) (st_q := [.ref 66]) rfl (jl_aloadn rfl) ?_
      refine jr_get (pc_q := 34) (i := 35) (v := .ref 85) rfl rfl (by decide) rfl rfl ?_
      refine jx_ld (pc_q := 35) (l_q := [(0, .ref 66), (1, .int (i32 (c)))]) (st_q := [.int (i32 (c)), .ref 85]) rfl (jl_iloadn rfl) ?_
      have b18 : (-2147483648 : Int) ≤ T0 18 (c).toNat ∧ T0 18 (c).toNat ≤ 2147483647 := hWT.2 18 _
      refine jr_ldv (pc_q := 36) (i := 18) (m := 7000) (z := c) (y := T0 18 (c).toNat) rfl (by decide) rfl (by decide) (by omega) (by omega) rfl (show A 18 (c).toNat = T0 18 (c).toNat from (congrFun (p_0 18 rfl) _)) ?_
      refine jx_if_le (pc_q := 39) (tg := 62) rfl rfl rfl (Int.le_trans (by decide : (-2147483648 : Int) ≤ -2147483648) b18.1) (Int.le_trans b18.2 (by decide : (2147483647 : Int) ≤ 2147483647)) (fun h19 => ?_) (fun h19 => ?_)
      · have _q := h19
        have hcf := hcf0; have hzf := p_15.2.2
        refine jx_ld (pc_q := 63) (l_q := [(0, .ref 66), (1, .int (i32 (c)))]) (st_q := [.ref 66]) rfl (jl_aloadn rfl) ?_
        refine jx_ld (pc_q := 64) (l_q := [(0, .ref 66), (1, .int (i32 (c)))]) (st_q := [.ref 66, .ref 66]) rfl (jl_aloadn rfl) ?_
        refine jr_get (pc_q := 67) (i := 38) (v := .ref 88) rfl rfl (by decide) rfl rfl ?_
        refine jx_ld (pc_q := 68) (l_q := [(0, .ref 66), (1, .int (i32 (c)))]) (st_q := [.int (i32 (c)), .ref 88, .ref 66]) rfl (jl_iloadn rfl) ?_
        have b20 : (-2147483648 : Int) ≤ T0 21 (c).toNat ∧ T0 21 (c).toNat ≤ 2147483647 := hWT.2 21 _
        refine jr_ldv (pc_q := 69) (i := 21) (m := 7000) (z := c) (y := T0 21 (c).toNat) rfl (by decide) rfl (by decide) (by omega) (by omega) rfl (show A 21 (c).toNat = T0 21 (c).toNat from (congrFun (p_0 21 rfl) _)) ?_
        refine jx_vr (pc_q := 72) (as := [.int (i32 (T0 21 (c).toNat))]) (st := []) rfl rfl rfl rfl ⟨rfl, rfl, Nat.le_of_ble_eq_true rfl⟩ rfl rfl (hA (dd := d) (hd := by omega) (hW := hW) (p := T0 21 (c).toNat) (lo := fm) (hi := hi) (s0 := s0) (s1 := s1) (uf := uf) (e_uf := show G 62 = uf from (e_uf)) (us := us) (e_us := show G 61 = us from (e_us))  (h_p := ⟨(Int.le_trans (by decide : (-2147483648 : Int) ≤ -2147483648) b20.1), (Int.le_trans b20.2 (by decide : (2147483647 : Int) ≤ 2147483647))⟩)  (p_0 := p_0) (p_1 := by omega) (p_2 := by omega) (p_3 := by omega) (p_4 := by omega) (p_5 := by omega) (p_6 := by omega) (p_7 := p_7) (p_8 := p_8) (p_9 := by omega) (p_10 := by omega) (p_11 := hcf) (p_12 := p_12) (p_13 := p_13) (p_14 := p_14) (p_15 := hzf)) (fun o V_q hq => ?_)
        obtain ⟨G21, A22, us2_23, rfl, rfl, hW24, hF25, e26, p27, p28, p29, p30, -⟩ := hq
        have hF32 := Fr_tr hF0 hF25 (Fr_sub (by decide)) (Fr_sub (by decide))
        have bus2_23 : (-2147483648 : Int) ≤ us2_23 ∧ us2_23 ≤ 2147483647 := e26 ▸ hW24.1 61
        refine .inl ⟨rfl, ?_⟩
        refine jx_rt (v := none) rfl rfl rfl rfl rfl rfl ?_
        exact ⟨_, _, us2_23, rfl, rfl, hW24, hF32, (e26), by omega, p28, p29, (uc_mk (by omega) (ux_no (by omega)) (ux_no (by omega)) p30), trivial⟩
      · have _q := h19
        obtain ⟨ra, rb, rm, hr1, hr2, hr3, hr4, hr5, hr6⟩ := ch_r p_11 (by omega) (by omega); have hzr := p_15.2.1 (by omega) (by omega); have hqr := hr5.1; have hqs := hr5.2.1; have hqt := hr6.1; have hqu := hr6.2.1
        refine jx_ld (pc_q := 40) (l_q := [(0, .ref 66), (1, .int (i32 (c)))]) (st_q := [.ref 66]) rfl (jl_aloadn rfl) ?_
        refine jx_ld (pc_q := 41) (l_q := [(0, .ref 66), (1, .int (i32 (c)))]) (st_q := [.ref 66, .ref 66]) rfl (jl_aloadn rfl) ?_
        refine jr_get (pc_q := 44) (i := 35) (v := .ref 85) rfl rfl (by decide) rfl rfl ?_
        refine jx_ld (pc_q := 45) (l_q := [(0, .ref 66), (1, .int (i32 (c)))]) (st_q := [.int (i32 (c)), .ref 85, .ref 66]) rfl (jl_iloadn rfl) ?_
        refine jr_ldv (pc_q := 46) (i := 18) (m := 7000) (z := c) (y := T0 18 (c).toNat) rfl (by decide) rfl (by decide) (by omega) (by omega) rfl (show A 18 (c).toNat = T0 18 (c).toNat from (congrFun (p_0 18 rfl) _)) ?_
        refine jx_ar (pc_q := 48) (st_q := [.int (i32 (8)), .int (i32 (T0 18 (c).toNat)), .ref 66]) rfl rfl rfl rfl ?_
        refine jx_vr (pc_q := 51) (as := [.int (i32 (T0 18 (c).toNat)), .int (i32 (8))]) (st := []) rfl rfl rfl rfl ⟨rfl, rfl, Nat.le_of_ble_eq_true rfl⟩ rfl rfl (c_useReference_h (dd := d) (hd := by omega) (hW := hW) (x := T0 18 (c).toNat) (dn := 8) (k := 20) (lo := ra) (hi := rb) (uf := uf) (e_uf := show G 62 = uf from (e_uf)) (us := us) (e_us := show G 61 = us from (e_us))  (h_x := ⟨(Int.le_trans (by decide : (-2147483648 : Int) ≤ -2147483648) b18.1), (Int.le_trans b18.2 (by decide : (2147483647 : Int) ≤ 2147483647))⟩) (h_dn := ⟨(by decide), (by decide)⟩)  (p_0 := p_0) (p_1 := by omega) (p_2 := by omega) (p_3 := by omega) (p_4 := by omega) (p_5 := by omega) (p_6 := by omega) (p_7 := p_7) (p_8 := p_8) (p_9 := (qX_pX (pX_wR hr5))) (p_10 := by omega) (p_11 := by omega) (p_12 := by omega) (p_13 := p_13) (p_14 := hzr.1)) (fun o V_q hq => ?_)
        obtain ⟨G33, A34, us2_35, rfl, rfl, hW36, hF37, e38, p39, p40, p41, -⟩ := hq
        have hF43 := Fr_tr hF0 hF37 (Fr_sub (by decide)) (Fr_sub (by decide))
        have bus2_35 : (-2147483648 : Int) ≤ us2_35 ∧ us2_35 ≤ 2147483647 := e38 ▸ hW36.1 61
        refine .inl ⟨rfl, ?_⟩
        refine jx_ld (pc_q := 52) (l_q := [(0, .ref 66), (1, .int (i32 (c)))]) (st_q := [.ref 66]) rfl (jl_aloadn rfl) ?_
        refine jx_ld (pc_q := 53) (l_q := [(0, .ref 66), (1, .int (i32 (c)))]) (st_q := [.ref 66, .ref 66]) rfl (jl_aloadn rfl) ?_
        refine jr_get (pc_q := 56) (i := 36) (v := .ref 86) rfl rfl (by decide) rfl rfl ?_
        refine jx_ld (pc_q := 57) (l_q := [(0, .ref 66), (1, .int (i32 (c)))]) (st_q := [.int (i32 (c)), .ref 86, .ref 66]) rfl (jl_iloadn rfl) ?_
        have b44 : (-2147483648 : Int) ≤ T0 19 (c).toNat ∧ T0 19 (c).toNat ≤ 2147483647 := hWT.2 19 _
        refine jr_ldv (pc_q := 58) (i := 19) (m := 7000) (z := c) (y := T0 19 (c).toNat) rfl (by decide) rfl (by decide) (by omega) (by omega) rfl (show A34 19 (c).toNat = T0 19 (c).toNat from (congrFun ((hF37.2 19 rfl).trans (p_0 19 rfl)) _)) ?_
        refine jx_ar (pc_q := 59) (st_q := [.int (i32 (2)), .int (i32 (T0 19 (c).toNat)), .ref 66]) rfl rfl rfl rfl ?_
        refine jx_vr (pc_q := 62) (as := [.int (i32 (T0 19 (c).toNat)), .int (i32 (2))]) (st := []) rfl rfl rfl rfl ⟨rfl, rfl, Nat.le_of_ble_eq_true rfl⟩ rfl rfl (c_useReference_h (dd := d) (hd := by omega) (hW := hW36) (x := T0 19 (c).toNat) (dn := 2) (k := 20) (lo := rb) (hi := rm) (uf := uf) (e_uf := show G33 62 = uf from ((hF37.1 62 rfl).trans (e_uf))) (us := us2_35) (e_us := show G33 61 = us2_35 from (e38))  (h_x := ⟨(Int.le_trans (by decide : (-2147483648 : Int) ≤ -2147483648) b44.1), (Int.le_trans b44.2 (by decide : (2147483647 : Int) ≤ 2147483647))⟩) (h_dn := ⟨(by decide), (by decide)⟩)  (p_0 := (TA_fr hF43 (by decide) p_0)) (p_1 := by omega) (p_2 := by omega) (p_3 := by omega) (p_4 := by omega) (p_5 := by omega) (p_6 := by omega) (p_7 := p40) (p_8 := p_8) (p_9 := (qX_pX (pX_wR hr6))) (p_10 := by omega) (p_11 := by omega) (p_12 := by omega) (p_13 := (SA_fr2 (show A34 13 = A 13 from (hF37.2 13 rfl)) p_13)) (p_14 := hzr.2)) (fun o V_q hq => ?_)
        obtain ⟨G45, A46, us2_47, rfl, rfl, hW48, hF49, e50, p51, p52, p53, -⟩ := hq
        have hF55 := Fr_tr hF43 hF49 (Fr_sub (by decide)) (Fr_sub (by decide))
        have bus2_47 : (-2147483648 : Int) ≤ us2_47 ∧ us2_47 ≤ 2147483647 := e50 ▸ hW48.1 61
        refine .inl ⟨rfl, ?_⟩
        have hcf := hcf0; have hzf := p_15.2.2
        refine jx_ld (pc_q := 63) (l_q := [(0, .ref 66), (1, .int (i32 (c)))]) (st_q := [.ref 66]) rfl (jl_aloadn rfl) ?_
        refine jx_ld (pc_q := 64) (l_q := [(0, .ref 66), (1, .int (i32 (c)))]) (st_q := [.ref 66, .ref 66]) rfl (jl_aloadn rfl) ?_
        refine jr_get (pc_q := 67) (i := 38) (v := .ref 88) rfl rfl (by decide) rfl rfl ?_
        refine jx_ld (pc_q := 68) (l_q := [(0, .ref 66), (1, .int (i32 (c)))]) (st_q := [.int (i32 (c)), .ref 88, .ref 66]) rfl (jl_iloadn rfl) ?_
        have b56 : (-2147483648 : Int) ≤ T0 21 (c).toNat ∧ T0 21 (c).toNat ≤ 2147483647 := hWT.2 21 _
        refine jr_ldv (pc_q := 69) (i := 21) (m := 7000) (z := c) (y := T0 21 (c).toNat) rfl (by decide) rfl (by decide) (by omega) (by omega) rfl (show A46 21 (c).toNat = T0 21 (c).toNat from (congrFun ((hF49.2 21 rfl).trans ((hF37.2 21 rfl).trans (p_0 21 rfl))) _)) ?_
        refine jx_vr (pc_q := 72) (as := [.int (i32 (T0 21 (c).toNat))]) (st := []) rfl rfl rfl rfl ⟨rfl, rfl, Nat.le_of_ble_eq_true rfl⟩ rfl rfl (hA (dd := d) (hd := by omega) (hW := hW48) (p := T0 21 (c).toNat) (lo := fm) (hi := hi) (s0 := s0) (s1 := s1) (uf := uf) (e_uf := show G45 62 = uf from ((hF49.1 62 rfl).trans ((hF37.1 62 rfl).trans (e_uf)))) (us := us2_47) (e_us := show G45 61 = us2_47 from (e50))  (h_p := ⟨(Int.le_trans (by decide : (-2147483648 : Int) ≤ -2147483648) b56.1), (Int.le_trans b56.2 (by decide : (2147483647 : Int) ≤ 2147483647))⟩)  (p_0 := (TA_fr hF55 (by decide) p_0)) (p_1 := by omega) (p_2 := by omega) (p_3 := by omega) (p_4 := by omega) (p_5 := by omega) (p_6 := by omega) (p_7 := p52) (p_8 := p_8) (p_9 := by omega) (p_10 := by omega) (p_11 := hcf) (p_12 := p_12) (p_13 := (SA_fr2 (show A46 13 = A 13 from ((hF49.2 13 rfl).trans (hF37.2 13 rfl))) p_13)) (p_14 := (BU_fr (show A46 11 = A 11 from ((hF49.2 11 rfl).trans (hF37.2 11 rfl))) p_14)) (p_15 := hzf)) (fun o V_q hq => ?_)
        obtain ⟨G57, A58, us2_59, rfl, rfl, hW60, hF61, e62, p63, p64, p65, p66, -⟩ := hq
        have hF68 := Fr_tr hF55 hF61 (Fr_sub (by decide)) (Fr_sub (by decide))
        have bus2_59 : (-2147483648 : Int) ≤ us2_59 ∧ us2_59 ≤ 2147483647 := e62 ▸ hW60.1 61
        refine .inl ⟨rfl, ?_⟩
        refine jx_rt (v := none) rfl rfl rfl rfl rfl rfl ?_
        exact ⟨_, _, us2_59, rfl, rfl, hW60, hF68, (e62), by omega, p64, p65, (uc_mk (by omega) (ux_no (by omega)) (ux_if ⟨by omega, by omega⟩ (UX_t (by omega) (rU_mon (fun _ => eU_mon)) p41 p53)) p66), trivial⟩
  · have _q := h2
    obtain ⟨ea, eb, hea, heb, hqe⟩ := ch_e p_11 (by omega); have hze := p_15.1 (by omega); have hqi := wE_in hqe
    refine jx_ld (pc_q := 10) (l_q := [(0, .ref 66), (1, .int (i32 (c)))]) (st_q := [.ref 66]) rfl (jl_aloadn rfl) ?_
    refine jx_ld (pc_q := 11) (l_q := [(0, .ref 66), (1, .int (i32 (c)))]) (st_q := [.ref 66, .ref 66]) rfl (jl_aloadn rfl) ?_
    refine jr_get (pc_q := 14) (i := 34) (v := .ref 84) rfl rfl (by decide) rfl rfl ?_
    refine jx_ld (pc_q := 15) (l_q := [(0, .ref 66), (1, .int (i32 (c)))]) (st_q := [.int (i32 (c)), .ref 84, .ref 66]) rfl (jl_iloadn rfl) ?_
    refine jr_ldv (pc_q := 16) (i := 17) (m := 7000) (z := c) (y := T0 17 (c).toNat) rfl (by decide) rfl (by decide) (by omega) (by omega) rfl (show A 17 (c).toNat = T0 17 (c).toNat from (congrFun (p_0 17 rfl) _)) ?_
    refine jx_vr (pc_q := 19) (as := [.int (i32 (T0 17 (c).toNat))]) (st := []) rfl rfl rfl rfl ⟨rfl, rfl, Nat.le_of_ble_eq_true rfl⟩ rfl rfl (c_useE_h (dd := d) (hd := by omega) (hW := hW) (e := T0 17 (c).toNat) (k := 22) (lo := ea) (hi := eb) (uf := uf) (e_uf := show G 62 = uf from (e_uf)) (us := us) (e_us := show G 61 = us from (e_us))  (h_e := ⟨(Int.le_trans (by decide : (-2147483648 : Int) ≤ -2147483648) b1.1), (Int.le_trans b1.2 (by decide : (2147483647 : Int) ≤ 2147483647))⟩)  (p_0 := p_0) (p_1 := by omega) (p_2 := by omega) (p_3 := by omega) (p_4 := by omega) (p_5 := by omega) (p_6 := by omega) (p_7 := p_7) (p_8 := p_8) (p_9 := (wE_mono (by omega) (by omega) (by omega) hqe)) (p_10 := by omega) (p_11 := p_13) (p_12 := hze)) (fun o V_q hq => ?_)
    obtain ⟨G69, A70, us2_71, rfl, rfl, hW72, hF73, e74, p75, p76, p77, -⟩ := hq
    have hF79 := Fr_tr hF0 hF73 (Fr_sub (by decide)) (Fr_sub (by decide))
    have bus2_71 : (-2147483648 : Int) ≤ us2_71 ∧ us2_71 ≤ 2147483647 := e74 ▸ hW72.1 61
    refine .inl ⟨rfl, ?_⟩
    refine jx_ld (pc_q := 20) (l_q := [(0, .ref 66), (1, .int (i32 (c)))]) (st_q := [.ref 66]) rfl (jl_aloadn rfl) ?_
    refine jr_get (pc_q := 23) (i := 32) (v := .ref 82) rfl rfl (by decide) rfl rfl ?_
    refine jx_ld (pc_q := 24) (l_q := [(0, .ref 66), (1, .int (i32 (c)))]) (st_q := [.int (i32 (c)), .ref 82]) rfl (jl_iloadn rfl) ?_
    have b80 : (0 : Int) ≤ T0 15 (c).toNat ∧ T0 15 (c).toNat ≤ 34 := hWT.2 15 _
    refine jr_ldv (pc_q := 25) (i := 15) (m := 7000) (z := c) (y := T0 15 (c).toNat) rfl (by decide) rfl (by decide) (by omega) (by omega) rfl (show A70 15 (c).toNat = T0 15 (c).toNat from (congrFun ((hF73.2 15 rfl).trans (p_0 15 rfl)) _)) ?_
    refine jx_ar (pc_q := 27) (st_q := [.int (i32 (33)), .int (i32 (T0 15 (c).toNat))]) rfl rfl rfl rfl ?_
    refine jx_icmp_ne (pc_q := 30) (tg := 62) rfl rfl rfl (Int.le_trans (by decide : (-2147483648 : Int) ≤ 0) b80.1) (Int.le_trans b80.2 (by decide : (34 : Int) ≤ 2147483647)) (by decide) (by decide) (fun h81 => ?_) (fun h81 => ?_)
    · have _q := h81
      have hcf := hcf0; have hzf := p_15.2.2
      refine jx_ld (pc_q := 63) (l_q := [(0, .ref 66), (1, .int (i32 (c)))]) (st_q := [.ref 66]) rfl (jl_aloadn rfl) ?_
      refine jx_ld (pc_q := 64) (l_q := [(0, .ref 66), (1, .int (i32 (c)))]) (st_q := [.ref 66, .ref 66]) rfl (jl_aloadn rfl) ?_
      refine jr_get (pc_q := 67) (i := 38) (v := .ref 88) rfl rfl (by decide) rfl rfl ?_
      refine jx_ld (pc_q := 68) (l_q := [(0, .ref 66), (1, .int (i32 (c)))]) (st_q := [.int (i32 (c)), .ref 88, .ref 66]) rfl (jl_iloadn rfl) ?_
      have b82 : (-2147483648 : Int) ≤ T0 21 (c).toNat ∧ T0 21 (c).toNat ≤ 2147483647 := hWT.2 21 _
      refine jr_ldv (pc_q := 69) (i := 21) (m := 7000) (z := c) (y := T0 21 (c).toNat) rfl (by decide) rfl (by decide) (by omega) (by omega) rfl (show A70 21 (c).toNat = T0 21 (c).toNat from (congrFun ((hF73.2 21 rfl).trans (p_0 21 rfl)) _)) ?_
      refine jx_vr (pc_q := 72) (as := [.int (i32 (T0 21 (c).toNat))]) (st := []) rfl rfl rfl rfl ⟨rfl, rfl, Nat.le_of_ble_eq_true rfl⟩ rfl rfl (hA (dd := d) (hd := by omega) (hW := hW72) (p := T0 21 (c).toNat) (lo := fm) (hi := hi) (s0 := s0) (s1 := s1) (uf := uf) (e_uf := show G69 62 = uf from ((hF73.1 62 rfl).trans (e_uf))) (us := us2_71) (e_us := show G69 61 = us2_71 from (e74))  (h_p := ⟨(Int.le_trans (by decide : (-2147483648 : Int) ≤ -2147483648) b82.1), (Int.le_trans b82.2 (by decide : (2147483647 : Int) ≤ 2147483647))⟩)  (p_0 := (TA_fr hF79 (by decide) p_0)) (p_1 := by omega) (p_2 := by omega) (p_3 := by omega) (p_4 := by omega) (p_5 := by omega) (p_6 := by omega) (p_7 := p76) (p_8 := p_8) (p_9 := by omega) (p_10 := by omega) (p_11 := hcf) (p_12 := p_12) (p_13 := (SA_fr2 (show A70 13 = A 13 from (hF73.2 13 rfl)) p_13)) (p_14 := (BU_fr (show A70 11 = A 11 from (hF73.2 11 rfl)) p_14)) (p_15 := hzf)) (fun o V_q hq => ?_)
      obtain ⟨G83, A84, us2_85, rfl, rfl, hW86, hF87, e88, p89, p90, p91, p92, -⟩ := hq
      have hF94 := Fr_tr hF79 hF87 (Fr_sub (by decide)) (Fr_sub (by decide))
      have bus2_85 : (-2147483648 : Int) ≤ us2_85 ∧ us2_85 ≤ 2147483647 := e88 ▸ hW86.1 61
      refine .inl ⟨rfl, ?_⟩
      refine jx_rt (v := none) rfl rfl rfl rfl rfl rfl ?_
      exact ⟨_, _, us2_85, rfl, rfl, hW86, hF94, (e88), by omega, p90, p91, (uc_mk (by omega) (ux_if (by omega) p77) (ux_no (by omega)) p92), trivial⟩
    · have _q := h81
      refine jx_ld (pc_q := 31) (l_q := [(0, .ref 66), (1, .int (i32 (c)))]) (st_q := [.ref 66]) rfl (jl_aloadn rfl) ?_
      refine jr_get (pc_q := 34) (i := 35) (v := .ref 85) rfl rfl (by decide) rfl rfl ?_
      refine jx_ld (pc_q := 35) (l_q := [(0, .ref 66), (1, .int (i32 (c)))]) (st_q := [.int (i32 (c)), .ref 85]) rfl (jl_iloadn rfl) ?_
      have b95 : (-2147483648 : Int) ≤ T0 18 (c).toNat ∧ T0 18 (c).toNat ≤ 2147483647 := hWT.2 18 _
      refine jr_ldv (pc_q := 36) (i := 18) (m := 7000) (z := c) (y := T0 18 (c).toNat) rfl (by decide) rfl (by decide) (by omega) (by omega) rfl (show A70 18 (c).toNat = T0 18 (c).toNat from (congrFun ((hF73.2 18 rfl).trans (p_0 18 rfl)) _)) ?_
      refine jx_if_le (pc_q := 39) (tg := 62) rfl rfl rfl (Int.le_trans (by decide : (-2147483648 : Int) ≤ -2147483648) b95.1) (Int.le_trans b95.2 (by decide : (2147483647 : Int) ≤ 2147483647)) (fun h96 => ?_) (fun h96 => ?_)
      · have _q := h96
        have hcf := hcf0; have hzf := p_15.2.2
        refine jx_ld (pc_q := 63) (l_q := [(0, .ref 66), (1, .int (i32 (c)))]) (st_q := [.ref 66]) rfl (jl_aloadn rfl) ?_
        refine jx_ld (pc_q := 64) (l_q := [(0, .ref 66), (1, .int (i32 (c)))]) (st_q := [.ref 66, .ref 66]) rfl (jl_aloadn rfl) ?_
        refine jr_get (pc_q := 67) (i := 38) (v := .ref 88) rfl rfl (by decide) rfl rfl ?_
        refine jx_ld (pc_q := 68) (l_q := [(0, .ref 66), (1, .int (i32 (c)))]) (st_q := [.int (i32 (c)), .ref 88, .ref 66]) rfl (jl_iloadn rfl) ?_
        have b97 : (-2147483648 : Int) ≤ T0 21 (c).toNat ∧ T0 21 (c).toNat ≤ 2147483647 := hWT.2 21 _
        refine jr_ldv (pc_q := 69) (i := 21) (m := 7000) (z := c) (y := T0 21 (c).toNat) rfl (by decide) rfl (by decide) (by omega) (by omega) rfl (show A70 21 (c).toNat = T0 21 (c).toNat from (congrFun ((hF73.2 21 rfl).trans (p_0 21 rfl)) _)) ?_
        refine jx_vr (pc_q := 72) (as := [.int (i32 (T0 21 (c).toNat))]) (st := []) rfl rfl rfl rfl ⟨rfl, rfl, Nat.le_of_ble_eq_true rfl⟩ rfl rfl (hA (dd := d) (hd := by omega) (hW := hW72) (p := T0 21 (c).toNat) (lo := fm) (hi := hi) (s0 := s0) (s1 := s1) (uf := uf) (e_uf := show G69 62 = uf from ((hF73.1 62 rfl).trans (e_uf))) (us := us2_71) (e_us := show G69 61 = us2_71 from (e74))  (h_p := ⟨(Int.le_trans (by decide : (-2147483648 : Int) ≤ -2147483648) b97.1), (Int.le_trans b97.2 (by decide : (2147483647 : Int) ≤ 2147483647))⟩)  (p_0 := (TA_fr hF79 (by decide) p_0)) (p_1 := by omega) (p_2 := by omega) (p_3 := by omega) (p_4 := by omega) (p_5 := by omega) (p_6 := by omega) (p_7 := p76) (p_8 := p_8) (p_9 := by omega) (p_10 := by omega) (p_11 := hcf) (p_12 := p_12) (p_13 := (SA_fr2 (show A70 13 = A 13 from (hF73.2 13 rfl)) p_13)) (p_14 := (BU_fr (show A70 11 = A 11 from (hF73.2 11 rfl)) p_14)) (p_15 := hzf)) (fun o V_q hq => ?_)
        obtain ⟨G98, A99, us2_100, rfl, rfl, hW101, hF102, e103, p104, p105, p106, p107, -⟩ := hq
        have hF109 := Fr_tr hF79 hF102 (Fr_sub (by decide)) (Fr_sub (by decide))
        have bus2_100 : (-2147483648 : Int) ≤ us2_100 ∧ us2_100 ≤ 2147483647 := e103 ▸ hW101.1 61
        refine .inl ⟨rfl, ?_⟩
        refine jx_rt (v := none) rfl rfl rfl rfl rfl rfl ?_
        exact ⟨_, _, us2_100, rfl, rfl, hW101, hF109, (e103), by omega, p105, p106, (uc_mk (by omega) (ux_if (by omega) p77) (ux_no (by omega)) p107), trivial⟩
      · have _q := h96
        obtain ⟨ra, rb, rm, hr1, hr2, hr3, hr4, hr5, hr6⟩ := ch_r p_11 (by omega) (by omega); have hzr := p_15.2.1 (by omega) (by omega); have hqr := hr5.1; have hqs := hr5.2.1; have hqt := hr6.1; have hqu := hr6.2.1
        refine jx_ld (pc_q := 40) (l_q := [(0, .ref 66), (1, .int (i32 (c)))]) (st_q := [.ref 66]) rfl (jl_aloadn rfl) ?_
        refine jx_ld (pc_q := 41) (l_q := [(0, .ref 66), (1, .int (i32 (c)))]) (st_q := [.ref 66, .ref 66]) rfl (jl_aloadn rfl) ?_
        refine jr_get (pc_q := 44) (i := 35) (v := .ref 85) rfl rfl (by decide) rfl rfl ?_
        refine jx_ld (pc_q := 45) (l_q := [(0, .ref 66), (1, .int (i32 (c)))]) (st_q := [.int (i32 (c)), .ref 85, .ref 66]) rfl (jl_iloadn rfl) ?_
        refine jr_ldv (pc_q := 46) (i := 18) (m := 7000) (z := c) (y := T0 18 (c).toNat) rfl (by decide) rfl (by decide) (by omega) (by omega) rfl (show A70 18 (c).toNat = T0 18 (c).toNat from (congrFun ((hF73.2 18 rfl).trans (p_0 18 rfl)) _)) ?_
        refine jx_ar (pc_q := 48) (st_q := [.int (i32 (8)), .int (i32 (T0 18 (c).toNat)), .ref 66]) rfl rfl rfl rfl ?_
        refine jx_vr (pc_q := 51) (as := [.int (i32 (T0 18 (c).toNat)), .int (i32 (8))]) (st := []) rfl rfl rfl rfl ⟨rfl, rfl, Nat.le_of_ble_eq_true rfl⟩ rfl rfl (c_useReference_h (dd := d) (hd := by omega) (hW := hW72) (x := T0 18 (c).toNat) (dn := 8) (k := 20) (lo := ra) (hi := rb) (uf := uf) (e_uf := show G69 62 = uf from ((hF73.1 62 rfl).trans (e_uf))) (us := us2_71) (e_us := show G69 61 = us2_71 from (e74))  (h_x := ⟨(Int.le_trans (by decide : (-2147483648 : Int) ≤ -2147483648) b95.1), (Int.le_trans b95.2 (by decide : (2147483647 : Int) ≤ 2147483647))⟩) (h_dn := ⟨(by decide), (by decide)⟩)  (p_0 := (TA_fr hF79 (by decide) p_0)) (p_1 := by omega) (p_2 := by omega) (p_3 := by omega) (p_4 := by omega) (p_5 := by omega) (p_6 := by omega) (p_7 := p76) (p_8 := p_8) (p_9 := (qX_pX (pX_wR hr5))) (p_10 := by omega) (p_11 := by omega) (p_12 := by omega) (p_13 := (SA_fr2 (show A70 13 = A 13 from (hF73.2 13 rfl)) p_13)) (p_14 := hzr.1)) (fun o V_q hq => ?_)
        obtain ⟨G110, A111, us2_112, rfl, rfl, hW113, hF114, e115, p116, p117, p118, -⟩ := hq
        have hF120 := Fr_tr hF79 hF114 (Fr_sub (by decide)) (Fr_sub (by decide))
        have bus2_112 : (-2147483648 : Int) ≤ us2_112 ∧ us2_112 ≤ 2147483647 := e115 ▸ hW113.1 61
        refine .inl ⟨rfl, ?_⟩
        refine jx_ld (pc_q := 52) (l_q := [(0, .ref 66), (1, .int (i32 (c)))]) (st_q := [.ref 66]) rfl (jl_aloadn rfl) ?_
        refine jx_ld (pc_q := 53) (l_q := [(0, .ref 66), (1, .int (i32 (c)))]) (st_q := [.ref 66, .ref 66]) rfl (jl_aloadn rfl) ?_
        refine jr_get (pc_q := 56) (i := 36) (v := .ref 86) rfl rfl (by decide) rfl rfl ?_
        refine jx_ld (pc_q := 57) (l_q := [(0, .ref 66), (1, .int (i32 (c)))]) (st_q := [.int (i32 (c)), .ref 86, .ref 66]) rfl (jl_iloadn rfl) ?_
        have b121 : (-2147483648 : Int) ≤ T0 19 (c).toNat ∧ T0 19 (c).toNat ≤ 2147483647 := hWT.2 19 _
        refine jr_ldv (pc_q := 58) (i := 19) (m := 7000) (z := c) (y := T0 19 (c).toNat) rfl (by decide) rfl (by decide) (by omega) (by omega) rfl (show A111 19 (c).toNat = T0 19 (c).toNat from (congrFun ((hF114.2 19 rfl).trans ((hF73.2 19 rfl).trans (p_0 19 rfl))) _)) ?_
        refine jx_ar (pc_q := 59) (st_q := [.int (i32 (2)), .int (i32 (T0 19 (c).toNat)), .ref 66]) rfl rfl rfl rfl ?_
        refine jx_vr (pc_q := 62) (as := [.int (i32 (T0 19 (c).toNat)), .int (i32 (2))]) (st := []) rfl rfl rfl rfl ⟨rfl, rfl, Nat.le_of_ble_eq_true rfl⟩ rfl rfl (c_useReference_h (dd := d) (hd := by omega) (hW := hW113) (x := T0 19 (c).toNat) (dn := 2) (k := 20) (lo := rb) (hi := rm) (uf := uf) (e_uf := show G110 62 = uf from ((hF114.1 62 rfl).trans ((hF73.1 62 rfl).trans (e_uf)))) (us := us2_112) (e_us := show G110 61 = us2_112 from (e115))  (h_x := ⟨(Int.le_trans (by decide : (-2147483648 : Int) ≤ -2147483648) b121.1), (Int.le_trans b121.2 (by decide : (2147483647 : Int) ≤ 2147483647))⟩) (h_dn := ⟨(by decide), (by decide)⟩)  (p_0 := (TA_fr hF120 (by decide) p_0)) (p_1 := by omega) (p_2 := by omega) (p_3 := by omega) (p_4 := by omega) (p_5 := by omega) (p_6 := by omega) (p_7 := p117) (p_8 := p_8) (p_9 := (qX_pX (pX_wR hr6))) (p_10 := by omega) (p_11 := by omega) (p_12 := by omega) (p_13 := (SA_fr2 (show A111 13 = A 13 from ((hF114.2 13 rfl).trans (hF73.2 13 rfl))) p_13)) (p_14 := hzr.2)) (fun o V_q hq => ?_)
        obtain ⟨G122, A123, us2_124, rfl, rfl, hW125, hF126, e127, p128, p129, p130, -⟩ := hq
        have hF132 := Fr_tr hF120 hF126 (Fr_sub (by decide)) (Fr_sub (by decide))
        have bus2_124 : (-2147483648 : Int) ≤ us2_124 ∧ us2_124 ≤ 2147483647 := e127 ▸ hW125.1 61
        refine .inl ⟨rfl, ?_⟩
        have hcf := hcf0; have hzf := p_15.2.2
        refine jx_ld (pc_q := 63) (l_q := [(0, .ref 66), (1, .int (i32 (c)))]) (st_q := [.ref 66]) rfl (jl_aloadn rfl) ?_
        refine jx_ld (pc_q := 64) (l_q := [(0, .ref 66), (1, .int (i32 (c)))]) (st_q := [.ref 66, .ref 66]) rfl (jl_aloadn rfl) ?_
        refine jr_get (pc_q := 67) (i := 38) (v := .ref 88) rfl rfl (by decide) rfl rfl ?_
        refine jx_ld (pc_q := 68) (l_q := [(0, .ref 66), (1, .int (i32 (c)))]) (st_q := [.int (i32 (c)), .ref 88, .ref 66]) rfl (jl_iloadn rfl) ?_
        have b133 : (-2147483648 : Int) ≤ T0 21 (c).toNat ∧ T0 21 (c).toNat ≤ 2147483647 := hWT.2 21 _
        refine jr_ldv (pc_q := 69) (i := 21) (m := 7000) (z := c) (y := T0 21 (c).toNat) rfl (by decide) rfl (by decide) (by omega) (by omega) rfl (show A123 21 (c).toNat = T0 21 (c).toNat from (congrFun ((hF126.2 21 rfl).trans ((hF114.2 21 rfl).trans ((hF73.2 21 rfl).trans (p_0 21 rfl)))) _)) ?_
        refine jx_vr (pc_q := 72) (as := [.int (i32 (T0 21 (c).toNat))]) (st := []) rfl rfl rfl rfl ⟨rfl, rfl, Nat.le_of_ble_eq_true rfl⟩ rfl rfl (hA (dd := d) (hd := by omega) (hW := hW125) (p := T0 21 (c).toNat) (lo := fm) (hi := hi) (s0 := s0) (s1 := s1) (uf := uf) (e_uf := show G122 62 = uf from ((hF126.1 62 rfl).trans ((hF114.1 62 rfl).trans ((hF73.1 62 rfl).trans (e_uf))))) (us := us2_124) (e_us := show G122 61 = us2_124 from (e127))  (h_p := ⟨(Int.le_trans (by decide : (-2147483648 : Int) ≤ -2147483648) b133.1), (Int.le_trans b133.2 (by decide : (2147483647 : Int) ≤ 2147483647))⟩)  (p_0 := (TA_fr hF132 (by decide) p_0)) (p_1 := by omega) (p_2 := by omega) (p_3 := by omega) (p_4 := by omega) (p_5 := by omega) (p_6 := by omega) (p_7 := p129) (p_8 := p_8) (p_9 := by omega) (p_10 := by omega) (p_11 := hcf) (p_12 := p_12) (p_13 := (SA_fr2 (show A123 13 = A 13 from ((hF126.2 13 rfl).trans ((hF114.2 13 rfl).trans (hF73.2 13 rfl)))) p_13)) (p_14 := (BU_fr (show A123 11 = A 11 from ((hF126.2 11 rfl).trans ((hF114.2 11 rfl).trans (hF73.2 11 rfl)))) p_14)) (p_15 := hzf)) (fun o V_q hq => ?_)
        obtain ⟨G134, A135, us2_136, rfl, rfl, hW137, hF138, e139, p140, p141, p142, p143, -⟩ := hq
        have hF145 := Fr_tr hF132 hF138 (Fr_sub (by decide)) (Fr_sub (by decide))
        have bus2_136 : (-2147483648 : Int) ≤ us2_136 ∧ us2_136 ≤ 2147483647 := e139 ▸ hW137.1 61
        refine .inl ⟨rfl, ?_⟩
        refine jx_rt (v := none) rfl rfl rfl rfl rfl rfl ?_
        exact ⟨_, _, us2_136, rfl, rfl, hW137, hF145, (e139), by omega, p141, p142, (uc_mk (by omega) (ux_if (by omega) p77) (ux_if ⟨by omega, by omega⟩ (UX_t (by omega) (rU_mon (fun _ => eU_mon)) p118 p130)) p143), trivial⟩
