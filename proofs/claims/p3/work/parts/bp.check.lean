/-! CHECK: what is found in order -/
theorem NMt_agr {T : Nat → Nat → Int} {V : Nat → Prop} {R R_q : Nat → Int} {sb x y lo hi lo_q hi_q : Int} {n m : Nat} (h : Agr T V R R_q) (wx : qX T V sb n x lo hi) (wy : qX T V sb m y lo_q hi_q) (k : NMt T R_q x y) : NMt T R x y := by
  rcases k with k | ⟨k1, k2, k3, k4, k5⟩
  · exact Or.inl k
  · refine Or.inr ⟨k1, k2, k3, k4, ?_⟩
    rw [← cv_agr h (qX_e wx (by omega)).1 k3, ← cv_agr h (qX_e wy (by omega)).1 k4]
    exact k5
theorem wA_q {T : Nat → Nat → Int} {V : Nat → Prop} {sb : Int} {l : List Int} {pa lo hi a : Int} (w : wAs T V sb pa l lo hi) (ha : a ∈ l) (k : T 7 (T 18 a.toNat).toNat = 8) : ∃ b c, qX T V sb 20 (T 17 a.toNat) b c := by
  obtain ⟨q, b, c, _, _, h1, h2, h3, h4, h5, h6, h7⟩ := wAs_mem w ha
  rw [← h4] at h7
  rcases h7 with h7 | h7 | h7 | h7
  · omega
  · omega
  · exact ⟨b, a, qX_pX (pX_wR h7.2)⟩
  · omega
theorem CK_agr {T : Nat → Nat → Int} {Bu : Int → Int} {V : Nat → Prop} {R R_q : Nat → Int} {sb w pa lo hi c : Int} {l0 : List Int} (h : Agr T V R R_q) (c0 : CH T c l0) (ws : wAs T V sb pa l0 lo hi) (k : ∀ l, CH T c l → (∀ a ∈ l, Aok T Bu w a) ∧ ∀ u1 a u2, l = u1 ++ a :: u2 → ∀ b ∈ u2, Arl T R_q a b) : ∀ l, CH T c l → (∀ a ∈ l, Aok T Bu w a) ∧ ∀ u1 a u2, l = u1 ++ a :: u2 → ∀ b ∈ u2, Arl T R a b := fun l hl => by
  have e := CH_u hl c0
  refine ⟨(k l hl).1, fun u1 a u2 e_q b hb k1 k2 => ?_⟩
  have ma : a ∈ l0 := by rw [← e, e_q]; exact List.mem_append.mpr (Or.inr List.mem_cons_self)
  have mb : b ∈ l0 := by rw [← e, e_q]; exact List.mem_append.mpr (Or.inr (List.mem_cons_of_mem _ hb))
  obtain ⟨_, _, qa⟩ := wA_q ws ma k1
  obtain ⟨_, _, qb⟩ := wA_q ws mb k2
  exact NMt_agr h qa qb ((k l hl).2 u1 a u2 e_q b hb k1 k2)
theorem PKO_m {T : Nat → Nat → Int} {Bu S : Int → Int} {k : Nat} {n mk mk' : Int} (h : PKO T Bu S k n mk) (e : mk' ≤ mk) : PKO T Bu S k n mk' := by
  obtain ⟨L, h1, h2⟩ := h
  exact ⟨L, h1, fun i j a b u hu w hw e1 e2 => h2 i j a b u hu w hw e1 (by omega)⟩
/-- one of a row: a process, a choice, a guard -/
def rO (T : Nat → Nat → Int) (w : Int) (W : Int → Prop) (c : Int) : Prop := (T 15 c.toNat ≠ 33 → T 15 c.toNat ≠ 34 → W c) ∧ (T 15 c.toNat = 33 ∨ T 15 c.toNat = 34 → W (T 21 c.toNat)) ∧ (T 15 c.toNat = 33 → 0 < T 18 c.toNat → OKc T w (T 17 (T 18 c.toNat).toNat) 8)
def ckS (T : Nat → Nat → Int) (Bu : Int → Int) (w : Int) (W : (Int → Int) → Int → Prop) (k : Nat) (S : Int → Int) (p : Int) : Prop :=
  (T 15 p.toNat = 23 → OKc T w (T 17 (T 17 p.toNat).toNat) 4) ∧ (T 15 p.toNat = 24 → OKc T w (T 17 (T 17 p.toNat).toNat) 8) ∧
  (T 15 p.toNat = 25 → ∀ l, CH T (T 21 p.toNat) l → (∀ a ∈ l, Aok T Bu w a) ∧ ∀ u1 a u2, l = u1 ++ a :: u2 → ∀ b ∈ u2, Arl T (Rf S) a b) ∧
  (T 15 p.toNat = 26 ∨ T 15 p.toNat = 28 ∨ T 15 p.toNat = 30 ∨ T 15 p.toNat = 32 → ∀ l, CH T (T 21 p.toNat) l → ∀ c ∈ l, rO T w (W S) c) ∧
  (T 15 p.toNat = 27 ∨ T 15 p.toNat = 31 → W S (T 21 p.toNat)) ∧
  (T 15 p.toNat = 28 ∨ T 15 p.toNat = 29 → PKO T Bu S k p (T 23 p.toNat + T 24 p.toNat)) ∧
  (T 15 p.toNat = 29 → ∀ i : Nat, (i : Int) < T 20 p.toNat → W (sB T S p i) (T 21 p.toNat))
def ckP (T : Nat → Nat → Int) (Bu : Int → Int) (w : Int) : Nat → (Int → Int) → Int → Prop
  | 0, _, _ => True
  | n + 1, S, p => ckS T Bu w (ckP T Bu w n) n S p
/-- rows: those before c are done -/
def CKq (T : Nat → Nat → Int) (W : Int → Prop) (n c : Int) : Prop := ∃ u v : List Int, CH T (T 21 n.toNat) (u ++ v) ∧ CH T c v ∧ ∀ x ∈ u, W x
theorem CKq_0 {T : Nat → Nat → Int} {W : Int → Prop} {n c : Int} (h : ∃ l, CH T (T 21 n.toNat) l) (hc : c = T 21 n.toNat) : CKq T W n c := by
  obtain ⟨l, h⟩ := h
  exact ⟨[], l, h, hc ▸ h, fun x hx => absurd hx List.not_mem_nil⟩
theorem CKq_nx {T : Nat → Nat → Int} {W : Int → Prop} {n c d : Int} (h : CKq T W n c) (hc : 0 < c) (hd : d = T 22 c.toNat) (g : W c) : CKq T W n d := by
  obtain ⟨u, v, g1, g2, g3⟩ := h
  cases v with
  | nil =>
    have : c = 0 := g2
    omega
  | cons e v =>
    obtain ⟨rfl, _, g4⟩ := g2
    refine ⟨u ++ [c], v, by rw [List.append_assoc]; exact g1, hd ▸ g4, fun x hx => ?_⟩
    rcases List.mem_append.mp hx with hx | hx
    · exact g3 x hx
    · rw [List.mem_singleton.mp hx]
      exact g
theorem CKq_e {T : Nat → Nat → Int} {W : Int → Prop} {n c : Int} (h : CKq T W n c) (hc : c ≤ 0) : ∀ l, CH T (T 21 n.toNat) l → ∀ x ∈ l, W x := by
  obtain ⟨u, v, g1, g2, g3⟩ := h
  cases v with
  | cons e v =>
    obtain ⟨g4, g5, _⟩ := g2
    omega
  | nil =>
    rw [List.append_nil] at g1
    exact fun l hl x hx => g3 x (CH_u hl g1 ▸ hx)
/-- the trees of a row -/
def rT (T : Nat → Nat → Int) (sb pb : Int) (k : Nat) (V : Nat → Prop) (c lo hi s0 s1 : Int) : Prop := (T 15 c.toNat ≠ 33 ∧ T 15 c.toNat ≠ 34 ∧ wP T sb pb k V c lo hi s0 s1) ∨ ((T 15 c.toNat = 33 ∨ T 15 c.toNat = 34) ∧ chT T sb pb k V c lo hi s0 s1)
theorem rT_in {T : Nat → Nat → Int} {sb pb : Int} {k : Nat} {V : Nat → Prop} {c lo hi s0 s1 : Int} (h : rT T sb pb k V c lo hi s0 s1) : lo ≤ c ∧ c < hi := by
  rcases h with h | h
  · exact wP_in h.2.2
  · have := ch_k h.2
    exact ⟨by omega, this.2.1⟩
theorem wP_kd {T : Nat → Nat → Int} {sb pb : Int} {k : Nat} {V : Nat → Prop} {c lo hi s0 s1 : Int} (h : wP T sb pb k V c lo hi s0 s1) : T 15 c.toNat ≤ 32 := by
  cases k with
  | zero => exact h.elim
  | succ k =>
    unfold wP at h
    have := wS_kd h.2.2.2.2.2.2.2
    omega
theorem LQ_r {T : Nat → Nat → Int} {sb pb : Int} {k : Nat} {V : Nat → Prop} {n lo hi s0 s1 : Int} {l : List Int} (h : CH T (T 21 n.toNat) l) (w : wCs (wP T sb pb k V) l lo hi s0 s1 ∨ wCs (wI T V sb (wP T sb pb k V)) l lo hi s0 s1 ∨ wCs (wG T V sb (wP T sb pb k V)) l lo hi s0 s1) : LQ T (rT T sb pb k V) (fun _ => True) n (T 21 n.toNat) lo hi s0 s1 lo s0 := by
  refine LQ_0 (N := fun _ => True) h ?_ rfl trivial
  rcases w with w | w | w
  · exact wCs_id (fun e a b u v z => Or.inl ⟨by have := wP_kd z; omega, by have := wP_kd z; omega, z⟩) w
  · exact wCs_id (fun e a b u v z => Or.inr ⟨Or.inr z.2.1, Or.inl z⟩) w
  · exact wCs_id (fun e a b u v z => Or.inr ⟨Or.inl z.2.1, Or.inr z⟩) w
/-- lines and marks of nodes -/
def MRx (T A : Nat → Nat → Int) (nd : Int) : Prop := ∀ j : Int, 1 ≤ j → j < nd → (T 15 j.toNat = 28 ∨ T 15 j.toNat = 29 → T 23 j.toNat + T 24 j.toNat ≤ A 28 j.toNat) ∧ ((23 ≤ T 15 j.toNat ∧ T 15 j.toNat ≤ 25) ∨ T 15 j.toNat = 28 ∨ T 15 j.toNat = 29 ∨ T 15 j.toNat = 33 → 0 ≤ A 16 j.toNat)
theorem MR_fr {T A A_q : Nat → Nat → Int} {nd : Int} (e1 : A_q 16 = A 16) (e2 : A_q 28 = A 28) (h : MRx T A nd) : MRx T A_q nd := by
  unfold MRx
  rw [e1, e2]
  exact h
def UXg (T : Nat → Nat → Int) (W : (Int → Int) → Int → Prop) (S : Int → Int) (p i : Int) : Prop := ∀ j : Nat, (j : Int) < i → W (sB T S p j) (T 21 p.toNat)
theorem UXg_nx {T : Nat → Nat → Int} {W : (Int → Int) → Int → Prop} {S : Int → Int} {p i i_q : Int} (h : UXg T W S p i) (hi : 0 ≤ i) (e : i_q = i + 1) (g : W (sB T S p i.toNat) (T 21 p.toNat)) : UXg T W S p i_q := fun j hj => by
  by_cases q : (j : Int) < i
  · exact h j q
  · rw [show j = i.toNat by omega]
    exact g
theorem cz_k {T : Nat → Nat → Int} {Bu S : Int → Int} {k : Nat} {Q : Us} {p : Int} {V : Nat → Prop} {sb pb hi s0 s1 : Int} (w : KW T sb pb k V p hi s0 s1) (kd : T 15 p.toNat = 28 ∨ T 15 p.toNat = 29) (ch : T 15 p.toNat = 28 → ∃ l, CH T (T 21 p.toNat) l ∧ (l.length : Int) = mny T p) (z : vS T Bu (vP T Bu k) S Q p) : ∀ i : Nat, (i : Int) < mny T p → vP T Bu k (sB T S p i) Q (kid T p i) := fun i hi => by
  rcases kd with kd | kd
  · obtain ⟨l, h1, h2⟩ := ch kd
    rw [kid_28 kd, show sB T S p i = S from funext (fun s => if_neg (fun w => by have := w.1; omega))]
    exact z.2.2.2.2.1 (Or.inr kd) l h1 _ (CH_nx h1 (by omega)).1
  · rw [kid_29 kd]
    have m : mny T p = T 20 p.toNat := if_pos kd
    exact z.2.2.2.2.2.2.1 kd i (by omega)
def CK (X : jX) (k : Nat) : Prop := ∀ ⦃dd : Nat⦄ ⦃T0 : Nat → Nat → Int⦄ ⦃Sn Bu : Int → Int⦄ ⦃Vs : Nat → Prop⦄ ⦃sb pb nd : Int⦄ ⦃Fm : Int → Int → Int → Prop⦄ ⦃c0 c1 : jC⦄ ⦃G : Nat → Int⦄ ⦃A : Nat → Nat → Int⦄ ⦃T : jH⦄ ⦃p : Int⦄ ⦃lo hi s0 s1 : Int⦄ ⦃wl wh : Int⦄ (hd : 3 * k + 80 ≤ dd) (hW : Wk G A) (e_wl : G 67 = wl) (e_wh : G 68 = wh) (h_p : (-2147483648 : Int) ≤ p ∧ p ≤ 2147483647) (p_0 : TA T0 A) (p_1 : 1 ≤ lo) (p_2 : hi ≤ nd) (p_3 : nd ≤ 6999) (p_4 : sb ≤ 202) (p_5 : 0 ≤ s0) (p_6 : s1 ≤ sb) (p_7 : VB (Vs) (s0)) (p_8 : SA T0 Vs Sn A) (p_9 : BUr T0 Bu pb A) (p_10 : Fbd Fm 7324) (p_11 : LKV T0 Vs) (p_12 : MRx T0 A nd) (p_13 : -1 ≤ wl ∧ wl ≤ 3000) (p_14 : ((k : Nat) : Int) ≤ 18) (p_15 : wP T0 sb pb (k) (Vs) (p) (lo) (hi) (s0) (s1)) (p_16 : vP T0 Bu (k) Sn (fun s al e _ => Fm s al e) (p)), wk X dd 339 [.ref 66, .int (i32 p)] (rV c0 c1 G A T) (fun o V_q => ∃ (G_q : Nat → Int) (A_q : Nat → Nat → Int) (wl2 : Int), V_q = rV c0 c1 G_q A_q T ∧ o = .inl none ∧ Wk G_q A_q ∧ Fr [61, 62, 67] [13, 39, 40, 41, 42, 43] G A G_q A_q ∧ G_q 67 = wl2 ∧ (-1 ≤ wl2 ∧ wl2 ≤ 3000) ∧ (wl = -1 ∨ 0 ≤ wl2) ∧ (SA T0 Vs Sn A_q) ∧ ((wl2) = -1 → ckP T0 Bu wh (k) Sn (p)) ∧ True)
set_option maxRecDepth 20000 in
set_option maxHeartbeats 4000000 in
theorem c_checkRow_at_7 {X : jX} {k : Nat} (hC : CK X k) {d : Nat} {T0 : Nat → Nat → Int} {Sn Bu : Int → Int} {Vs : Nat → Prop} {sb pb nd : Int} {Fm : Int → Int → Int → Prop} {c0 c1 : jC} {G : Nat → Int} {A : Nat → Nat → Int} {T : jH} {n : Int} {lo hi s0 s1 : Int} {wl wh : Int} (hd : 3 * k + 81 ≤ d + 1) (hW : Wk G A) (e_wl : G 67 = wl) (e_wh : G 68 = wh) (h_n : (-2147483648 : Int) ≤ n ∧ n ≤ 2147483647) (p_0 : TA T0 A) (p_1 : 1 ≤ lo) (p_2 : hi ≤ nd) (p_3 : nd ≤ 6999) (p_4 : sb ≤ 202) (p_5 : 0 ≤ s0) (p_6 : s1 ≤ sb) (p_7 : VB (Vs) (s0)) (p_8 : SA T0 Vs Sn A) (p_9 : BUr T0 Bu pb A) (p_10 : Fbd Fm 7324) (p_11 : LKV T0 Vs) (p_12 : MRx T0 A nd) (p_13 : -1 ≤ wl ∧ wl ≤ 3000) (p_14 : ((k : Nat) : Int) ≤ 18) (p_15 : 0 ≤ n) (p_16 : n < lo) (p_17 : lo ≤ hi) (p_18 : s0 ≤ s1) (p_19 : LQ T0 (rT T0 sb pb k Vs) (fun _ => True) (n) (T0 21 (n).toNat) (lo) (hi) (s0) (s1) (lo) (s0)) (p_20 : (∀ l, CH T0 (T0 21 (n).toNat) l → ∀ c ∈ l, (T0 15 c.toNat ≠ 33 → T0 15 c.toNat ≠ 34 → vP T0 Bu k Sn (fun s al e _ => Fm s al e) c) ∧ (T0 15 c.toNat = 33 ∨ T0 15 c.toNat = 34 → vP T0 Bu k Sn (fun s al e _ => Fm s al e) (T0 21 c.toNat)))) : ∀ (m : Nat) (L : jL) (Gx : Nat → Int) (Ax : Nat → Nat → Int) (c wl1 gm gt : Int), (hi - gm).toNat = m → jGet L 0 = some (.ref 66) → jGet L 1 = some (.int (i32 (n))) → jGet L 2 = some (.int (i32 c)) → Wk Gx Ax → Fr [61, 62, 67] [13, 39, 40, 41, 42, 43] G A Gx Ax → Gx 67 = wl1 → ((-2147483648 : Int) ≤ c ∧ c ≤ 2147483647) → (-1 ≤ wl1 ∧ wl1 ≤ 3000) → (wl = -1 ∨ 0 ≤ wl1) → (SA T0 Vs Sn Ax) → (lo ≤ gm) → (gm ≤ hi) → (s0 ≤ gt) → (gt ≤ s1) → (LQ T0 (rT T0 sb pb k Vs) (fun _ => True) (n) (c) (lo) (hi) (s0) (s1) (gm) (gt)) → ((wl1) = -1 → CKq T0 (rO T0 wh (ckP T0 Bu wh k Sn)) (n) (c)) → wj X d jm340 (7, L, [], rV c0 c1 Gx Ax T) (fun o V_q => ∃ (G_q : Nat → Int) (A_q : Nat → Nat → Int) (wl2 : Int), V_q = rV c0 c1 G_q A_q T ∧ o = .inl none ∧ Wk G_q A_q ∧ Fr [61, 62, 67] [13, 39, 40, 41, 42, 43] G A G_q A_q ∧ G_q 67 = wl2 ∧ (-1 ≤ wl2 ∧ wl2 ≤ 3000) ∧ (wl = -1 ∨ 0 ≤ wl2) ∧ (SA T0 Vs Sn A_q) ∧ ((wl2) = -1 → ∀ l, CH T0 (T0 21 (n).toNat) l → ∀ c ∈ l, rO T0 wh (ckP T0 Bu wh k Sn) c) ∧ True) := by
  have hF0 : Fr [61, 62, 67] [13, 39, 40, 41, 42, 43] G A G A := Fr_rf
  have b_wl : (-2147483648 : Int) ≤ wl ∧ wl ≤ 2147483647 := e_wl ▸ hW.1 67
  have b_wh : (-2147483648 : Int) ≤ wh ∧ wh ≤ 2147483647 := e_wh ▸ hW.1 68
  have hWT := TA_w hW p_0
  intro m
  induction m using Nat.strongRecOn with
  | ind m ih7 =>
    intro L Gx Ax c wl1 gm gt hm gL_0 gL_1 gL_2 hWx hFx ex_wl1 rx_c iv_0 iv_1 iv_2 iv_3 iv_4 iv_5 iv_6 iv_7 iv_8
    have b_wl1 : (-2147483648 : Int) ≤ wl1 ∧ wl1 ≤ 2147483647 := ex_wl1 ▸ hWx.1 67
    have _q : True := trivial
    refine jx_ld (pc_q := 8) (l_q := L) (st_q := [.int (i32 (c))]) rfl (jl_iloadn gL_2) ?_
    refine jx_if_le (pc_q := 11) (tg := 99) rfl rfl rfl (Int.le_trans (by decide : (-2147483648 : Int) ≤ -2147483648) rx_c.1) (Int.le_trans rx_c.2 (by decide : (2147483647 : Int) ≤ 2147483647)) (fun h1 => ?_) (fun h1 => ?_)
    · have _q := h1
      refine jx_rt (v := none) rfl rfl rfl rfl rfl rfl ?_
      exact ⟨_, _, wl1, rfl, rfl, hWx, hFx, (ex_wl1), by omega, by omega, iv_2, (fun q => CKq_e (iv_8 q) (by omega)), trivial⟩
    · have _q := h1
      obtain ⟨l1, m1, t1, q1, q2, q3, q4, q5, q6, hwR, _, _, hnx⟩ := LQ_hd iv_7 (by omega); have hwi := rT_in hwR; have hzz := Z_c (W := fun c => (T0 15 c.toNat ≠ 33 → T0 15 c.toNat ≠ 34 → vP T0 Bu k Sn (fun s al e _ => Fm s al e) c) ∧ (T0 15 c.toNat = 33 ∨ T0 15 c.toNat = 34 → vP T0 Bu k Sn (fun s al e _ => Fm s al e) (T0 21 c.toNat))) iv_7 (by omega) p_20; have hVBc : VB Vs gt := VB_mo p_7 (by omega)
      refine jx_ld (pc_q := 12) (l_q := L) (st_q := [.ref 66]) rfl (jl_aloadn gL_0) ?_
      refine jr_get (pc_q := 15) (i := 32) (v := .ref 82) rfl rfl (by decide) rfl rfl ?_
      refine jx_ld (pc_q := 16) (l_q := L) (st_q := [.int (i32 (c)), .ref 82]) rfl (jl_iloadn gL_2) ?_
      have b2 : (0 : Int) ≤ T0 15 (c).toNat ∧ T0 15 (c).toNat ≤ 34 := hWT.2 15 _
      refine jr_ldv (pc_q := 17) (i := 15) (m := 7000) (z := c) (y := T0 15 (c).toNat) rfl (by decide) rfl (by decide) (by omega) (by omega) rfl (show Ax 15 (c).toNat = T0 15 (c).toNat from (congrFun ((hFx.2 15 rfl).trans (p_0 15 rfl)) _)) ?_
      refine jx_ar (pc_q := 19) (st_q := [.int (i32 (33)), .int (i32 (T0 15 (c).toNat))]) rfl rfl rfl rfl ?_
      refine jx_icmp_eq (pc_q := 22) (tg := 33) rfl rfl rfl (Int.le_trans (by decide : (-2147483648 : Int) ≤ 0) b2.1) (Int.le_trans b2.2 (by decide : (34 : Int) ≤ 2147483647)) (by decide) (by decide) (fun h3 => ?_) (fun h3 => ?_)
      · have _q := h3
        have hch : chT T0 sb pb k Vs c gm m1 gt t1 := (by rcases hwR with q | q; have := q.1; have := q.2.1; omega; exact q.2); obtain ⟨hck, hcl, fm, hcm, hcn, hcf⟩ := ch_k hch; have hci := wP_in hcf
        refine jx_ld (pc_q := 34) (l_q := L) (st_q := [.ref 66]) rfl (jl_aloadn gL_0) ?_
        refine jr_get (pc_q := 37) (i := 32) (v := .ref 82) rfl rfl (by decide) rfl rfl ?_
        refine jx_ld (pc_q := 38) (l_q := L) (st_q := [.int (i32 (c)), .ref 82]) rfl (jl_iloadn gL_2) ?_
        refine jr_ldv (pc_q := 39) (i := 15) (m := 7000) (z := c) (y := T0 15 (c).toNat) rfl (by decide) rfl (by decide) (by omega) (by omega) rfl (show Ax 15 (c).toNat = T0 15 (c).toNat from (congrFun ((hFx.2 15 rfl).trans (p_0 15 rfl)) _)) ?_
        refine jx_ar (pc_q := 41) (st_q := [.int (i32 (33)), .int (i32 (T0 15 (c).toNat))]) rfl rfl rfl rfl ?_
        refine jx_icmp_ne (pc_q := 44) (tg := 71) rfl rfl rfl (Int.le_trans (by decide : (-2147483648 : Int) ≤ 0) b2.1) (Int.le_trans b2.2 (by decide : (34 : Int) ≤ 2147483647)) (by decide) (by decide) (fun h4 => ?_) (fun h4 => ?_)
        · have _q := h4
          have hzc := hzz.2 (by omega)
          refine jx_ld (pc_q := 72) (l_q := L) (st_q := [.ref 66]) rfl (jl_aloadn gL_0) ?_
          refine jx_ld (pc_q := 73) (l_q := L) (st_q := [.ref 66, .ref 66]) rfl (jl_aloadn gL_0) ?_
          refine jr_get (pc_q := 76) (i := 38) (v := .ref 88) rfl rfl (by decide) rfl rfl ?_
          refine jx_ld (pc_q := 77) (l_q := L) (st_q := [.int (i32 (c)), .ref 88, .ref 66]) rfl (jl_iloadn gL_2) ?_
          have b5 : (-2147483648 : Int) ≤ T0 21 (c).toNat ∧ T0 21 (c).toNat ≤ 2147483647 := hWT.2 21 _
          refine jr_ldv (pc_q := 78) (i := 21) (m := 7000) (z := c) (y := T0 21 (c).toNat) rfl (by decide) rfl (by decide) (by omega) (by omega) rfl (show Ax 21 (c).toNat = T0 21 (c).toNat from (congrFun ((hFx.2 21 rfl).trans (p_0 21 rfl)) _)) ?_
          refine jx_vr (pc_q := 81) (as := [.int (i32 (T0 21 (c).toNat))]) (st := []) rfl rfl rfl rfl ⟨rfl, rfl, Nat.le_of_ble_eq_true rfl⟩ rfl rfl (hC (dd := d) (hd := by omega) (hW := hWx) (p := T0 21 (c).toNat) (lo := fm) (hi := m1) (s0 := gt) (s1 := t1) (wl := wl1) (e_wl := show Gx 67 = wl1 from (ex_wl1)) (wh := wh) (e_wh := show Gx 68 = wh from ((hFx.1 68 rfl).trans (e_wh)))  (h_p := ⟨(Int.le_trans (by decide : (-2147483648 : Int) ≤ -2147483648) b5.1), (Int.le_trans b5.2 (by decide : (2147483647 : Int) ≤ 2147483647))⟩)  (p_0 := (TA_fr hFx (by decide) p_0)) (p_1 := by omega) (p_2 := by omega) (p_3 := by omega) (p_4 := by omega) (p_5 := by omega) (p_6 := by omega) (p_7 := hVBc) (p_8 := iv_2) (p_9 := (BU_fr (show Ax 11 = A 11 from (hFx.2 11 rfl)) p_9)) (p_10 := p_10) (p_11 := p_11) (p_12 := (MR_fr (show Ax 16 = A 16 from (hFx.2 16 rfl)) (show Ax 28 = A 28 from (hFx.2 28 rfl)) p_12)) (p_13 := by omega) (p_14 := by omega) (p_15 := hcf) (p_16 := hzc)) (fun o V_q hq => ?_)
          obtain ⟨G6, A7, wl2_8, rfl, rfl, hW9, hF10, e11, p12, p13, p14, p15, -⟩ := hq
          have hF17 := Fr_tr hFx hF10 (Fr_sub (by decide)) (Fr_sub (by decide))
          have bwl2_8 : (-2147483648 : Int) ≤ wl2_8 ∧ wl2_8 ≤ 2147483647 := e11 ▸ hW9.1 67
          refine .inl ⟨rfl, ?_⟩
          refine jx_go (tg := 89) rfl rfl ?_
          have hro : wl2_8 = -1 → rO T0 wh (ckP T0 Bu wh k Sn) c := (fun q => ⟨fun q1 q2 => by omega, fun _ => p15 (by omega), fun q1 q2 => by omega⟩)
          refine jx_ld (pc_q := 90) (l_q := L) (st_q := [.ref 66]) rfl (jl_aloadn gL_0) ?_
          refine jr_get (pc_q := 93) (i := 39) (v := .ref 89) rfl rfl (by decide) rfl rfl ?_
          refine jx_ld (pc_q := 94) (l_q := L) (st_q := [.int (i32 (c)), .ref 89]) rfl (jl_iloadn gL_2) ?_
          have b18 : (-2147483648 : Int) ≤ T0 22 (c).toNat ∧ T0 22 (c).toNat ≤ 2147483647 := hWT.2 22 _
          refine jr_ldv (pc_q := 95) (i := 22) (m := 7000) (z := c) (y := T0 22 (c).toNat) rfl (by decide) rfl (by decide) (by omega) (by omega) rfl (show A7 22 (c).toNat = T0 22 (c).toNat from (congrFun ((hF10.2 22 rfl).trans ((hFx.2 22 rfl).trans (p_0 22 rfl))) _)) ?_
          refine jx_ld (pc_q := 96) (l_q := jSto1 L 2 (.int (i32 (T0 22 (c).toNat)))) (st_q := []) rfl rfl ?_
          obtain ⟨L19, eL19⟩ : ∃ q, q = jSto1 L 2 (.int (i32 (T0 22 (c).toNat))) := ⟨_, rfl⟩
          rw [← eL19]
          have gL19_0 : jGet L19 0 = some (.ref 66) := eL19 ▸ jg_ne (by decide) gL_0 rfl
          have gL19_1 : jGet L19 1 = some (.int (i32 (n))) := eL19 ▸ jg_ne (by decide) gL_1 rfl
          have gL19_2 : jGet L19 2 = some (.int (i32 (T0 22 (c).toNat))) := eL19 ▸ jg_eq
          refine jx_go (tg := 7) rfl rfl ?_
          exact ih7 _ (by omega) L19 G6 A7 (T0 22 (c).toNat) (wl2_8) (m1) (t1) rfl gL19_0 gL19_1 gL19_2 hW9 hF17 ((e11)) (by omega) (by omega) (by omega) (p14) (by omega) (by omega) (by omega) (by omega) ((hnx (fun _ => True) trivial)) ((fun q => CKq_nx (iv_8 (by omega)) (by omega) rfl (hro (by omega))))
        · have _q := h4
          refine jx_ld (pc_q := 45) (l_q := L) (st_q := [.ref 66]) rfl (jl_aloadn gL_0) ?_
          refine jr_get (pc_q := 48) (i := 35) (v := .ref 85) rfl rfl (by decide) rfl rfl ?_
          refine jx_ld (pc_q := 49) (l_q := L) (st_q := [.int (i32 (c)), .ref 85]) rfl (jl_iloadn gL_2) ?_
          have b20 : (-2147483648 : Int) ≤ T0 18 (c).toNat ∧ T0 18 (c).toNat ≤ 2147483647 := hWT.2 18 _
          refine jr_ldv (pc_q := 50) (i := 18) (m := 7000) (z := c) (y := T0 18 (c).toNat) rfl (by decide) rfl (by decide) (by omega) (by omega) rfl (show Ax 18 (c).toNat = T0 18 (c).toNat from (congrFun ((hFx.2 18 rfl).trans (p_0 18 rfl)) _)) ?_
          refine jx_if_le (pc_q := 53) (tg := 71) rfl rfl rfl (Int.le_trans (by decide : (-2147483648 : Int) ≤ -2147483648) b20.1) (Int.le_trans b20.2 (by decide : (2147483647 : Int) ≤ 2147483647)) (fun h21 => ?_) (fun h21 => ?_)
          · have _q := h21
            have hzc := hzz.2 (by omega)
            refine jx_ld (pc_q := 72) (l_q := L) (st_q := [.ref 66]) rfl (jl_aloadn gL_0) ?_
            refine jx_ld (pc_q := 73) (l_q := L) (st_q := [.ref 66, .ref 66]) rfl (jl_aloadn gL_0) ?_
            refine jr_get (pc_q := 76) (i := 38) (v := .ref 88) rfl rfl (by decide) rfl rfl ?_
            refine jx_ld (pc_q := 77) (l_q := L) (st_q := [.int (i32 (c)), .ref 88, .ref 66]) rfl (jl_iloadn gL_2) ?_
            have b22 : (-2147483648 : Int) ≤ T0 21 (c).toNat ∧ T0 21 (c).toNat ≤ 2147483647 := hWT.2 21 _
            refine jr_ldv (pc_q := 78) (i := 21) (m := 7000) (z := c) (y := T0 21 (c).toNat) rfl (by decide) rfl (by decide) (by omega) (by omega) rfl (show Ax 21 (c).toNat = T0 21 (c).toNat from (congrFun ((hFx.2 21 rfl).trans (p_0 21 rfl)) _)) ?_
            refine jx_vr (pc_q := 81) (as := [.int (i32 (T0 21 (c).toNat))]) (st := []) rfl rfl rfl rfl ⟨rfl, rfl, Nat.le_of_ble_eq_true rfl⟩ rfl rfl (hC (dd := d) (hd := by omega) (hW := hWx) (p := T0 21 (c).toNat) (lo := fm) (hi := m1) (s0 := gt) (s1 := t1) (wl := wl1) (e_wl := show Gx 67 = wl1 from (ex_wl1)) (wh := wh) (e_wh := show Gx 68 = wh from ((hFx.1 68 rfl).trans (e_wh)))  (h_p := ⟨(Int.le_trans (by decide : (-2147483648 : Int) ≤ -2147483648) b22.1), (Int.le_trans b22.2 (by decide : (2147483647 : Int) ≤ 2147483647))⟩)  (p_0 := (TA_fr hFx (by decide) p_0)) (p_1 := by omega) (p_2 := by omega) (p_3 := by omega) (p_4 := by omega) (p_5 := by omega) (p_6 := by omega) (p_7 := hVBc) (p_8 := iv_2) (p_9 := (BU_fr (show Ax 11 = A 11 from (hFx.2 11 rfl)) p_9)) (p_10 := p_10) (p_11 := p_11) (p_12 := (MR_fr (show Ax 16 = A 16 from (hFx.2 16 rfl)) (show Ax 28 = A 28 from (hFx.2 28 rfl)) p_12)) (p_13 := by omega) (p_14 := by omega) (p_15 := hcf) (p_16 := hzc)) (fun o V_q hq => ?_)
            obtain ⟨G23, A24, wl2_25, rfl, rfl, hW26, hF27, e28, p29, p30, p31, p32, -⟩ := hq
            have hF34 := Fr_tr hFx hF27 (Fr_sub (by decide)) (Fr_sub (by decide))
            have bwl2_25 : (-2147483648 : Int) ≤ wl2_25 ∧ wl2_25 ≤ 2147483647 := e28 ▸ hW26.1 67
            refine .inl ⟨rfl, ?_⟩
            refine jx_go (tg := 89) rfl rfl ?_
            have hro : wl2_25 = -1 → rO T0 wh (ckP T0 Bu wh k Sn) c := (fun q => ⟨fun q1 q2 => by omega, fun _ => p32 (by omega), fun q1 q2 => by omega⟩)
            refine jx_ld (pc_q := 90) (l_q := L) (st_q := [.ref 66]) rfl (jl_aloadn gL_0) ?_
            refine jr_get (pc_q := 93) (i := 39) (v := .ref 89) rfl rfl (by decide) rfl rfl ?_
            refine jx_ld (pc_q := 94) (l_q := L) (st_q := [.int (i32 (c)), .ref 89]) rfl (jl_iloadn gL_2) ?_
            have b35 : (-2147483648 : Int) ≤ T0 22 (c).toNat ∧ T0 22 (c).toNat ≤ 2147483647 := hWT.2 22 _
            refine jr_ldv (pc_q := 95) (i := 22) (m := 7000) (z := c) (y := T0 22 (c).toNat) rfl (by decide) rfl (by decide) (by omega) (by omega) rfl (show A24 22 (c).toNat = T0 22 (c).toNat from (congrFun ((hF27.2 22 rfl).trans ((hFx.2 22 rfl).trans (p_0 22 rfl))) _)) ?_
            refine jx_ld (pc_q := 96) (l_q := jSto1 L 2 (.int (i32 (T0 22 (c).toNat)))) (st_q := []) rfl rfl ?_
            obtain ⟨L36, eL36⟩ : ∃ q, q = jSto1 L 2 (.int (i32 (T0 22 (c).toNat))) := ⟨_, rfl⟩
            rw [← eL36]
            have gL36_0 : jGet L36 0 = some (.ref 66) := eL36 ▸ jg_ne (by decide) gL_0 rfl
            have gL36_1 : jGet L36 1 = some (.int (i32 (n))) := eL36 ▸ jg_ne (by decide) gL_1 rfl
            have gL36_2 : jGet L36 2 = some (.int (i32 (T0 22 (c).toNat))) := eL36 ▸ jg_eq
            refine jx_go (tg := 7) rfl rfl ?_
            exact ih7 _ (by omega) L36 G23 A24 (T0 22 (c).toNat) (wl2_25) (m1) (t1) rfl gL36_0 gL36_1 gL36_2 hW26 hF34 ((e28)) (by omega) (by omega) (by omega) (p31) (by omega) (by omega) (by omega) (by omega) ((hnx (fun _ => True) trivial)) ((fun q => CKq_nx (iv_8 (by omega)) (by omega) rfl (hro (by omega))))
          · have _q := h21
            obtain ⟨ra, rb, rm, hr1, hr2, hr3, hr4, hr5, hr6⟩ := ch_r hch (by omega) (by omega); have hqp := pX_wR hr5; have hqr := hqp.1; have hqs := hqp.2.1; have hqt := hqp.2.2.1.1; have hqu := hqp.2.2.1.2.1; have hln := (p_12 c (by omega) (by omega)).2 (by omega)
            refine jx_ld (pc_q := 54) (l_q := L) (st_q := [.ref 66]) rfl (jl_aloadn gL_0) ?_
            refine jx_ld (pc_q := 55) (l_q := L) (st_q := [.int (i32 (c)), .ref 66]) rfl (jl_iloadn gL_2) ?_
            refine jx_ld (pc_q := 56) (l_q := L) (st_q := [.ref 66, .int (i32 (c)), .ref 66]) rfl (jl_aloadn gL_0) ?_
            refine jr_get (pc_q := 59) (i := 34) (v := .ref 84) rfl rfl (by decide) rfl rfl ?_
            refine jx_ld (pc_q := 60) (l_q := L) (st_q := [.ref 66, .ref 84, .int (i32 (c)), .ref 66]) rfl (jl_aloadn gL_0) ?_
            refine jr_get (pc_q := 63) (i := 35) (v := .ref 85) rfl rfl (by decide) rfl rfl ?_
            refine jx_ld (pc_q := 64) (l_q := L) (st_q := [.int (i32 (c)), .ref 85, .ref 84, .int (i32 (c)), .ref 66]) rfl (jl_iloadn gL_2) ?_
            refine jr_ldv (pc_q := 65) (i := 18) (m := 7000) (z := c) (y := T0 18 (c).toNat) rfl (by decide) rfl (by decide) (by omega) (by omega) rfl (show Ax 18 (c).toNat = T0 18 (c).toNat from (congrFun ((hFx.2 18 rfl).trans (p_0 18 rfl)) _)) ?_
            have b37 : (-2147483648 : Int) ≤ T0 17 (T0 18 (c).toNat).toNat ∧ T0 17 (T0 18 (c).toNat).toNat ≤ 2147483647 := hWT.2 17 _
            refine jr_ldv (pc_q := 66) (i := 17) (m := 7000) (z := T0 18 (c).toNat) (y := T0 17 (T0 18 (c).toNat).toNat) rfl (by decide) rfl (by decide) (by omega) (by omega) rfl (show Ax 17 (T0 18 (c).toNat).toNat = T0 17 (T0 18 (c).toNat).toNat from (congrFun ((hFx.2 17 rfl).trans (p_0 17 rfl)) _)) ?_
            refine jx_ar (pc_q := 68) (st_q := [.int (i32 (8)), .int (i32 (T0 17 (T0 18 (c).toNat).toNat)), .int (i32 (c)), .ref 66]) rfl rfl rfl rfl ?_
            have b38 : (-1 : Int) ≤ A 16 (c).toNat ∧ A 16 (c).toNat ≤ 3000 := hW.2 16 _
            refine jx_vr (pc_q := 71) (as := [.int (i32 (c)), .int (i32 (T0 17 (T0 18 (c).toNat).toNat)), .int (i32 (8))]) (st := []) rfl rfl rfl rfl ⟨rfl, rfl, Nat.le_of_ble_eq_true rfl⟩ rfl rfl (c_checkChannel (dd := d) (hd := by omega) (hW := hWx) (n := c) (s := T0 17 (T0 18 (c).toNat).toNat) (u := 8) (wl := wl1) (e_wl := show Gx 67 = wl1 from (ex_wl1)) (w := wh) (e_w := show Gx 68 = wh from ((hFx.1 68 rfl).trans (e_wh))) (lnn := A 16 (c).toNat) (e_lnn := show Ax 16 (c).toNat = A 16 (c).toNat from (congrFun (hFx.2 16 rfl) _))  (h_n := ⟨(Int.le_trans (by decide : (-2147483648 : Int) ≤ -2147483648) rx_c.1), (Int.le_trans rx_c.2 (by decide : (2147483647 : Int) ≤ 2147483647))⟩) (h_s := ⟨(Int.le_trans (by decide : (-2147483648 : Int) ≤ -2147483648) b37.1), (Int.le_trans b37.2 (by decide : (2147483647 : Int) ≤ 2147483647))⟩) (h_u := ⟨(by decide), (by decide)⟩)  (p_0 := (TA_fr hFx (by decide) p_0)) (p_1 := by omega) (p_2 := by omega) (p_3 := by omega) (p_4 := by omega) (p_5 := by omega) (p_6 := by omega) (p_7 := by omega) (p_8 := by omega) (p_9 := (p_11 _ hqp.2.2.1.2.2))) (fun o V_q hq => ?_)
            obtain ⟨G39, A40, wl2_41, rfl, rfl, hW42, hF43, e44, q45⟩ := hq
            have hF46 := Fr_tr hFx hF43 (Fr_sub (by decide)) (Fr_sub (by decide))
            have bwl2_41 : (-2147483648 : Int) ≤ wl2_41 ∧ wl2_41 ≤ 2147483647 := e44 ▸ hW42.1 67
            refine .inl ⟨rfl, ?_⟩
            rcases q45 with ⟨a47, a48⟩ | a49
            · have _q : True := trivial
              have hzc := hzz.2 (by omega)
              refine jx_ld (pc_q := 72) (l_q := L) (st_q := [.ref 66]) rfl (jl_aloadn gL_0) ?_
              refine jx_ld (pc_q := 73) (l_q := L) (st_q := [.ref 66, .ref 66]) rfl (jl_aloadn gL_0) ?_
              refine jr_get (pc_q := 76) (i := 38) (v := .ref 88) rfl rfl (by decide) rfl rfl ?_
              refine jx_ld (pc_q := 77) (l_q := L) (st_q := [.int (i32 (c)), .ref 88, .ref 66]) rfl (jl_iloadn gL_2) ?_
              have b50 : (-2147483648 : Int) ≤ T0 21 (c).toNat ∧ T0 21 (c).toNat ≤ 2147483647 := hWT.2 21 _
              refine jr_ldv (pc_q := 78) (i := 21) (m := 7000) (z := c) (y := T0 21 (c).toNat) rfl (by decide) rfl (by decide) (by omega) (by omega) rfl (show A40 21 (c).toNat = T0 21 (c).toNat from (congrFun ((hF43.2 21 rfl).trans ((hFx.2 21 rfl).trans (p_0 21 rfl))) _)) ?_
              refine jx_vr (pc_q := 81) (as := [.int (i32 (T0 21 (c).toNat))]) (st := []) rfl rfl rfl rfl ⟨rfl, rfl, Nat.le_of_ble_eq_true rfl⟩ rfl rfl (hC (dd := d) (hd := by omega) (hW := hW42) (p := T0 21 (c).toNat) (lo := fm) (hi := m1) (s0 := gt) (s1 := t1) (wl := wl2_41) (e_wl := show G39 67 = wl2_41 from (e44)) (wh := wh) (e_wh := show G39 68 = wh from ((hF43.1 68 rfl).trans ((hFx.1 68 rfl).trans (e_wh))))  (h_p := ⟨(Int.le_trans (by decide : (-2147483648 : Int) ≤ -2147483648) b50.1), (Int.le_trans b50.2 (by decide : (2147483647 : Int) ≤ 2147483647))⟩)  (p_0 := (TA_fr hF46 (by decide) p_0)) (p_1 := by omega) (p_2 := by omega) (p_3 := by omega) (p_4 := by omega) (p_5 := by omega) (p_6 := by omega) (p_7 := hVBc) (p_8 := (SA_fr2 (show A40 13 = Ax 13 from (hF43.2 13 rfl)) iv_2)) (p_9 := (BU_fr (show A40 11 = A 11 from ((hF43.2 11 rfl).trans (hFx.2 11 rfl))) p_9)) (p_10 := p_10) (p_11 := p_11) (p_12 := (MR_fr (show A40 16 = A 16 from ((hF43.2 16 rfl).trans (hFx.2 16 rfl))) (show A40 28 = A 28 from ((hF43.2 28 rfl).trans (hFx.2 28 rfl))) p_12)) (p_13 := by omega) (p_14 := by omega) (p_15 := hcf) (p_16 := hzc)) (fun o V_q hq => ?_)
              obtain ⟨G51, A52, wl2_53, rfl, rfl, hW54, hF55, e56, p57, p58, p59, p60, -⟩ := hq
              have hF62 := Fr_tr hF46 hF55 (Fr_sub (by decide)) (Fr_sub (by decide))
              have bwl2_53 : (-2147483648 : Int) ≤ wl2_53 ∧ wl2_53 ≤ 2147483647 := e56 ▸ hW54.1 67
              refine .inl ⟨rfl, ?_⟩
              refine jx_go (tg := 89) rfl rfl ?_
              have hro : wl2_53 = -1 → rO T0 wh (ckP T0 Bu wh k Sn) c := (fun q => ⟨fun q1 q2 => by omega, fun _ => p60 (by omega), fun q1 q2 => a48⟩)
              refine jx_ld (pc_q := 90) (l_q := L) (st_q := [.ref 66]) rfl (jl_aloadn gL_0) ?_
              refine jr_get (pc_q := 93) (i := 39) (v := .ref 89) rfl rfl (by decide) rfl rfl ?_
              refine jx_ld (pc_q := 94) (l_q := L) (st_q := [.int (i32 (c)), .ref 89]) rfl (jl_iloadn gL_2) ?_
              have b63 : (-2147483648 : Int) ≤ T0 22 (c).toNat ∧ T0 22 (c).toNat ≤ 2147483647 := hWT.2 22 _
              refine jr_ldv (pc_q := 95) (i := 22) (m := 7000) (z := c) (y := T0 22 (c).toNat) rfl (by decide) rfl (by decide) (by omega) (by omega) rfl (show A52 22 (c).toNat = T0 22 (c).toNat from (congrFun ((hF55.2 22 rfl).trans ((hF43.2 22 rfl).trans ((hFx.2 22 rfl).trans (p_0 22 rfl)))) _)) ?_
              refine jx_ld (pc_q := 96) (l_q := jSto1 L 2 (.int (i32 (T0 22 (c).toNat)))) (st_q := []) rfl rfl ?_
              obtain ⟨L64, eL64⟩ : ∃ q, q = jSto1 L 2 (.int (i32 (T0 22 (c).toNat))) := ⟨_, rfl⟩
              rw [← eL64]
              have gL64_0 : jGet L64 0 = some (.ref 66) := eL64 ▸ jg_ne (by decide) gL_0 rfl
              have gL64_1 : jGet L64 1 = some (.int (i32 (n))) := eL64 ▸ jg_ne (by decide) gL_1 rfl
              have gL64_2 : jGet L64 2 = some (.int (i32 (T0 22 (c).toNat))) := eL64 ▸ jg_eq
              refine jx_go (tg := 7) rfl rfl ?_
              exact ih7 _ (by omega) L64 G51 A52 (T0 22 (c).toNat) (wl2_53) (m1) (t1) rfl gL64_0 gL64_1 gL64_2 hW54 hF62 ((e56)) (by omega) (by omega) (by omega) (p59) (by omega) (by omega) (by omega) (by omega) ((hnx (fun _ => True) trivial)) ((fun q => CKq_nx (iv_8 (by omega)) (by omega) rfl (hro (by omega))))
            · have _q : True := trivial
              have hzc := hzz.2 (by omega)
              refine jx_ld (pc_q := 72) (l_q := L) (st_q := [.ref 66]) rfl (jl_aloadn gL_0) ?_
              refine jx_ld (pc_q := 73) (l_q := L) (st_q := [.ref 66, .ref 66]) rfl (jl_aloadn gL_0) ?_
              refine jr_get (pc_q := 76) (i := 38) (v := .ref 88) rfl rfl (by decide) rfl rfl ?_
              refine jx_ld (pc_q := 77) (l_q := L) (st_q := [.int (i32 (c)), .ref 88, .ref 66]) rfl (jl_iloadn gL_2) ?_
              have b65 : (-2147483648 : Int) ≤ T0 21 (c).toNat ∧ T0 21 (c).toNat ≤ 2147483647 := hWT.2 21 _
              refine jr_ldv (pc_q := 78) (i := 21) (m := 7000) (z := c) (y := T0 21 (c).toNat) rfl (by decide) rfl (by decide) (by omega) (by omega) rfl (show A40 21 (c).toNat = T0 21 (c).toNat from (congrFun ((hF43.2 21 rfl).trans ((hFx.2 21 rfl).trans (p_0 21 rfl))) _)) ?_
              refine jx_vr (pc_q := 81) (as := [.int (i32 (T0 21 (c).toNat))]) (st := []) rfl rfl rfl rfl ⟨rfl, rfl, Nat.le_of_ble_eq_true rfl⟩ rfl rfl (hC (dd := d) (hd := by omega) (hW := hW42) (p := T0 21 (c).toNat) (lo := fm) (hi := m1) (s0 := gt) (s1 := t1) (wl := wl2_41) (e_wl := show G39 67 = wl2_41 from (e44)) (wh := wh) (e_wh := show G39 68 = wh from ((hF43.1 68 rfl).trans ((hFx.1 68 rfl).trans (e_wh))))  (h_p := ⟨(Int.le_trans (by decide : (-2147483648 : Int) ≤ -2147483648) b65.1), (Int.le_trans b65.2 (by decide : (2147483647 : Int) ≤ 2147483647))⟩)  (p_0 := (TA_fr hF46 (by decide) p_0)) (p_1 := by omega) (p_2 := by omega) (p_3 := by omega) (p_4 := by omega) (p_5 := by omega) (p_6 := by omega) (p_7 := hVBc) (p_8 := (SA_fr2 (show A40 13 = Ax 13 from (hF43.2 13 rfl)) iv_2)) (p_9 := (BU_fr (show A40 11 = A 11 from ((hF43.2 11 rfl).trans (hFx.2 11 rfl))) p_9)) (p_10 := p_10) (p_11 := p_11) (p_12 := (MR_fr (show A40 16 = A 16 from ((hF43.2 16 rfl).trans (hFx.2 16 rfl))) (show A40 28 = A 28 from ((hF43.2 28 rfl).trans (hFx.2 28 rfl))) p_12)) (p_13 := by omega) (p_14 := by omega) (p_15 := hcf) (p_16 := hzc)) (fun o V_q hq => ?_)
              obtain ⟨G66, A67, wl2_68, rfl, rfl, hW69, hF70, e71, p72, p73, p74, p75, -⟩ := hq
              have hF77 := Fr_tr hF46 hF70 (Fr_sub (by decide)) (Fr_sub (by decide))
              have bwl2_68 : (-2147483648 : Int) ≤ wl2_68 ∧ wl2_68 ≤ 2147483647 := e71 ▸ hW69.1 67
              refine .inl ⟨rfl, ?_⟩
              refine jx_go (tg := 89) rfl rfl ?_
              have hro : wl2_68 = -1 → rO T0 wh (ckP T0 Bu wh k Sn) c := (fun q => ⟨fun q1 q2 => by omega, fun _ => p75 (by omega), fun q1 q2 => by omega⟩)
              refine jx_ld (pc_q := 90) (l_q := L) (st_q := [.ref 66]) rfl (jl_aloadn gL_0) ?_
              refine jr_get (pc_q := 93) (i := 39) (v := .ref 89) rfl rfl (by decide) rfl rfl ?_
              refine jx_ld (pc_q := 94) (l_q := L) (st_q := [.int (i32 (c)), .ref 89]) rfl (jl_iloadn gL_2) ?_
              have b78 : (-2147483648 : Int) ≤ T0 22 (c).toNat ∧ T0 22 (c).toNat ≤ 2147483647 := hWT.2 22 _
              refine jr_ldv (pc_q := 95) (i := 22) (m := 7000) (z := c) (y := T0 22 (c).toNat) rfl (by decide) rfl (by decide) (by omega) (by omega) rfl (show A67 22 (c).toNat = T0 22 (c).toNat from (congrFun ((hF70.2 22 rfl).trans ((hF43.2 22 rfl).trans ((hFx.2 22 rfl).trans (p_0 22 rfl)))) _)) ?_
              refine jx_ld (pc_q := 96) (l_q := jSto1 L 2 (.int (i32 (T0 22 (c).toNat)))) (st_q := []) rfl rfl ?_
              obtain ⟨L79, eL79⟩ : ∃ q, q = jSto1 L 2 (.int (i32 (T0 22 (c).toNat))) := ⟨_, rfl⟩
              rw [← eL79]
              have gL79_0 : jGet L79 0 = some (.ref 66) := eL79 ▸ jg_ne (by decide) gL_0 rfl
              have gL79_1 : jGet L79 1 = some (.int (i32 (n))) := eL79 ▸ jg_ne (by decide) gL_1 rfl
              have gL79_2 : jGet L79 2 = some (.int (i32 (T0 22 (c).toNat))) := eL79 ▸ jg_eq
              refine jx_go (tg := 7) rfl rfl ?_
              exact ih7 _ (by omega) L79 G66 A67 (T0 22 (c).toNat) (wl2_68) (m1) (t1) rfl gL79_0 gL79_1 gL79_2 hW69 hF77 ((e71)) (by omega) (by omega) (by omega) (p74) (by omega) (by omega) (by omega) (by omega) ((hnx (fun _ => True) trivial)) ((fun q => CKq_nx (iv_8 (by omega)) (by omega) rfl (hro (by omega))))
      · have _q := h3
        refine jx_ld (pc_q := 23) (l_q := L) (st_q := [.ref 66]) rfl (jl_aloadn gL_0) ?_
        refine jr_get (pc_q := 26) (i := 32) (v := .ref 82) rfl rfl (by decide) rfl rfl ?_
        refine jx_ld (pc_q := 27) (l_q := L) (st_q := [.int (i32 (c)), .ref 82]) rfl (jl_iloadn gL_2) ?_
        refine jr_ldv (pc_q := 28) (i := 15) (m := 7000) (z := c) (y := T0 15 (c).toNat) rfl (by decide) rfl (by decide) (by omega) (by omega) rfl (show Ax 15 (c).toNat = T0 15 (c).toNat from (congrFun ((hFx.2 15 rfl).trans (p_0 15 rfl)) _)) ?_
        refine jx_ar (pc_q := 30) (st_q := [.int (i32 (34)), .int (i32 (T0 15 (c).toNat))]) rfl rfl rfl rfl ?_
        refine jx_icmp_ne (pc_q := 33) (tg := 84) rfl rfl rfl (Int.le_trans (by decide : (-2147483648 : Int) ≤ 0) b2.1) (Int.le_trans b2.2 (by decide : (34 : Int) ≤ 2147483647)) (by decide) (by decide) (fun h80 => ?_) (fun h80 => ?_)
        · have _q := h80
          have hwc : wP T0 sb pb k Vs c gm m1 gt t1 := (by rcases hwR with q | q; exact q.2.2; rcases q.1 with q | q; omega; omega); have hzc := hzz.1 (by omega) (by omega)
          refine jx_ld (pc_q := 85) (l_q := L) (st_q := [.ref 66]) rfl (jl_aloadn gL_0) ?_
          refine jx_ld (pc_q := 86) (l_q := L) (st_q := [.int (i32 (c)), .ref 66]) rfl (jl_iloadn gL_2) ?_
          refine jx_vr (pc_q := 89) (as := [.int (i32 (c))]) (st := []) rfl rfl rfl rfl ⟨rfl, rfl, Nat.le_of_ble_eq_true rfl⟩ rfl rfl (hC (dd := d) (hd := by omega) (hW := hWx) (p := c) (lo := gm) (hi := m1) (s0 := gt) (s1 := t1) (wl := wl1) (e_wl := show Gx 67 = wl1 from (ex_wl1)) (wh := wh) (e_wh := show Gx 68 = wh from ((hFx.1 68 rfl).trans (e_wh)))  (h_p := ⟨(Int.le_trans (by decide : (-2147483648 : Int) ≤ -2147483648) rx_c.1), (Int.le_trans rx_c.2 (by decide : (2147483647 : Int) ≤ 2147483647))⟩)  (p_0 := (TA_fr hFx (by decide) p_0)) (p_1 := by omega) (p_2 := by omega) (p_3 := by omega) (p_4 := by omega) (p_5 := by omega) (p_6 := by omega) (p_7 := hVBc) (p_8 := iv_2) (p_9 := (BU_fr (show Ax 11 = A 11 from (hFx.2 11 rfl)) p_9)) (p_10 := p_10) (p_11 := p_11) (p_12 := (MR_fr (show Ax 16 = A 16 from (hFx.2 16 rfl)) (show Ax 28 = A 28 from (hFx.2 28 rfl)) p_12)) (p_13 := by omega) (p_14 := by omega) (p_15 := hwc) (p_16 := hzc)) (fun o V_q hq => ?_)
          obtain ⟨G81, A82, wl2_83, rfl, rfl, hW84, hF85, e86, p87, p88, p89, p90, -⟩ := hq
          have hF92 := Fr_tr hFx hF85 (Fr_sub (by decide)) (Fr_sub (by decide))
          have bwl2_83 : (-2147483648 : Int) ≤ wl2_83 ∧ wl2_83 ≤ 2147483647 := e86 ▸ hW84.1 67
          refine .inl ⟨rfl, ?_⟩
          have hro : wl2_83 = -1 → rO T0 wh (ckP T0 Bu wh k Sn) c := (fun q => ⟨fun _ _ => p90 (by omega), fun q => by omega, fun q => by omega⟩)
          refine jx_ld (pc_q := 90) (l_q := L) (st_q := [.ref 66]) rfl (jl_aloadn gL_0) ?_
          refine jr_get (pc_q := 93) (i := 39) (v := .ref 89) rfl rfl (by decide) rfl rfl ?_
          refine jx_ld (pc_q := 94) (l_q := L) (st_q := [.int (i32 (c)), .ref 89]) rfl (jl_iloadn gL_2) ?_
          have b93 : (-2147483648 : Int) ≤ T0 22 (c).toNat ∧ T0 22 (c).toNat ≤ 2147483647 := hWT.2 22 _
          refine jr_ldv (pc_q := 95) (i := 22) (m := 7000) (z := c) (y := T0 22 (c).toNat) rfl (by decide) rfl (by decide) (by omega) (by omega) rfl (show A82 22 (c).toNat = T0 22 (c).toNat from (congrFun ((hF85.2 22 rfl).trans ((hFx.2 22 rfl).trans (p_0 22 rfl))) _)) ?_
          refine jx_ld (pc_q := 96) (l_q := jSto1 L 2 (.int (i32 (T0 22 (c).toNat)))) (st_q := []) rfl rfl ?_
          obtain ⟨L94, eL94⟩ : ∃ q, q = jSto1 L 2 (.int (i32 (T0 22 (c).toNat))) := ⟨_, rfl⟩
          rw [← eL94]
          have gL94_0 : jGet L94 0 = some (.ref 66) := eL94 ▸ jg_ne (by decide) gL_0 rfl
          have gL94_1 : jGet L94 1 = some (.int (i32 (n))) := eL94 ▸ jg_ne (by decide) gL_1 rfl
          have gL94_2 : jGet L94 2 = some (.int (i32 (T0 22 (c).toNat))) := eL94 ▸ jg_eq
          refine jx_go (tg := 7) rfl rfl ?_
          exact ih7 _ (by omega) L94 G81 A82 (T0 22 (c).toNat) (wl2_83) (m1) (t1) rfl gL94_0 gL94_1 gL94_2 hW84 hF92 ((e86)) (by omega) (by omega) (by omega) (p89) (by omega) (by omega) (by omega) (by omega) ((hnx (fun _ => True) trivial)) ((fun q => CKq_nx (iv_8 (by omega)) (by omega) rfl (hro (by omega))))
        · have _q := h80
          have hch : chT T0 sb pb k Vs c gm m1 gt t1 := (by rcases hwR with q | q; have := q.1; have := q.2.1; omega; exact q.2); obtain ⟨hck, hcl, fm, hcm, hcn, hcf⟩ := ch_k hch; have hci := wP_in hcf
          refine jx_ld (pc_q := 34) (l_q := L) (st_q := [.ref 66]) rfl (jl_aloadn gL_0) ?_
          refine jr_get (pc_q := 37) (i := 32) (v := .ref 82) rfl rfl (by decide) rfl rfl ?_
          refine jx_ld (pc_q := 38) (l_q := L) (st_q := [.int (i32 (c)), .ref 82]) rfl (jl_iloadn gL_2) ?_
          refine jr_ldv (pc_q := 39) (i := 15) (m := 7000) (z := c) (y := T0 15 (c).toNat) rfl (by decide) rfl (by decide) (by omega) (by omega) rfl (show Ax 15 (c).toNat = T0 15 (c).toNat from (congrFun ((hFx.2 15 rfl).trans (p_0 15 rfl)) _)) ?_
          refine jx_ar (pc_q := 41) (st_q := [.int (i32 (33)), .int (i32 (T0 15 (c).toNat))]) rfl rfl rfl rfl ?_
          refine jx_icmp_ne (pc_q := 44) (tg := 71) rfl rfl rfl (Int.le_trans (by decide : (-2147483648 : Int) ≤ 0) b2.1) (Int.le_trans b2.2 (by decide : (34 : Int) ≤ 2147483647)) (by decide) (by decide) (fun h95 => ?_) (fun h95 => ?_)
          · have _q := h95
            have hzc := hzz.2 (by omega)
            refine jx_ld (pc_q := 72) (l_q := L) (st_q := [.ref 66]) rfl (jl_aloadn gL_0) ?_
            refine jx_ld (pc_q := 73) (l_q := L) (st_q := [.ref 66, .ref 66]) rfl (jl_aloadn gL_0) ?_
            refine jr_get (pc_q := 76) (i := 38) (v := .ref 88) rfl rfl (by decide) rfl rfl ?_
            refine jx_ld (pc_q := 77) (l_q := L) (st_q := [.int (i32 (c)), .ref 88, .ref 66]) rfl (jl_iloadn gL_2) ?_
            have b96 : (-2147483648 : Int) ≤ T0 21 (c).toNat ∧ T0 21 (c).toNat ≤ 2147483647 := hWT.2 21 _
            refine jr_ldv (pc_q := 78) (i := 21) (m := 7000) (z := c) (y := T0 21 (c).toNat) rfl (by decide) rfl (by decide) (by omega) (by omega) rfl (show Ax 21 (c).toNat = T0 21 (c).toNat from (congrFun ((hFx.2 21 rfl).trans (p_0 21 rfl)) _)) ?_
            refine jx_vr (pc_q := 81) (as := [.int (i32 (T0 21 (c).toNat))]) (st := []) rfl rfl rfl rfl ⟨rfl, rfl, Nat.le_of_ble_eq_true rfl⟩ rfl rfl (hC (dd := d) (hd := by omega) (hW := hWx) (p := T0 21 (c).toNat) (lo := fm) (hi := m1) (s0 := gt) (s1 := t1) (wl := wl1) (e_wl := show Gx 67 = wl1 from (ex_wl1)) (wh := wh) (e_wh := show Gx 68 = wh from ((hFx.1 68 rfl).trans (e_wh)))  (h_p := ⟨(Int.le_trans (by decide : (-2147483648 : Int) ≤ -2147483648) b96.1), (Int.le_trans b96.2 (by decide : (2147483647 : Int) ≤ 2147483647))⟩)  (p_0 := (TA_fr hFx (by decide) p_0)) (p_1 := by omega) (p_2 := by omega) (p_3 := by omega) (p_4 := by omega) (p_5 := by omega) (p_6 := by omega) (p_7 := hVBc) (p_8 := iv_2) (p_9 := (BU_fr (show Ax 11 = A 11 from (hFx.2 11 rfl)) p_9)) (p_10 := p_10) (p_11 := p_11) (p_12 := (MR_fr (show Ax 16 = A 16 from (hFx.2 16 rfl)) (show Ax 28 = A 28 from (hFx.2 28 rfl)) p_12)) (p_13 := by omega) (p_14 := by omega) (p_15 := hcf) (p_16 := hzc)) (fun o V_q hq => ?_)
            obtain ⟨G97, A98, wl2_99, rfl, rfl, hW100, hF101, e102, p103, p104, p105, p106, -⟩ := hq
            have hF108 := Fr_tr hFx hF101 (Fr_sub (by decide)) (Fr_sub (by decide))
            have bwl2_99 : (-2147483648 : Int) ≤ wl2_99 ∧ wl2_99 ≤ 2147483647 := e102 ▸ hW100.1 67
            refine .inl ⟨rfl, ?_⟩
            refine jx_go (tg := 89) rfl rfl ?_
            have hro : wl2_99 = -1 → rO T0 wh (ckP T0 Bu wh k Sn) c := (fun q => ⟨fun q1 q2 => by omega, fun _ => p106 (by omega), fun q1 q2 => by omega⟩)
            refine jx_ld (pc_q := 90) (l_q := L) (st_q := [.ref 66]) rfl (jl_aloadn gL_0) ?_
            refine jr_get (pc_q := 93) (i := 39) (v := .ref 89) rfl rfl (by decide) rfl rfl ?_
            refine jx_ld (pc_q := 94) (l_q := L) (st_q := [.int (i32 (c)), .ref 89]) rfl (jl_iloadn gL_2) ?_
            have b109 : (-2147483648 : Int) ≤ T0 22 (c).toNat ∧ T0 22 (c).toNat ≤ 2147483647 := hWT.2 22 _
            refine jr_ldv (pc_q := 95) (i := 22) (m := 7000) (z := c) (y := T0 22 (c).toNat) rfl (by decide) rfl (by decide) (by omega) (by omega) rfl (show A98 22 (c).toNat = T0 22 (c).toNat from (congrFun ((hF101.2 22 rfl).trans ((hFx.2 22 rfl).trans (p_0 22 rfl))) _)) ?_
            refine jx_ld (pc_q := 96) (l_q := jSto1 L 2 (.int (i32 (T0 22 (c).toNat)))) (st_q := []) rfl rfl ?_
            obtain ⟨L110, eL110⟩ : ∃ q, q = jSto1 L 2 (.int (i32 (T0 22 (c).toNat))) := ⟨_, rfl⟩
            rw [← eL110]
            have gL110_0 : jGet L110 0 = some (.ref 66) := eL110 ▸ jg_ne (by decide) gL_0 rfl
            have gL110_1 : jGet L110 1 = some (.int (i32 (n))) := eL110 ▸ jg_ne (by decide) gL_1 rfl
            have gL110_2 : jGet L110 2 = some (.int (i32 (T0 22 (c).toNat))) := eL110 ▸ jg_eq
            refine jx_go (tg := 7) rfl rfl ?_
            exact ih7 _ (by omega) L110 G97 A98 (T0 22 (c).toNat) (wl2_99) (m1) (t1) rfl gL110_0 gL110_1 gL110_2 hW100 hF108 ((e102)) (by omega) (by omega) (by omega) (p105) (by omega) (by omega) (by omega) (by omega) ((hnx (fun _ => True) trivial)) ((fun q => CKq_nx (iv_8 (by omega)) (by omega) rfl (hro (by omega))))
          · have _q := h95
            refine jx_ld (pc_q := 45) (l_q := L) (st_q := [.ref 66]) rfl (jl_aloadn gL_0) ?_
            refine jr_get (pc_q := 48) (i := 35) (v := .ref 85) rfl rfl (by decide) rfl rfl ?_
            refine jx_ld (pc_q := 49) (l_q := L) (st_q := [.int (i32 (c)), .ref 85]) rfl (jl_iloadn gL_2) ?_
            have b111 : (-2147483648 : Int) ≤ T0 18 (c).toNat ∧ T0 18 (c).toNat ≤ 2147483647 := hWT.2 18 _
            refine jr_ldv (pc_q := 50) (i := 18) (m := 7000) (z := c) (y := T0 18 (c).toNat) rfl (by decide) rfl (by decide) (by omega) (by omega) rfl (show Ax 18 (c).toNat = T0 18 (c).toNat from (congrFun ((hFx.2 18 rfl).trans (p_0 18 rfl)) _)) ?_
            refine jx_if_le (pc_q := 53) (tg := 71) rfl rfl rfl (Int.le_trans (by decide : (-2147483648 : Int) ≤ -2147483648) b111.1) (Int.le_trans b111.2 (by decide : (2147483647 : Int) ≤ 2147483647)) (fun h112 => ?_) (fun h112 => ?_)
            · have _q := h112
              have hzc := hzz.2 (by omega)
              refine jx_ld (pc_q := 72) (l_q := L) (st_q := [.ref 66]) rfl (jl_aloadn gL_0) ?_
              refine jx_ld (pc_q := 73) (l_q := L) (st_q := [.ref 66, .ref 66]) rfl (jl_aloadn gL_0) ?_
              refine jr_get (pc_q := 76) (i := 38) (v := .ref 88) rfl rfl (by decide) rfl rfl ?_
              refine jx_ld (pc_q := 77) (l_q := L) (st_q := [.int (i32 (c)), .ref 88, .ref 66]) rfl (jl_iloadn gL_2) ?_
              have b113 : (-2147483648 : Int) ≤ T0 21 (c).toNat ∧ T0 21 (c).toNat ≤ 2147483647 := hWT.2 21 _
              refine jr_ldv (pc_q := 78) (i := 21) (m := 7000) (z := c) (y := T0 21 (c).toNat) rfl (by decide) rfl (by decide) (by omega) (by omega) rfl (show Ax 21 (c).toNat = T0 21 (c).toNat from (congrFun ((hFx.2 21 rfl).trans (p_0 21 rfl)) _)) ?_
              refine jx_vr (pc_q := 81) (as := [.int (i32 (T0 21 (c).toNat))]) (st := []) rfl rfl rfl rfl ⟨rfl, rfl, Nat.le_of_ble_eq_true rfl⟩ rfl rfl (hC (dd := d) (hd := by omega) (hW := hWx) (p := T0 21 (c).toNat) (lo := fm) (hi := m1) (s0 := gt) (s1 := t1) (wl := wl1) (e_wl := show Gx 67 = wl1 from (ex_wl1)) (wh := wh) (e_wh := show Gx 68 = wh from ((hFx.1 68 rfl).trans (e_wh)))  (h_p := ⟨(Int.le_trans (by decide : (-2147483648 : Int) ≤ -2147483648) b113.1), (Int.le_trans b113.2 (by decide : (2147483647 : Int) ≤ 2147483647))⟩)  (p_0 := (TA_fr hFx (by decide) p_0)) (p_1 := by omega) (p_2 := by omega) (p_3 := by omega) (p_4 := by omega) (p_5 := by omega) (p_6 := by omega) (p_7 := hVBc) (p_8 := iv_2) (p_9 := (BU_fr (show Ax 11 = A 11 from (hFx.2 11 rfl)) p_9)) (p_10 := p_10) (p_11 := p_11) (p_12 := (MR_fr (show Ax 16 = A 16 from (hFx.2 16 rfl)) (show Ax 28 = A 28 from (hFx.2 28 rfl)) p_12)) (p_13 := by omega) (p_14 := by omega) (p_15 := hcf) (p_16 := hzc)) (fun o V_q hq => ?_)
              obtain ⟨G114, A115, wl2_116, rfl, rfl, hW117, hF118, e119, p120, p121, p122, p123, -⟩ := hq
              have hF125 := Fr_tr hFx hF118 (Fr_sub (by decide)) (Fr_sub (by decide))
              have bwl2_116 : (-2147483648 : Int) ≤ wl2_116 ∧ wl2_116 ≤ 2147483647 := e119 ▸ hW117.1 67
              refine .inl ⟨rfl, ?_⟩
              refine jx_go (tg := 89) rfl rfl ?_
              have hro : wl2_116 = -1 → rO T0 wh (ckP T0 Bu wh k Sn) c := (fun q => ⟨fun q1 q2 => by omega, fun _ => p123 (by omega), fun q1 q2 => by omega⟩)
              refine jx_ld (pc_q := 90) (l_q := L) (st_q := [.ref 66]) rfl (jl_aloadn gL_0) ?_
              refine jr_get (pc_q := 93) (i := 39) (v := .ref 89) rfl rfl (by decide) rfl rfl ?_
              refine jx_ld (pc_q := 94) (l_q := L) (st_q := [.int (i32 (c)), .ref 89]) rfl (jl_iloadn gL_2) ?_
              have b126 : (-2147483648 : Int) ≤ T0 22 (c).toNat ∧ T0 22 (c).toNat ≤ 2147483647 := hWT.2 22 _
              refine jr_ldv (pc_q := 95) (i := 22) (m := 7000) (z := c) (y := T0 22 (c).toNat) rfl (by decide) rfl (by decide) (by omega) (by omega) rfl (show A115 22 (c).toNat = T0 22 (c).toNat from (congrFun ((hF118.2 22 rfl).trans ((hFx.2 22 rfl).trans (p_0 22 rfl))) _)) ?_
              refine jx_ld (pc_q := 96) (l_q := jSto1 L 2 (.int (i32 (T0 22 (c).toNat)))) (st_q := []) rfl rfl ?_
              obtain ⟨L127, eL127⟩ : ∃ q, q = jSto1 L 2 (.int (i32 (T0 22 (c).toNat))) := ⟨_, rfl⟩
              rw [← eL127]
              have gL127_0 : jGet L127 0 = some (.ref 66) := eL127 ▸ jg_ne (by decide) gL_0 rfl
              have gL127_1 : jGet L127 1 = some (.int (i32 (n))) := eL127 ▸ jg_ne (by decide) gL_1 rfl
              have gL127_2 : jGet L127 2 = some (.int (i32 (T0 22 (c).toNat))) := eL127 ▸ jg_eq
              refine jx_go (tg := 7) rfl rfl ?_
              exact ih7 _ (by omega) L127 G114 A115 (T0 22 (c).toNat) (wl2_116) (m1) (t1) rfl gL127_0 gL127_1 gL127_2 hW117 hF125 ((e119)) (by omega) (by omega) (by omega) (p122) (by omega) (by omega) (by omega) (by omega) ((hnx (fun _ => True) trivial)) ((fun q => CKq_nx (iv_8 (by omega)) (by omega) rfl (hro (by omega))))
            · have _q := h112
              obtain ⟨ra, rb, rm, hr1, hr2, hr3, hr4, hr5, hr6⟩ := ch_r hch (by omega) (by omega); have hqp := pX_wR hr5; have hqr := hqp.1; have hqs := hqp.2.1; have hqt := hqp.2.2.1.1; have hqu := hqp.2.2.1.2.1; have hln := (p_12 c (by omega) (by omega)).2 (by omega)
              refine jx_ld (pc_q := 54) (l_q := L) (st_q := [.ref 66]) rfl (jl_aloadn gL_0) ?_
              refine jx_ld (pc_q := 55) (l_q := L) (st_q := [.int (i32 (c)), .ref 66]) rfl (jl_iloadn gL_2) ?_
              refine jx_ld (pc_q := 56) (l_q := L) (st_q := [.ref 66, .int (i32 (c)), .ref 66]) rfl (jl_aloadn gL_0) ?_
              refine jr_get (pc_q := 59) (i := 34) (v := .ref 84) rfl rfl (by decide) rfl rfl ?_
              refine jx_ld (pc_q := 60) (l_q := L) (st_q := [.ref 66, .ref 84, .int (i32 (c)), .ref 66]) rfl (jl_aloadn gL_0) ?_
              refine jr_get (pc_q := 63) (i := 35) (v := .ref 85) rfl rfl (by decide) rfl rfl ?_
              refine jx_ld (pc_q := 64) (l_q := L) (st_q := [.int (i32 (c)), .ref 85, .ref 84, .int (i32 (c)), .ref 66]) rfl (jl_iloadn gL_2) ?_
              refine jr_ldv (pc_q := 65) (i := 18) (m := 7000) (z := c) (y := T0 18 (c).toNat) rfl (by decide) rfl (by decide) (by omega) (by omega) rfl (show Ax 18 (c).toNat = T0 18 (c).toNat from (congrFun ((hFx.2 18 rfl).trans (p_0 18 rfl)) _)) ?_
              have b128 : (-2147483648 : Int) ≤ T0 17 (T0 18 (c).toNat).toNat ∧ T0 17 (T0 18 (c).toNat).toNat ≤ 2147483647 := hWT.2 17 _
              refine jr_ldv (pc_q := 66) (i := 17) (m := 7000) (z := T0 18 (c).toNat) (y := T0 17 (T0 18 (c).toNat).toNat) rfl (by decide) rfl (by decide) (by omega) (by omega) rfl (show Ax 17 (T0 18 (c).toNat).toNat = T0 17 (T0 18 (c).toNat).toNat from (congrFun ((hFx.2 17 rfl).trans (p_0 17 rfl)) _)) ?_
              refine jx_ar (pc_q := 68) (st_q := [.int (i32 (8)), .int (i32 (T0 17 (T0 18 (c).toNat).toNat)), .int (i32 (c)), .ref 66]) rfl rfl rfl rfl ?_
              have b129 : (-1 : Int) ≤ A 16 (c).toNat ∧ A 16 (c).toNat ≤ 3000 := hW.2 16 _
              refine jx_vr (pc_q := 71) (as := [.int (i32 (c)), .int (i32 (T0 17 (T0 18 (c).toNat).toNat)), .int (i32 (8))]) (st := []) rfl rfl rfl rfl ⟨rfl, rfl, Nat.le_of_ble_eq_true rfl⟩ rfl rfl (c_checkChannel (dd := d) (hd := by omega) (hW := hWx) (n := c) (s := T0 17 (T0 18 (c).toNat).toNat) (u := 8) (wl := wl1) (e_wl := show Gx 67 = wl1 from (ex_wl1)) (w := wh) (e_w := show Gx 68 = wh from ((hFx.1 68 rfl).trans (e_wh))) (lnn := A 16 (c).toNat) (e_lnn := show Ax 16 (c).toNat = A 16 (c).toNat from (congrFun (hFx.2 16 rfl) _))  (h_n := ⟨(Int.le_trans (by decide : (-2147483648 : Int) ≤ -2147483648) rx_c.1), (Int.le_trans rx_c.2 (by decide : (2147483647 : Int) ≤ 2147483647))⟩) (h_s := ⟨(Int.le_trans (by decide : (-2147483648 : Int) ≤ -2147483648) b128.1), (Int.le_trans b128.2 (by decide : (2147483647 : Int) ≤ 2147483647))⟩) (h_u := ⟨(by decide), (by decide)⟩)  (p_0 := (TA_fr hFx (by decide) p_0)) (p_1 := by omega) (p_2 := by omega) (p_3 := by omega) (p_4 := by omega) (p_5 := by omega) (p_6 := by omega) (p_7 := by omega) (p_8 := by omega) (p_9 := (p_11 _ hqp.2.2.1.2.2))) (fun o V_q hq => ?_)
              obtain ⟨G130, A131, wl2_132, rfl, rfl, hW133, hF134, e135, q136⟩ := hq
              have hF137 := Fr_tr hFx hF134 (Fr_sub (by decide)) (Fr_sub (by decide))
              have bwl2_132 : (-2147483648 : Int) ≤ wl2_132 ∧ wl2_132 ≤ 2147483647 := e135 ▸ hW133.1 67
              refine .inl ⟨rfl, ?_⟩
              rcases q136 with ⟨a138, a139⟩ | a140
              · have _q : True := trivial
                have hzc := hzz.2 (by omega)
                refine jx_ld (pc_q := 72) (l_q := L) (st_q := [.ref 66]) rfl (jl_aloadn gL_0) ?_
                refine jx_ld (pc_q := 73) (l_q := L) (st_q := [.ref 66, .ref 66]) rfl (jl_aloadn gL_0) ?_
                refine jr_get (pc_q := 76) (i := 38) (v := .ref 88) rfl rfl (by decide) rfl rfl ?_
                refine jx_ld (pc_q := 77) (l_q := L) (st_q := [.int (i32 (c)), .ref 88, .ref 66]) rfl (jl_iloadn gL_2) ?_
                have b141 : (-2147483648 : Int) ≤ T0 21 (c).toNat ∧ T0 21 (c).toNat ≤ 2147483647 := hWT.2 21 _
                refine jr_ldv (pc_q := 78) (i := 21) (m := 7000) (z := c) (y := T0 21 (c).toNat) rfl (by decide) rfl (by decide) (by omega) (by omega) rfl (show A131 21 (c).toNat = T0 21 (c).toNat from (congrFun ((hF134.2 21 rfl).trans ((hFx.2 21 rfl).trans (p_0 21 rfl))) _)) ?_
                refine jx_vr (pc_q := 81) (as := [.int (i32 (T0 21 (c).toNat))]) (st := []) rfl rfl rfl rfl ⟨rfl, rfl, Nat.le_of_ble_eq_true rfl⟩ rfl rfl (hC (dd := d) (hd := by omega) (hW := hW133) (p := T0 21 (c).toNat) (lo := fm) (hi := m1) (s0 := gt) (s1 := t1) (wl := wl2_132) (e_wl := show G130 67 = wl2_132 from (e135)) (wh := wh) (e_wh := show G130 68 = wh from ((hF134.1 68 rfl).trans ((hFx.1 68 rfl).trans (e_wh))))  (h_p := ⟨(Int.le_trans (by decide : (-2147483648 : Int) ≤ -2147483648) b141.1), (Int.le_trans b141.2 (by decide : (2147483647 : Int) ≤ 2147483647))⟩)  (p_0 := (TA_fr hF137 (by decide) p_0)) (p_1 := by omega) (p_2 := by omega) (p_3 := by omega) (p_4 := by omega) (p_5 := by omega) (p_6 := by omega) (p_7 := hVBc) (p_8 := (SA_fr2 (show A131 13 = Ax 13 from (hF134.2 13 rfl)) iv_2)) (p_9 := (BU_fr (show A131 11 = A 11 from ((hF134.2 11 rfl).trans (hFx.2 11 rfl))) p_9)) (p_10 := p_10) (p_11 := p_11) (p_12 := (MR_fr (show A131 16 = A 16 from ((hF134.2 16 rfl).trans (hFx.2 16 rfl))) (show A131 28 = A 28 from ((hF134.2 28 rfl).trans (hFx.2 28 rfl))) p_12)) (p_13 := by omega) (p_14 := by omega) (p_15 := hcf) (p_16 := hzc)) (fun o V_q hq => ?_)
                obtain ⟨G142, A143, wl2_144, rfl, rfl, hW145, hF146, e147, p148, p149, p150, p151, -⟩ := hq
                have hF153 := Fr_tr hF137 hF146 (Fr_sub (by decide)) (Fr_sub (by decide))
                have bwl2_144 : (-2147483648 : Int) ≤ wl2_144 ∧ wl2_144 ≤ 2147483647 := e147 ▸ hW145.1 67
                refine .inl ⟨rfl, ?_⟩
                refine jx_go (tg := 89) rfl rfl ?_
                have hro : wl2_144 = -1 → rO T0 wh (ckP T0 Bu wh k Sn) c := (fun q => ⟨fun q1 q2 => by omega, fun _ => p151 (by omega), fun q1 q2 => a139⟩)
                refine jx_ld (pc_q := 90) (l_q := L) (st_q := [.ref 66]) rfl (jl_aloadn gL_0) ?_
                refine jr_get (pc_q := 93) (i := 39) (v := .ref 89) rfl rfl (by decide) rfl rfl ?_
                refine jx_ld (pc_q := 94) (l_q := L) (st_q := [.int (i32 (c)), .ref 89]) rfl (jl_iloadn gL_2) ?_
                have b154 : (-2147483648 : Int) ≤ T0 22 (c).toNat ∧ T0 22 (c).toNat ≤ 2147483647 := hWT.2 22 _
                refine jr_ldv (pc_q := 95) (i := 22) (m := 7000) (z := c) (y := T0 22 (c).toNat) rfl (by decide) rfl (by decide) (by omega) (by omega) rfl (show A143 22 (c).toNat = T0 22 (c).toNat from (congrFun ((hF146.2 22 rfl).trans ((hF134.2 22 rfl).trans ((hFx.2 22 rfl).trans (p_0 22 rfl)))) _)) ?_
                refine jx_ld (pc_q := 96) (l_q := jSto1 L 2 (.int (i32 (T0 22 (c).toNat)))) (st_q := []) rfl rfl ?_
                obtain ⟨L155, eL155⟩ : ∃ q, q = jSto1 L 2 (.int (i32 (T0 22 (c).toNat))) := ⟨_, rfl⟩
                rw [← eL155]
                have gL155_0 : jGet L155 0 = some (.ref 66) := eL155 ▸ jg_ne (by decide) gL_0 rfl
                have gL155_1 : jGet L155 1 = some (.int (i32 (n))) := eL155 ▸ jg_ne (by decide) gL_1 rfl
                have gL155_2 : jGet L155 2 = some (.int (i32 (T0 22 (c).toNat))) := eL155 ▸ jg_eq
                refine jx_go (tg := 7) rfl rfl ?_
                exact ih7 _ (by omega) L155 G142 A143 (T0 22 (c).toNat) (wl2_144) (m1) (t1) rfl gL155_0 gL155_1 gL155_2 hW145 hF153 ((e147)) (by omega) (by omega) (by omega) (p150) (by omega) (by omega) (by omega) (by omega) ((hnx (fun _ => True) trivial)) ((fun q => CKq_nx (iv_8 (by omega)) (by omega) rfl (hro (by omega))))
              · have _q : True := trivial
                have hzc := hzz.2 (by omega)
                refine jx_ld (pc_q := 72) (l_q := L) (st_q := [.ref 66]) rfl (jl_aloadn gL_0) ?_
                refine jx_ld (pc_q := 73) (l_q := L) (st_q := [.ref 66, .ref 66]) rfl (jl_aloadn gL_0) ?_
                refine jr_get (pc_q := 76) (i := 38) (v := .ref 88) rfl rfl (by decide) rfl rfl ?_
                refine jx_ld (pc_q := 77) (l_q := L) (st_q := [.int (i32 (c)), .ref 88, .ref 66]) rfl (jl_iloadn gL_2) ?_
                have b156 : (-2147483648 : Int) ≤ T0 21 (c).toNat ∧ T0 21 (c).toNat ≤ 2147483647 := hWT.2 21 _
                refine jr_ldv (pc_q := 78) (i := 21) (m := 7000) (z := c) (y := T0 21 (c).toNat) rfl (by decide) rfl (by decide) (by omega) (by omega) rfl (show A131 21 (c).toNat = T0 21 (c).toNat from (congrFun ((hF134.2 21 rfl).trans ((hFx.2 21 rfl).trans (p_0 21 rfl))) _)) ?_
                refine jx_vr (pc_q := 81) (as := [.int (i32 (T0 21 (c).toNat))]) (st := []) rfl rfl rfl rfl ⟨rfl, rfl, Nat.le_of_ble_eq_true rfl⟩ rfl rfl (hC (dd := d) (hd := by omega) (hW := hW133) (p := T0 21 (c).toNat) (lo := fm) (hi := m1) (s0 := gt) (s1 := t1) (wl := wl2_132) (e_wl := show G130 67 = wl2_132 from (e135)) (wh := wh) (e_wh := show G130 68 = wh from ((hF134.1 68 rfl).trans ((hFx.1 68 rfl).trans (e_wh))))  (h_p := ⟨(Int.le_trans (by decide : (-2147483648 : Int) ≤ -2147483648) b156.1), (Int.le_trans b156.2 (by decide : (2147483647 : Int) ≤ 2147483647))⟩)  (p_0 := (TA_fr hF137 (by decide) p_0)) (p_1 := by omega) (p_2 := by omega) (p_3 := by omega) (p_4 := by omega) (p_5 := by omega) (p_6 := by omega) (p_7 := hVBc) (p_8 := (SA_fr2 (show A131 13 = Ax 13 from (hF134.2 13 rfl)) iv_2)) (p_9 := (BU_fr (show A131 11 = A 11 from ((hF134.2 11 rfl).trans (hFx.2 11 rfl))) p_9)) (p_10 := p_10) (p_11 := p_11) (p_12 := (MR_fr (show A131 16 = A 16 from ((hF134.2 16 rfl).trans (hFx.2 16 rfl))) (show A131 28 = A 28 from ((hF134.2 28 rfl).trans (hFx.2 28 rfl))) p_12)) (p_13 := by omega) (p_14 := by omega) (p_15 := hcf) (p_16 := hzc)) (fun o V_q hq => ?_)
                obtain ⟨G157, A158, wl2_159, rfl, rfl, hW160, hF161, e162, p163, p164, p165, p166, -⟩ := hq
                have hF168 := Fr_tr hF137 hF161 (Fr_sub (by decide)) (Fr_sub (by decide))
                have bwl2_159 : (-2147483648 : Int) ≤ wl2_159 ∧ wl2_159 ≤ 2147483647 := e162 ▸ hW160.1 67
                refine .inl ⟨rfl, ?_⟩
                refine jx_go (tg := 89) rfl rfl ?_
                have hro : wl2_159 = -1 → rO T0 wh (ckP T0 Bu wh k Sn) c := (fun q => ⟨fun q1 q2 => by omega, fun _ => p166 (by omega), fun q1 q2 => by omega⟩)
                refine jx_ld (pc_q := 90) (l_q := L) (st_q := [.ref 66]) rfl (jl_aloadn gL_0) ?_
                refine jr_get (pc_q := 93) (i := 39) (v := .ref 89) rfl rfl (by decide) rfl rfl ?_
                refine jx_ld (pc_q := 94) (l_q := L) (st_q := [.int (i32 (c)), .ref 89]) rfl (jl_iloadn gL_2) ?_
                have b169 : (-2147483648 : Int) ≤ T0 22 (c).toNat ∧ T0 22 (c).toNat ≤ 2147483647 := hWT.2 22 _
                refine jr_ldv (pc_q := 95) (i := 22) (m := 7000) (z := c) (y := T0 22 (c).toNat) rfl (by decide) rfl (by decide) (by omega) (by omega) rfl (show A158 22 (c).toNat = T0 22 (c).toNat from (congrFun ((hF161.2 22 rfl).trans ((hF134.2 22 rfl).trans ((hFx.2 22 rfl).trans (p_0 22 rfl)))) _)) ?_
                refine jx_ld (pc_q := 96) (l_q := jSto1 L 2 (.int (i32 (T0 22 (c).toNat)))) (st_q := []) rfl rfl ?_
                obtain ⟨L170, eL170⟩ : ∃ q, q = jSto1 L 2 (.int (i32 (T0 22 (c).toNat))) := ⟨_, rfl⟩
                rw [← eL170]
                have gL170_0 : jGet L170 0 = some (.ref 66) := eL170 ▸ jg_ne (by decide) gL_0 rfl
                have gL170_1 : jGet L170 1 = some (.int (i32 (n))) := eL170 ▸ jg_ne (by decide) gL_1 rfl
                have gL170_2 : jGet L170 2 = some (.int (i32 (T0 22 (c).toNat))) := eL170 ▸ jg_eq
                refine jx_go (tg := 7) rfl rfl ?_
                exact ih7 _ (by omega) L170 G157 A158 (T0 22 (c).toNat) (wl2_159) (m1) (t1) rfl gL170_0 gL170_1 gL170_2 hW160 hF168 ((e162)) (by omega) (by omega) (by omega) (p165) (by omega) (by omega) (by omega) (by omega) ((hnx (fun _ => True) trivial)) ((fun q => CKq_nx (iv_8 (by omega)) (by omega) rfl (hro (by omega))))
set_option maxRecDepth 20000 in
set_option maxHeartbeats 4000000 in
theorem c_checkRow {X : jX} {k : Nat} (hC : CK X k) {dd : Nat} {T0 : Nat → Nat → Int} {Sn Bu : Int → Int} {Vs : Nat → Prop} {sb pb nd : Int} {Fm : Int → Int → Int → Prop} {c0 c1 : jC} {G : Nat → Int} {A : Nat → Nat → Int} {T : jH} {n : Int} {lo hi s0 s1 : Int} {wl wh : Int} (hd : 3 * k + 81 ≤ dd) (hW : Wk G A) (e_wl : G 67 = wl) (e_wh : G 68 = wh) (h_n : (-2147483648 : Int) ≤ n ∧ n ≤ 2147483647) (p_0 : TA T0 A) (p_1 : 1 ≤ lo) (p_2 : hi ≤ nd) (p_3 : nd ≤ 6999) (p_4 : sb ≤ 202) (p_5 : 0 ≤ s0) (p_6 : s1 ≤ sb) (p_7 : VB (Vs) (s0)) (p_8 : SA T0 Vs Sn A) (p_9 : BUr T0 Bu pb A) (p_10 : Fbd Fm 7324) (p_11 : LKV T0 Vs) (p_12 : MRx T0 A nd) (p_13 : -1 ≤ wl ∧ wl ≤ 3000) (p_14 : ((k : Nat) : Int) ≤ 18) (p_15 : 0 ≤ n) (p_16 : n < lo) (p_17 : lo ≤ hi) (p_18 : s0 ≤ s1) (p_19 : LQ T0 (rT T0 sb pb k Vs) (fun _ => True) (n) (T0 21 (n).toNat) (lo) (hi) (s0) (s1) (lo) (s0)) (p_20 : (∀ l, CH T0 (T0 21 (n).toNat) l → ∀ c ∈ l, (T0 15 c.toNat ≠ 33 → T0 15 c.toNat ≠ 34 → vP T0 Bu k Sn (fun s al e _ => Fm s al e) c) ∧ (T0 15 c.toNat = 33 ∨ T0 15 c.toNat = 34 → vP T0 Bu k Sn (fun s al e _ => Fm s al e) (T0 21 c.toNat)))) : wk X dd 340 [.ref 66, .int (i32 n)] (rV c0 c1 G A T) (fun o V_q => ∃ (G_q : Nat → Int) (A_q : Nat → Nat → Int) (wl2 : Int), V_q = rV c0 c1 G_q A_q T ∧ o = .inl none ∧ Wk G_q A_q ∧ Fr [61, 62, 67] [13, 39, 40, 41, 42, 43] G A G_q A_q ∧ G_q 67 = wl2 ∧ (-1 ≤ wl2 ∧ wl2 ≤ 3000) ∧ (wl = -1 ∨ 0 ≤ wl2) ∧ (SA T0 Vs Sn A_q) ∧ ((wl2) = -1 → ∀ l, CH T0 (T0 21 (n).toNat) l → ∀ c ∈ l, rO T0 wh (ckP T0 Bu wh k Sn) c) ∧ True) := by
  obtain ⟨d, rfl⟩ : ∃ d, dd = d + 1 := ⟨dd - 1, by omega⟩
  refine wk_of (e := jm340) rfl (Nat.le_of_ble_eq_true rfl) ?_
  show wj X d jm340 (0, [(0, .ref 66), (1, .int (i32 (n)))], [], rV c0 c1 G A T) _
  have hF0 : Fr [61, 62, 67] [13, 39, 40, 41, 42, 43] G A G A := Fr_rf
  have b_wl : (-2147483648 : Int) ≤ wl ∧ wl ≤ 2147483647 := e_wl ▸ hW.1 67
  have b_wh : (-2147483648 : Int) ≤ wh ∧ wh ≤ 2147483647 := e_wh ▸ hW.1 68
  have hWT := TA_w hW p_0
  refine jx_ld (pc_q := 1) (l_q := [(0, .ref 66), (1, .int (i32 (n)))]) (st_q := [.ref 66]) rfl (jl_aloadn rfl) ?_
  refine jr_get (pc_q := 4) (i := 38) (v := .ref 88) rfl rfl (by decide) rfl rfl ?_
  refine jx_ld (pc_q := 5) (l_q := [(0, .ref 66), (1, .int (i32 (n)))]) (st_q := [.int (i32 (n)), .ref 88]) rfl (jl_iloadn rfl) ?_
  have b171 : (-2147483648 : Int) ≤ T0 21 (n).toNat ∧ T0 21 (n).toNat ≤ 2147483647 := hWT.2 21 _
  refine jr_ldv (pc_q := 6) (i := 21) (m := 7000) (z := n) (y := T0 21 (n).toNat) rfl (by decide) rfl (by decide) (by omega) (by omega) rfl (show A 21 (n).toNat = T0 21 (n).toNat from (congrFun (p_0 21 rfl) _)) ?_
  have _q : True := trivial
  refine jx_ld (pc_q := 7) (l_q := jSto1 [(0, .ref 66), (1, .int (i32 (n)))] 2 (.int (i32 (T0 21 (n).toNat)))) (st_q := []) rfl rfl ?_
  obtain ⟨L172, eL172⟩ : ∃ q, q = jSto1 [(0, .ref 66), (1, .int (i32 (n)))] 2 (.int (i32 (T0 21 (n).toNat))) := ⟨_, rfl⟩
  rw [← eL172]
  have gL172_0 : jGet L172 0 = some (.ref 66) := eL172 ▸ jg_ne (by decide) (rfl : jGet [(0, .ref 66), (1, .int (i32 (n)))] 0 = some (.ref 66)) rfl
  have gL172_1 : jGet L172 1 = some (.int (i32 (n))) := eL172 ▸ jg_ne (by decide) (rfl : jGet [(0, .ref 66), (1, .int (i32 (n)))] 1 = some (.int (i32 (n)))) rfl
  have gL172_2 : jGet L172 2 = some (.int (i32 (T0 21 (n).toNat))) := eL172 ▸ jg_eq
  exact c_checkRow_at_7 (X := X) (k := k) (hC := hC) (d := d) (T0 := T0) (Sn := Sn) (Bu := Bu) (Vs := Vs) (sb := sb) (pb := pb) (nd := nd) (Fm := Fm) (c0 := c0) (c1 := c1) (G := G) (A := A) (T := T) (n := n) (lo := lo) (hi := hi) (s0 := s0) (s1 := s1) (wl := wl) (wh := wh) (hd := hd) (hW := hW) (e_wl := e_wl) (e_wh := e_wh) (h_n := h_n) (p_0 := p_0) (p_1 := p_1) (p_2 := p_2) (p_3 := p_3) (p_4 := p_4) (p_5 := p_5) (p_6 := p_6) (p_7 := p_7) (p_8 := p_8) (p_9 := p_9) (p_10 := p_10) (p_11 := p_11) (p_12 := p_12) (p_13 := p_13) (p_14 := p_14) (p_15 := p_15) (p_16 := p_16) (p_17 := p_17) (p_18 := p_18) (p_19 := p_19) (p_20 := p_20) _ L172 G A (T0 21 (n).toNat) (wl) (lo) (s0) rfl gL172_0 gL172_1 gL172_2 hW hF0 ((e_wl)) (by omega) (by omega) (by omega) (p_8) (by omega) (by omega) (by omega) (by omega) (p_19) ((fun _ => CKq_0 (LQ_ch p_19) rfl))
