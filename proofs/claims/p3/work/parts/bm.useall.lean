/-! all uses of a process -/
section
variable {T A A1 A2 A3 : Nat → Nat → Int} {Bu S : Int → Int} {n : Nat} {uf us us1 us2 us3 p : Int}
theorem vs_no (k : T 15 p.toNat < 22 ∨ 32 < T 15 p.toNat) : UX A A uf us us (fun Q => vP T Bu (n + 1) S Q p) := UX_z (fun Q => ⟨fun _ => trivial, fun _ => ⟨fun w => by omega, fun w => by omega, fun w => by omega, fun w => by omega, fun w => by omega, fun w => by omega, fun w => by omega, fun w => by omega, fun w => by omega⟩⟩) UX_0
theorem vs_22 (h0 : 0 ≤ uf) (k : T 15 p.toNat = 22) (h : UX A A1 uf us us1 (fun Q => eU T (Rf S) 30 Q (T 18 p.toNat))) (g : UX A1 A2 uf us1 us2 (fun Q => rU T (Rf S) (eU T (Rf S) 30) Q (T 17 p.toNat) 2)) : UX A A2 uf us us2 (fun Q => vP T Bu (n + 1) S Q p) := UX_z (fun Q => ⟨fun w => w.1 k, fun w => ⟨fun _ => w, fun w => by omega, fun w => by omega, fun w => by omega, fun w => by omega, fun w => by omega, fun w => by omega, fun w => by omega, fun w => by omega⟩⟩) (UX_t h0 eU_mon h g)
theorem vs_23 (h0 : 0 ≤ uf) (k : T 15 p.toNat = 23) (h : UX A A1 uf us us1 (fun Q => eU T (Rf S) 30 Q (T 18 p.toNat))) (g : UX A1 A2 uf us1 us2 (fun Q => rU T (Rf S) (eU T (Rf S) 30) Q (T 17 p.toNat) 4)) : UX A A2 uf us us2 (fun Q => vP T Bu (n + 1) S Q p) := UX_z (fun Q => ⟨fun w => w.2.1 k, fun w => ⟨fun w => by omega, fun _ => w, fun w => by omega, fun w => by omega, fun w => by omega, fun w => by omega, fun w => by omega, fun w => by omega, fun w => by omega⟩⟩) (UX_t h0 eU_mon h g)
theorem vs_24 (h0 : 0 ≤ uf) (k : T 15 p.toNat = 24) (h : UX A A1 uf us us1 (fun Q => rU T (Rf S) (eU T (Rf S) 30) Q (T 17 p.toNat) 8)) (g : UX A1 A2 uf us1 us2 (fun Q => rU T (Rf S) (eU T (Rf S) 30) Q (T 18 p.toNat) 2)) : UX A A2 uf us us2 (fun Q => vP T Bu (n + 1) S Q p) := UX_z (fun Q => ⟨fun w => w.2.2.1 k, fun w => ⟨fun w => by omega, fun w => by omega, fun _ => w, fun w => by omega, fun w => by omega, fun w => by omega, fun w => by omega, fun w => by omega, fun w => by omega⟩⟩) (UX_t h0 (rU_mon (fun _ => eU_mon)) h g)
theorem vs_25 (k : T 15 p.toNat = 25) (h : UX A A1 uf us us1 (fun Q => ∀ l, CH T (T 21 p.toNat) l → ∀ a ∈ l, aU T Bu (Rf S) Q a)) : UX A A1 uf us us1 (fun Q => vP T Bu (n + 1) S Q p) := UX_z (fun Q => ⟨fun w => w.2.2.2.1 k, fun w => ⟨fun w => by omega, fun w => by omega, fun w => by omega, fun _ => w, fun w => by omega, fun w => by omega, fun w => by omega, fun w => by omega, fun w => by omega⟩⟩) h
theorem vs_26 (k : T 15 p.toNat = 26 ∨ T 15 p.toNat = 28) (h : UX A A1 uf us us1 (fun Q => ∀ l, CH T (T 21 p.toNat) l → ∀ c ∈ l, vP T Bu n S Q c)) : UX A A1 uf us us1 (fun Q => vP T Bu (n + 1) S Q p) := UX_z (fun Q => ⟨fun w => w.2.2.2.2.1 k, fun w => ⟨fun w => by omega, fun w => by omega, fun w => by omega, fun w => by omega, fun _ => w, fun w => by omega, fun w => by omega, fun w => by omega, fun w => by omega⟩⟩) h
theorem vs_27 (h0 : 0 ≤ uf) (k : T 15 p.toNat = 27) (h : UX A A1 uf us us1 (fun Q => eU T (Rf S) 30 Q (T 19 p.toNat))) (g : UX A1 A2 uf us1 us2 (fun Q => eU T (Rf S) 30 Q (T 20 p.toNat))) (f : UX A2 A3 uf us2 us3 (fun Q => vP T Bu n S Q (T 21 p.toNat))) : UX A A3 uf us us3 (fun Q => vP T Bu (n + 1) S Q p) := UX_z (fun Q => ⟨fun w => w.2.2.2.2.2.1 k, fun w => ⟨fun w => by omega, fun w => by omega, fun w => by omega, fun w => by omega, fun w => by omega, fun _ => w, fun w => by omega, fun w => by omega, fun w => by omega⟩⟩) (UX_t h0 (Mon_a eU_mon eU_mon) (UX_t h0 eU_mon h g) f)
theorem vs_29 (k : T 15 p.toNat = 29) (h : UX A A1 uf us us1 (fun Q => ∀ j : Nat, (j : Int) < T 20 p.toNat → vP T Bu n (sB T S p j) Q (T 21 p.toNat))) : UX A A1 uf us us1 (fun Q => vP T Bu (n + 1) S Q p) := UX_z (fun Q => ⟨fun w => w.2.2.2.2.2.2.1 k, fun w => ⟨fun w => by omega, fun w => by omega, fun w => by omega, fun w => by omega, fun w => by omega, fun w => by omega, fun _ => w, fun w => by omega, fun w => by omega⟩⟩) h
theorem vs_31 (h0 : 0 ≤ uf) (k : T 15 p.toNat = 31) (h : UX A A1 uf us us1 (fun Q => eU T (Rf S) 30 Q (T 17 p.toNat))) (g : UX A1 A2 uf us1 us2 (fun Q => vP T Bu n S Q (T 21 p.toNat))) : UX A A2 uf us us2 (fun Q => vP T Bu (n + 1) S Q p) := UX_z (fun Q => ⟨fun w => w.2.2.2.2.2.2.2.1 k, fun w => ⟨fun w => by omega, fun w => by omega, fun w => by omega, fun w => by omega, fun w => by omega, fun w => by omega, fun w => by omega, fun _ => w, fun w => by omega⟩⟩) (UX_t h0 eU_mon h g)
theorem vs_30 (k : T 15 p.toNat = 30 ∨ T 15 p.toNat = 32) (h : UX A A1 uf us us1 (fun Q => ∀ l, CH T (T 21 p.toNat) l → ∀ c ∈ l, cU T (Rf S) (vP T Bu n S) Q c)) : UX A A1 uf us us1 (fun Q => vP T Bu (n + 1) S Q p) := UX_z (fun Q => ⟨fun w => w.2.2.2.2.2.2.2.2 k, fun w => ⟨fun w => by omega, fun w => by omega, fun w => by omega, fun w => by omega, fun w => by omega, fun w => by omega, fun w => by omega, fun w => by omega, fun _ => w⟩⟩) h
/-- the branches of a PAR FOR before i -/
def UXf (T A A_q : Nat → Nat → Int) (Bu S : Int → Int) (n : Nat) (uf us us2 p i : Int) : Prop := UX A A_q uf us us2 (fun Q => ∀ j : Nat, (j : Int) < i → vP T Bu n (sB T S p j) Q (T 21 p.toNat))
theorem UXf_0 {i : Int} (hi : i ≤ 0) : UXf T A A Bu S n uf us us p i := UX_z (fun Q => ⟨fun _ => trivial, fun _ j hj => absurd hj (by omega)⟩) UX_0
theorem UXf_nx {i i_q : Int} (h0 : 0 ≤ uf) (hi : 0 ≤ i) (hi_q : i_q = i + 1) (h : UXf T A A1 Bu S n uf us us1 p i) (g : UX A1 A2 uf us1 us2 (fun Q => vP T Bu n (sB T S p i.toNat) Q (T 21 p.toNat))) : UXf T A A2 Bu S n uf us us2 p i_q := by
  have m : Mon (fun Q => ∀ j : Nat, (j : Int) < i → vP T Bu n (sB T S p j) Q (T 21 p.toNat)) := fun U U' s h j hj => vP_mon (T := T) (Bu := Bu) (n := n) (S := sB T S p j) (p := T 21 p.toNat) U U' s (h j hj)
  have h_q : UX A A1 uf us us1 (fun Q => ∀ j : Nat, (j : Int) < i → vP T Bu n (sB T S p j) Q (T 21 p.toNat)) := h
  refine UX_z (fun Q => ⟨fun w => ⟨fun j hj => w j (by omega), w i.toNat (by omega)⟩, fun w j hj => ?_⟩) (UX_t h0 m h_q g)
  by_cases q : (j : Int) < i
  · exact w.1 j q
  · have e : j = i.toNat := by omega
    rw [e]
    exact w.2
theorem UXf_e {i : Int} (k : T 15 p.toNat = 29) (hi : i = T 20 p.toNat) (h : UXf T A A1 Bu S n uf us us1 p i) : UX A A1 uf us us1 (fun Q => vP T Bu (n + 1) S Q p) := by
  subst hi
  exact vs_29 k h
theorem UX_st {k : Nat} {j : Nat} {v : Int} (e : A1 = uA A k j v) (hk : k ≠ 39 ∧ k ≠ 40 ∧ k ≠ 41 ∧ k ≠ 42) : UX A A1 uf us us (fun _ => True) := by
  have r : ∀ i : Nat, i ≠ k → A1 i = A i := fun i hi => by rw [e]; exact uA_ne hi
  refine ⟨Int.le_refl _, fun j _ _ => ?_, trivial, fun Q _ _ h j j0 j1 => ?_⟩
  · rw [r 39 (by omega), r 40 (by omega), r 41 (by omega), r 42 (by omega)]
    exact ⟨rfl, rfl, rfl, hb_rf, fun _ => rfl⟩
  · rw [r 39 (by omega), r 40 (by omega), r 41 (by omega), r 42 (by omega)]
    exact h j j0 j1
theorem UX_s2 {k : Nat} {j : Nat} {v : Int} {Z : Us → Prop} (h0 : 0 ≤ uf) (e : A1 = uA A k j v) (hk : k ≠ 39 ∧ k ≠ 40 ∧ k ≠ 41 ∧ k ≠ 42) (h : UX A1 A2 uf us us2 Z) : UX A A2 uf us us2 Z := UX_z (fun Q => ⟨fun w => ⟨trivial, w⟩, fun w => w.2⟩) (UX_t h0 (fun _ _ _ _ => trivial) (UX_st e hk) h)
theorem UI_st {Fm : Int → Int → Int → Prop} {k : Nat} {j : Nat} {v : Int} (e : A1 = uA A k j v) (hk : k ≠ 39 ∧ k ≠ 40 ∧ k ≠ 41 ∧ k ≠ 42) (h : UI Fm A uf us) : UI Fm A1 uf us := by
  have r : ∀ i : Nat, i ≠ k → A1 i = A i := fun i hi => by rw [e]; exact uA_ne hi
  unfold UI Ds eqk at h ⊢
  rw [r 39 (by omega), r 40 (by omega), r 41 (by omega), r 42 (by omega)]
  exact h
theorem sB_t {i t v : Int} (k : T 15 p.toNat = 29) (ht : t = T 17 p.toNat) (hi : 0 ≤ i) (hv : v = (i32 (T 19 p.toNat + i)).toInt) : sB T S p i.toNat t = v := by
  unfold sB
  rw [if_pos ⟨k, ht⟩, show ((i.toNat : Nat) : Int) = i by omega]
  exact hv.symm
theorem sB_o {i t : Int} (ht : t = T 17 p.toNat) : ∀ s, s ≠ t → sB T S p i.toNat s = S s := fun s n => by
  unfold sB
  exact if_neg (fun w => n (w.2.trans ht.symm))
end
theorem LQ_ch2 {T : Nat → Nat → Int} {sb pb : Int} {k : Nat} {V : Nat → Prop} {n c lo hi s0 s1 : Int} {l : List Int} (h : CH T (T 21 n.toNat) l) (w : wCs (wI T V sb (wP T sb pb k V)) l lo hi s0 s1 ∨ wCs (wG T V sb (wP T sb pb k V)) l lo hi s0 s1) (hc : c = T 21 n.toNat) : LQ T (chT T sb pb k V) (fun _ => True) n c lo hi s0 s1 lo s0 := by
  refine LQ_0 (N := fun _ => True) h ?_ hc trivial
  rcases w with w | w
  · exact wCs_id (fun _ _ _ _ _ z => Or.inl z) w
  · exact wCs_id (fun _ _ _ _ _ z => Or.inr z) w
theorem Z_c {T : Nat → Nat → Int} {W : Int → Prop} {R : Int → Int → Int → Int → Int → Prop} {n c lo hi s0 s1 m t : Int} (h : LQ T R (fun _ => True) n c lo hi s0 s1 m t) (hc : 0 < c) (g : ∀ l, CH T (T 21 n.toNat) l → ∀ e ∈ l, W e) : W c := LQ_lay (M := fun _ => True) h hc g
theorem Z_a {T : Nat → Nat → Int} {W : Int → Prop} {V : Nat → Prop} {sb q n c lo hi m : Int} (h : LAr T V sb q n c lo hi m) (hc : 0 < c) (g : ∀ l, CH T (T 21 n.toNat) l → ∀ e ∈ l, W e) : W c := by
  obtain ⟨l1, l2, h1, h2, _⟩ := h
  cases l2 with
  | nil =>
    have : c = 0 := h2
    omega
  | cons e l =>
    obtain ⟨rfl, _⟩ := h2
    exact g _ h1 c (List.mem_append.mpr (Or.inr List.mem_cons_self))
set_option maxRecDepth 20000 in
set_option maxHeartbeats 4000000 in
theorem c_useAll_s_at_309 {X : jX} {k : Nat} (hA : UA X k) {d : Nat} {T0 : Nat → Nat → Int} {Sn Bu : Int → Int} {Vs : Nat → Prop} {sb pb M : Int} {Fm : Int → Int → Int → Prop} {c0 c1 : jC} {G : Nat → Int} {A : Nat → Nat → Int} {T : jH} {p : Int} {lo hi s0 s1 : Int} {uf us : Int} (hd : 2 * (k + 1) + 70 ≤ d + 1) (hW : Wk G A) (e_uf : G 62 = uf) (e_us : G 61 = us) (h_p : (-2147483648 : Int) ≤ p ∧ p ≤ 2147483647) (p_0 : TA T0 A) (p_1 : 0 ≤ lo) (p_2 : hi ≤ 6999) (p_3 : sb ≤ 202) (p_4 : 0 ≤ uf) (p_5 : uf ≤ us) (p_6 : uf + M ≤ 59999) (p_7 : UI Fm A (uf) (us)) (p_8 : Fbd Fm M) (p_9 : 0 ≤ s0) (p_10 : s1 ≤ sb) (p_11 : wP T0 sb pb (k + 1) (Vs) (p) (lo) (hi) (s0) (s1)) (p_12 : VB (Vs) (s0)) (p_13 : SA T0 Vs Sn A) (p_14 : BUr T0 Bu pb A) (p_15 : vP T0 Bu (k + 1) Sn (fun s al e _ => Fm s al e) (p)) : ∀ (m : Nat) (L : jL) (Gx : Nat → Int) (Ax : Nat → Nat → Int) (c us1 gm gt : Int), (hi - gm).toNat = m → jGet L 0 = some (.ref 66) → jGet L 1 = some (.int (i32 (p))) → jGet L 2 = some (.int (i32 c)) → Wk Gx Ax → Fr [61] [13, 39, 40, 41, 42] G A Gx Ax → Gx 61 = us1 → ((-2147483648 : Int) ≤ c ∧ c ≤ 2147483647) → (us ≤ us1) → (UI Fm Ax (uf) (us1)) → (SA T0 (Vd Vs s0 (s0 + T0 24 (p).toNat)) Sn Ax) → (T0 15 (p).toNat = 30 ∨ T0 15 (p).toNat = 32) → (p + 1 ≤ gm) → (gm ≤ hi) → (s0 + T0 24 (p).toNat ≤ gt) → (gt ≤ s1) → (LQ T0 (chT T0 sb pb k (Vd Vs s0 (s0 + T0 24 (p).toNat))) (fun _ => True) (p) (c) (p + 1) (hi) (s0 + T0 24 (p).toNat) (s1) (gm) (gt)) → (UXq T0 (fun Q x => cU T0 (Rf Sn) (vP T0 Bu k Sn) Q x) A Ax (uf) (us) (us1) (p) (c)) → wj X d jm329 (309, L, [], rV c0 c1 Gx Ax T) (fun o V_q => ∃ (G_q : Nat → Int) (A_q : Nat → Nat → Int) (us2 : Int), V_q = rV c0 c1 G_q A_q T ∧ o = .inl none ∧ Wk G_q A_q ∧ Fr [61] [13, 39, 40, 41, 42] G A G_q A_q ∧ G_q 61 = us2 ∧ (us ≤ us2) ∧ (UI Fm A_q (uf) (us2)) ∧ (SA T0 Vs Sn A_q) ∧ (UX A A_q (uf) (us) (us2) (fun Q => vP T0 Bu (k + 1) Sn Q (p))) ∧ True) := by
  have hF0 : Fr [61] [13, 39, 40, 41, 42] G A G A := Fr_rf
  have b_uf : (-2147483648 : Int) ≤ uf ∧ uf ≤ 2147483647 := e_uf ▸ hW.1 62
  have b_us : (-2147483648 : Int) ≤ us ∧ us ≤ 2147483647 := e_us ▸ hW.1 61
  have hWT := TA_w hW p_0
  have hwp := p_11; unfold wP at hwp; obtain ⟨w1, w2, w3, w4, w5, w6, w7, w8⟩ := hwp; have hz : vS T0 Bu (vP T0 Bu k) Sn (fun s al e _ => Fm s al e) p := p_15; obtain ⟨z1, z2, z3, z4, z5, z6, z7, z8, z9⟩ := hz; have hSA1 : SA T0 (Vd Vs s0 (s0 + T0 24 (p).toNat)) Sn A := SA_d p_13 w7; have hVB1 : VB (Vd Vs s0 (s0 + T0 24 (p).toNat)) (s0 + T0 24 (p).toNat) := VB_d p_12 (by omega); have hkk := wS_kd w8
  intro m
  induction m using Nat.strongRecOn with
  | ind m ih309 =>
    intro L Gx Ax c us1 gm gt hm gL_0 gL_1 gL_2 hWx hFx ex_us1 rx_c iv_0 iv_1 iv_2 iv_3 iv_4 iv_5 iv_6 iv_7 iv_8 iv_9
    have b_us1 : (-2147483648 : Int) ≤ us1 ∧ us1 ≤ 2147483647 := ex_us1 ▸ hWx.1 61
    have _q : True := trivial
    refine jx_ld (pc_q := 310) (l_q := L) (st_q := [.int (i32 (c))]) rfl (jl_iloadn gL_2) ?_
    refine jx_if_le (pc_q := 313) (tg := 328) rfl rfl rfl (Int.le_trans (by decide : (-2147483648 : Int) ≤ -2147483648) rx_c.1) (Int.le_trans rx_c.2 (by decide : (2147483647 : Int) ≤ 2147483647)) (fun h1 => ?_) (fun h1 => ?_)
    · have _q := h1
      refine jx_go (tg := 331) rfl rfl ?_
      have _q : True := trivial
      refine jx_rt (v := none) rfl rfl rfl rfl rfl rfl ?_
      exact ⟨_, _, us1, rfl, rfl, hWx, hFx, (ex_us1), by omega, iv_1, (SA_su Vd_l iv_2), (vs_30 iv_3 (UXq_end iv_9 (by omega))), trivial⟩
    · have _q := h1
      obtain ⟨l1, m1, t1, q1, q2, q3, q4, q5, q6, hwC, _, _, hnx⟩ := LQ_hd iv_8 (by omega); have hwi := ch_k hwC; have hwj := hwi.1; have hwk := hwi.2.1; have hzz := Z_c iv_8 (by omega) (z9 iv_3); have hVBc : VB (Vd Vs s0 (s0 + T0 24 (p).toNat)) gt := VB_mo hVB1 (by omega)
      refine jx_ld (pc_q := 314) (l_q := L) (st_q := [.ref 66]) rfl (jl_aloadn gL_0) ?_
      refine jx_ld (pc_q := 315) (l_q := L) (st_q := [.int (i32 (c)), .ref 66]) rfl (jl_iloadn gL_2) ?_
      refine jx_vr (pc_q := 318) (as := [.int (i32 (c))]) (st := []) rfl rfl rfl rfl ⟨rfl, rfl, Nat.le_of_ble_eq_true rfl⟩ rfl rfl (c_useChoice (dd := d) (hA := hA) (hd := by omega) (hW := hWx) (c := c) (lo := gm) (hi := m1) (s0 := gt) (s1 := t1) (uf := uf) (e_uf := show Gx 62 = uf from ((hFx.1 62 rfl).trans (e_uf))) (us := us1) (e_us := show Gx 61 = us1 from (ex_us1))  (h_c := ⟨(Int.le_trans (by decide : (-2147483648 : Int) ≤ -2147483648) rx_c.1), (Int.le_trans rx_c.2 (by decide : (2147483647 : Int) ≤ 2147483647))⟩)  (p_0 := (TA_fr hFx (by decide) p_0)) (p_1 := by omega) (p_2 := by omega) (p_3 := by omega) (p_4 := by omega) (p_5 := by omega) (p_6 := by omega) (p_7 := iv_1) (p_8 := p_8) (p_9 := by omega) (p_10 := by omega) (p_11 := hwC) (p_12 := hVBc) (p_13 := iv_2) (p_14 := (BU_fr (show Ax 11 = A 11 from (hFx.2 11 rfl)) p_14)) (p_15 := hzz)) (fun o V_q hq => ?_)
      obtain ⟨G2, A3, us2_4, rfl, rfl, hW5, hF6, e7, p8, p9, p10, p11, -⟩ := hq
      have hF13 := Fr_tr hFx hF6 (Fr_sub (by decide)) (Fr_sub (by decide))
      have bus2_4 : (-2147483648 : Int) ≤ us2_4 ∧ us2_4 ≤ 2147483647 := e7 ▸ hW5.1 61
      refine .inl ⟨rfl, ?_⟩
      refine jx_ld (pc_q := 319) (l_q := L) (st_q := [.ref 66]) rfl (jl_aloadn gL_0) ?_
      refine jr_get (pc_q := 322) (i := 39) (v := .ref 89) rfl rfl (by decide) rfl rfl ?_
      refine jx_ld (pc_q := 323) (l_q := L) (st_q := [.int (i32 (c)), .ref 89]) rfl (jl_iloadn gL_2) ?_
      have b14 : (-2147483648 : Int) ≤ T0 22 (c).toNat ∧ T0 22 (c).toNat ≤ 2147483647 := hWT.2 22 _
      refine jr_ldv (pc_q := 324) (i := 22) (m := 7000) (z := c) (y := T0 22 (c).toNat) rfl (by decide) rfl (by decide) (by omega) (by omega) rfl (show A3 22 (c).toNat = T0 22 (c).toNat from (congrFun ((hF6.2 22 rfl).trans ((hFx.2 22 rfl).trans (p_0 22 rfl))) _)) ?_
      refine jx_ld (pc_q := 325) (l_q := jSto1 L 2 (.int (i32 (T0 22 (c).toNat)))) (st_q := []) rfl rfl ?_
      obtain ⟨L15, eL15⟩ : ∃ q, q = jSto1 L 2 (.int (i32 (T0 22 (c).toNat))) := ⟨_, rfl⟩
      rw [← eL15]
      have gL15_0 : jGet L15 0 = some (.ref 66) := eL15 ▸ jg_ne (by decide) gL_0 rfl
      have gL15_1 : jGet L15 1 = some (.int (i32 (p))) := eL15 ▸ jg_ne (by decide) gL_1 rfl
      have gL15_2 : jGet L15 2 = some (.int (i32 (T0 22 (c).toNat))) := eL15 ▸ jg_eq
      refine jx_go (tg := 309) rfl rfl ?_
      exact ih309 _ (by omega) L15 G2 A3 (T0 22 (c).toNat) (us2_4) (m1) (t1) rfl gL15_0 gL15_1 gL15_2 hW5 hF13 ((e7)) (by omega) (by omega) (p9) (p10) (by omega) (by omega) (by omega) (by omega) (by omega) ((hnx (fun _ => True) trivial)) ((UXq_nx (by omega) iv_9 (by omega) rfl (fun x => cU_mon (fun _ => vP_mon)) p11))
set_option maxRecDepth 20000 in
set_option maxHeartbeats 4000000 in
theorem c_useAll_s_at_257 {X : jX} {k : Nat} (hA : UA X k) {d : Nat} {T0 : Nat → Nat → Int} {Sn Bu : Int → Int} {Vs : Nat → Prop} {sb pb M : Int} {Fm : Int → Int → Int → Prop} {c0 c1 : jC} {G : Nat → Int} {A : Nat → Nat → Int} {T : jH} {p : Int} {lo hi s0 s1 : Int} {uf us : Int} (hd : 2 * (k + 1) + 70 ≤ d + 1) (hW : Wk G A) (e_uf : G 62 = uf) (e_us : G 61 = us) (h_p : (-2147483648 : Int) ≤ p ∧ p ≤ 2147483647) (p_0 : TA T0 A) (p_1 : 0 ≤ lo) (p_2 : hi ≤ 6999) (p_3 : sb ≤ 202) (p_4 : 0 ≤ uf) (p_5 : uf ≤ us) (p_6 : uf + M ≤ 59999) (p_7 : UI Fm A (uf) (us)) (p_8 : Fbd Fm M) (p_9 : 0 ≤ s0) (p_10 : s1 ≤ sb) (p_11 : wP T0 sb pb (k + 1) (Vs) (p) (lo) (hi) (s0) (s1)) (p_12 : VB (Vs) (s0)) (p_13 : SA T0 Vs Sn A) (p_14 : BUr T0 Bu pb A) (p_15 : vP T0 Bu (k + 1) Sn (fun s al e _ => Fm s al e) (p)) : ∀ (m : Nat) (L : jL) (Gx : Nat → Int) (Ax : Nat → Nat → Int) (c us1 gm gt : Int), (hi - gm).toNat = m → jGet L 0 = some (.ref 66) → jGet L 1 = some (.int (i32 (p))) → jGet L 2 = some (.int (i32 c)) → Wk Gx Ax → Fr [61] [13, 39, 40, 41, 42] G A Gx Ax → Gx 61 = us1 → ((-2147483648 : Int) ≤ c ∧ c ≤ 2147483647) → (us ≤ us1) → (UI Fm Ax (uf) (us1)) → (SA T0 (Vd Vs s0 (s0 + T0 24 (p).toNat)) Sn Ax) → (T0 15 (p).toNat = 26 ∨ T0 15 (p).toNat = 28) → (p + 1 ≤ gm) → (gm ≤ hi) → (s0 + T0 24 (p).toNat ≤ gt) → (gt ≤ s1) → (LQ T0 (wP T0 sb pb k (Vd Vs s0 (s0 + T0 24 (p).toNat))) (fun _ => True) (p) (c) (p + 1) (hi) (s0 + T0 24 (p).toNat) (s1) (gm) (gt)) → (UXq T0 (fun Q x => vP T0 Bu k Sn Q x) A Ax (uf) (us) (us1) (p) (c)) → wj X d jm329 (257, L, [], rV c0 c1 Gx Ax T) (fun o V_q => ∃ (G_q : Nat → Int) (A_q : Nat → Nat → Int) (us2 : Int), V_q = rV c0 c1 G_q A_q T ∧ o = .inl none ∧ Wk G_q A_q ∧ Fr [61] [13, 39, 40, 41, 42] G A G_q A_q ∧ G_q 61 = us2 ∧ (us ≤ us2) ∧ (UI Fm A_q (uf) (us2)) ∧ (SA T0 Vs Sn A_q) ∧ (UX A A_q (uf) (us) (us2) (fun Q => vP T0 Bu (k + 1) Sn Q (p))) ∧ True) := by
  have hF0 : Fr [61] [13, 39, 40, 41, 42] G A G A := Fr_rf
  have b_uf : (-2147483648 : Int) ≤ uf ∧ uf ≤ 2147483647 := e_uf ▸ hW.1 62
  have b_us : (-2147483648 : Int) ≤ us ∧ us ≤ 2147483647 := e_us ▸ hW.1 61
  have hWT := TA_w hW p_0
  have hwp := p_11; unfold wP at hwp; obtain ⟨w1, w2, w3, w4, w5, w6, w7, w8⟩ := hwp; have hz : vS T0 Bu (vP T0 Bu k) Sn (fun s al e _ => Fm s al e) p := p_15; obtain ⟨z1, z2, z3, z4, z5, z6, z7, z8, z9⟩ := hz; have hSA1 : SA T0 (Vd Vs s0 (s0 + T0 24 (p).toNat)) Sn A := SA_d p_13 w7; have hVB1 : VB (Vd Vs s0 (s0 + T0 24 (p).toNat)) (s0 + T0 24 (p).toNat) := VB_d p_12 (by omega); have hkk := wS_kd w8
  intro m
  induction m using Nat.strongRecOn with
  | ind m ih257 =>
    intro L Gx Ax c us1 gm gt hm gL_0 gL_1 gL_2 hWx hFx ex_us1 rx_c iv_0 iv_1 iv_2 iv_3 iv_4 iv_5 iv_6 iv_7 iv_8 iv_9
    have b_us1 : (-2147483648 : Int) ≤ us1 ∧ us1 ≤ 2147483647 := ex_us1 ▸ hWx.1 61
    have _q : True := trivial
    refine jx_ld (pc_q := 258) (l_q := L) (st_q := [.int (i32 (c))]) rfl (jl_iloadn gL_2) ?_
    refine jx_if_le (pc_q := 261) (tg := 276) rfl rfl rfl (Int.le_trans (by decide : (-2147483648 : Int) ≤ -2147483648) rx_c.1) (Int.le_trans rx_c.2 (by decide : (2147483647 : Int) ≤ 2147483647)) (fun h16 => ?_) (fun h16 => ?_)
    · have _q := h16
      refine jx_go (tg := 331) rfl rfl ?_
      have _q : True := trivial
      refine jx_rt (v := none) rfl rfl rfl rfl rfl rfl ?_
      exact ⟨_, _, us1, rfl, rfl, hWx, hFx, (ex_us1), by omega, iv_1, (SA_su Vd_l iv_2), (vs_26 iv_3 (UXq_end iv_9 (by omega))), trivial⟩
    · have _q := h16
      obtain ⟨l1, m1, t1, q1, q2, q3, q4, q5, q6, hwP, _, _, hnx⟩ := LQ_hd iv_8 (by omega); have hwi := wP_in hwP; have hzz := Z_c iv_8 (by omega) (z5 iv_3); have hVBc : VB (Vd Vs s0 (s0 + T0 24 (p).toNat)) gt := VB_mo hVB1 (by omega)
      refine jx_ld (pc_q := 262) (l_q := L) (st_q := [.ref 66]) rfl (jl_aloadn gL_0) ?_
      refine jx_ld (pc_q := 263) (l_q := L) (st_q := [.int (i32 (c)), .ref 66]) rfl (jl_iloadn gL_2) ?_
      refine jx_vr (pc_q := 266) (as := [.int (i32 (c))]) (st := []) rfl rfl rfl rfl ⟨rfl, rfl, Nat.le_of_ble_eq_true rfl⟩ rfl rfl (hA (dd := d) (hd := by omega) (hW := hWx) (p := c) (lo := gm) (hi := m1) (s0 := gt) (s1 := t1) (uf := uf) (e_uf := show Gx 62 = uf from ((hFx.1 62 rfl).trans (e_uf))) (us := us1) (e_us := show Gx 61 = us1 from (ex_us1))  (h_p := ⟨(Int.le_trans (by decide : (-2147483648 : Int) ≤ -2147483648) rx_c.1), (Int.le_trans rx_c.2 (by decide : (2147483647 : Int) ≤ 2147483647))⟩)  (p_0 := (TA_fr hFx (by decide) p_0)) (p_1 := by omega) (p_2 := by omega) (p_3 := by omega) (p_4 := by omega) (p_5 := by omega) (p_6 := by omega) (p_7 := iv_1) (p_8 := p_8) (p_9 := by omega) (p_10 := by omega) (p_11 := hwP) (p_12 := hVBc) (p_13 := iv_2) (p_14 := (BU_fr (show Ax 11 = A 11 from (hFx.2 11 rfl)) p_14)) (p_15 := hzz)) (fun o V_q hq => ?_)
      obtain ⟨G17, A18, us2_19, rfl, rfl, hW20, hF21, e22, p23, p24, p25, p26, -⟩ := hq
      have hF28 := Fr_tr hFx hF21 (Fr_sub (by decide)) (Fr_sub (by decide))
      have bus2_19 : (-2147483648 : Int) ≤ us2_19 ∧ us2_19 ≤ 2147483647 := e22 ▸ hW20.1 61
      refine .inl ⟨rfl, ?_⟩
      refine jx_ld (pc_q := 267) (l_q := L) (st_q := [.ref 66]) rfl (jl_aloadn gL_0) ?_
      refine jr_get (pc_q := 270) (i := 39) (v := .ref 89) rfl rfl (by decide) rfl rfl ?_
      refine jx_ld (pc_q := 271) (l_q := L) (st_q := [.int (i32 (c)), .ref 89]) rfl (jl_iloadn gL_2) ?_
      have b29 : (-2147483648 : Int) ≤ T0 22 (c).toNat ∧ T0 22 (c).toNat ≤ 2147483647 := hWT.2 22 _
      refine jr_ldv (pc_q := 272) (i := 22) (m := 7000) (z := c) (y := T0 22 (c).toNat) rfl (by decide) rfl (by decide) (by omega) (by omega) rfl (show A18 22 (c).toNat = T0 22 (c).toNat from (congrFun ((hF21.2 22 rfl).trans ((hFx.2 22 rfl).trans (p_0 22 rfl))) _)) ?_
      refine jx_ld (pc_q := 273) (l_q := jSto1 L 2 (.int (i32 (T0 22 (c).toNat)))) (st_q := []) rfl rfl ?_
      obtain ⟨L30, eL30⟩ : ∃ q, q = jSto1 L 2 (.int (i32 (T0 22 (c).toNat))) := ⟨_, rfl⟩
      rw [← eL30]
      have gL30_0 : jGet L30 0 = some (.ref 66) := eL30 ▸ jg_ne (by decide) gL_0 rfl
      have gL30_1 : jGet L30 1 = some (.int (i32 (p))) := eL30 ▸ jg_ne (by decide) gL_1 rfl
      have gL30_2 : jGet L30 2 = some (.int (i32 (T0 22 (c).toNat))) := eL30 ▸ jg_eq
      refine jx_go (tg := 257) rfl rfl ?_
      exact ih257 _ (by omega) L30 G17 A18 (T0 22 (c).toNat) (us2_19) (m1) (t1) rfl gL30_0 gL30_1 gL30_2 hW20 hF28 ((e22)) (by omega) (by omega) (p24) (p25) (by omega) (by omega) (by omega) (by omega) (by omega) ((hnx (fun _ => True) trivial)) ((UXq_nx (by omega) iv_9 (by omega) rfl (fun x => vP_mon) p26))
set_option maxRecDepth 20000 in
set_option maxHeartbeats 4000000 in
theorem c_useAll_s_at_202 {X : jX} {k : Nat} (hA : UA X k) {d : Nat} {T0 : Nat → Nat → Int} {Sn Bu : Int → Int} {Vs : Nat → Prop} {sb pb M : Int} {Fm : Int → Int → Int → Prop} {c0 c1 : jC} {G : Nat → Int} {A : Nat → Nat → Int} {T : jH} {p : Int} {lo hi s0 s1 : Int} {uf us : Int} (hd : 2 * (k + 1) + 70 ≤ d + 1) (hW : Wk G A) (e_uf : G 62 = uf) (e_us : G 61 = us) (h_p : (-2147483648 : Int) ≤ p ∧ p ≤ 2147483647) (p_0 : TA T0 A) (p_1 : 0 ≤ lo) (p_2 : hi ≤ 6999) (p_3 : sb ≤ 202) (p_4 : 0 ≤ uf) (p_5 : uf ≤ us) (p_6 : uf + M ≤ 59999) (p_7 : UI Fm A (uf) (us)) (p_8 : Fbd Fm M) (p_9 : 0 ≤ s0) (p_10 : s1 ≤ sb) (p_11 : wP T0 sb pb (k + 1) (Vs) (p) (lo) (hi) (s0) (s1)) (p_12 : VB (Vs) (s0)) (p_13 : SA T0 Vs Sn A) (p_14 : BUr T0 Bu pb A) (p_15 : vP T0 Bu (k + 1) Sn (fun s al e _ => Fm s al e) (p)) : ∀ (m : Nat) (L : jL) (Gx : Nat → Int) (Ax : Nat → Nat → Int) (i us1 : Int), (T0 20 (p).toNat - i).toNat = m → jGet L 0 = some (.ref 66) → jGet L 1 = some (.int (i32 (p))) → jGet L 2 = some (.int (i32 i)) → Wk Gx Ax → Fr [61] [13, 39, 40, 41, 42] G A Gx Ax → Gx 61 = us1 → ((-2147483648 : Int) ≤ i ∧ i ≤ 2147483647) → (us ≤ us1) → (UI Fm Ax (uf) (us1)) → (SA T0 (Vd Vs s0 (s0 + T0 24 (p).toNat)) Sn Ax) → (T0 15 (p).toNat = 29) → (0 ≤ i) → (i ≤ T0 20 (p).toNat) → (T0 20 (p).toNat ≤ 8) → (UXf T0 A Ax Bu Sn k (uf) (us) (us1) (p) (i)) → wj X d jm329 (202, L, [], rV c0 c1 Gx Ax T) (fun o V_q => ∃ (G_q : Nat → Int) (A_q : Nat → Nat → Int) (us2 : Int), V_q = rV c0 c1 G_q A_q T ∧ o = .inl none ∧ Wk G_q A_q ∧ Fr [61] [13, 39, 40, 41, 42] G A G_q A_q ∧ G_q 61 = us2 ∧ (us ≤ us2) ∧ (UI Fm A_q (uf) (us2)) ∧ (SA T0 Vs Sn A_q) ∧ (UX A A_q (uf) (us) (us2) (fun Q => vP T0 Bu (k + 1) Sn Q (p))) ∧ True) := by
  have hF0 : Fr [61] [13, 39, 40, 41, 42] G A G A := Fr_rf
  have b_uf : (-2147483648 : Int) ≤ uf ∧ uf ≤ 2147483647 := e_uf ▸ hW.1 62
  have b_us : (-2147483648 : Int) ≤ us ∧ us ≤ 2147483647 := e_us ▸ hW.1 61
  have hWT := TA_w hW p_0
  have hwp := p_11; unfold wP at hwp; obtain ⟨w1, w2, w3, w4, w5, w6, w7, w8⟩ := hwp; have hz : vS T0 Bu (vP T0 Bu k) Sn (fun s al e _ => Fm s al e) p := p_15; obtain ⟨z1, z2, z3, z4, z5, z6, z7, z8, z9⟩ := hz; have hSA1 : SA T0 (Vd Vs s0 (s0 + T0 24 (p).toNat)) Sn A := SA_d p_13 w7; have hVB1 : VB (Vd Vs s0 (s0 + T0 24 (p).toNat)) (s0 + T0 24 (p).toNat) := VB_d p_12 (by omega); have hkk := wS_kd w8
  intro m
  induction m using Nat.strongRecOn with
  | ind m ih202 =>
    intro L Gx Ax i us1 hm gL_0 gL_1 gL_2 hWx hFx ex_us1 rx_i iv_0 iv_1 iv_2 iv_3 iv_4 iv_5 iv_6 iv_7
    have b_us1 : (-2147483648 : Int) ≤ us1 ∧ us1 ≤ 2147483647 := ex_us1 ▸ hWx.1 61
    have _q : True := trivial
    refine jx_ld (pc_q := 203) (l_q := L) (st_q := [.int (i32 (i))]) rfl (jl_iloadn gL_2) ?_
    refine jx_ld (pc_q := 204) (l_q := L) (st_q := [.ref 66, .int (i32 (i))]) rfl (jl_aloadn gL_0) ?_
    refine jr_get (pc_q := 207) (i := 37) (v := .ref 87) rfl rfl (by decide) rfl rfl ?_
    refine jx_ld (pc_q := 208) (l_q := L) (st_q := [.int (i32 (p)), .ref 87, .int (i32 (i))]) rfl (jl_iloadn gL_1) ?_
    have b31 : (-2147483648 : Int) ≤ T0 20 (p).toNat ∧ T0 20 (p).toNat ≤ 2147483647 := hWT.2 20 _
    refine jr_ldv (pc_q := 209) (i := 20) (m := 7000) (z := p) (y := T0 20 (p).toNat) rfl (by decide) rfl (by decide) (by omega) (by omega) rfl (show Ax 20 (p).toNat = T0 20 (p).toNat from (congrFun ((hFx.2 20 rfl).trans (p_0 20 rfl)) _)) ?_
    refine jx_icmp_ge (pc_q := 212) (tg := 247) rfl rfl rfl (Int.le_trans (by decide : (-2147483648 : Int) ≤ -2147483648) rx_i.1) (Int.le_trans rx_i.2 (by decide : (2147483647 : Int) ≤ 2147483647)) (Int.le_trans (by decide : (-2147483648 : Int) ≤ -2147483648) b31.1) (Int.le_trans b31.2 (by decide : (2147483647 : Int) ≤ 2147483647)) (fun h32 => ?_) (fun h32 => ?_)
    · have _q := h32
      refine jx_go (tg := 331) rfl rfl ?_
      have _q : True := trivial
      refine jx_rt (v := none) rfl rfl rfl rfl rfl rfl ?_
      exact ⟨_, _, us1, rfl, rfl, hWx, hFx, (ex_us1), by omega, iv_1, (SA_su Vd_l iv_2), (UXf_e iv_3 (by omega) iv_7), trivial⟩
    · have _q := h32
      obtain ⟨g1, g2, g3, g4, g5, g6, g7, g8⟩ := wS_i29 w8 iv_3; have hzz := z7 iv_3 (i).toNat (by omega)
      refine jx_ld (pc_q := 213) (l_q := L) (st_q := [.ref 66]) rfl (jl_aloadn gL_0) ?_
      refine jr_get (pc_q := 216) (i := 27) (v := .ref 80) rfl rfl (by decide) rfl rfl ?_
      refine jx_ld (pc_q := 217) (l_q := L) (st_q := [.ref 66, .ref 80]) rfl (jl_aloadn gL_0) ?_
      refine jr_get (pc_q := 220) (i := 34) (v := .ref 84) rfl rfl (by decide) rfl rfl ?_
      refine jx_ld (pc_q := 221) (l_q := L) (st_q := [.int (i32 (p)), .ref 84, .ref 80]) rfl (jl_iloadn gL_1) ?_
      have b33 : (-2147483648 : Int) ≤ T0 17 (p).toNat ∧ T0 17 (p).toNat ≤ 2147483647 := hWT.2 17 _
      refine jr_ldv (pc_q := 222) (i := 17) (m := 7000) (z := p) (y := T0 17 (p).toNat) rfl (by decide) rfl (by decide) (by omega) (by omega) rfl (show Ax 17 (p).toNat = T0 17 (p).toNat from (congrFun ((hFx.2 17 rfl).trans (p_0 17 rfl)) _)) ?_
      refine jx_ld (pc_q := 223) (l_q := L) (st_q := [.ref 66, .int (i32 (T0 17 (p).toNat)), .ref 80]) rfl (jl_aloadn gL_0) ?_
      refine jr_get (pc_q := 226) (i := 36) (v := .ref 86) rfl rfl (by decide) rfl rfl ?_
      refine jx_ld (pc_q := 227) (l_q := L) (st_q := [.int (i32 (p)), .ref 86, .int (i32 (T0 17 (p).toNat)), .ref 80]) rfl (jl_iloadn gL_1) ?_
      have b34 : (-2147483648 : Int) ≤ T0 19 (p).toNat ∧ T0 19 (p).toNat ≤ 2147483647 := hWT.2 19 _
      refine jr_ldv (pc_q := 228) (i := 19) (m := 7000) (z := p) (y := T0 19 (p).toNat) rfl (by decide) rfl (by decide) (by omega) (by omega) rfl (show Ax 19 (p).toNat = T0 19 (p).toNat from (congrFun ((hFx.2 19 rfl).trans (p_0 19 rfl)) _)) ?_
      refine jx_ld (pc_q := 229) (l_q := L) (st_q := [.int (i32 (i)), .int (i32 (T0 19 (p).toNat)), .int (i32 (T0 17 (p).toNat)), .ref 80]) rfl (jl_iloadn gL_2) ?_
      refine jx_add (pc_q := 230) rfl rfl ?_
      obtain ⟨v35, ev35⟩ : ∃ z, z = (i32 (T0 19 (p).toNat + i)).toInt := ⟨_, rfl⟩; have fv35 : i32 (T0 19 (p).toNat + i) = i32 v35 := (by rw [ev35]; exact (i32_of _).symm); rw [fv35]; have rv35 : (-2147483648 : Int) ≤ v35 ∧ v35 ≤ 2147483647 := ev35 ▸ i32_rg _
      refine jr_st (pc_q := 231) (i := 13) (m := 260) (z := T0 17 (p).toNat) (y := v35) rfl (by decide) rfl (by decide) (by omega) (by omega) rfl ?_
      have hW37 : Wk Gx (uA Ax 13 (T0 17 (p).toNat).toNat (v35)) := Wk_a hWx (show (-2147483648 : Int) ≤ v35 by omega) (show v35 ≤ (2147483647 : Int) by omega)
      have hF38 := Fr_a (z := v35) (k := 13) (n := (T0 17 (p).toNat).toNat) hFx (by decide)
      obtain ⟨A36, eA36⟩ : ∃ q, q = uA Ax 13 (T0 17 (p).toNat).toNat (v35) := ⟨_, rfl⟩
      rw [← eA36]
      rw [← eA36] at hW37 hF38
      have q39 : A36 13 (T0 17 (p).toNat).toNat = v35 := by rw [eA36]; exact uA_eq
      have hSA2 : SA T0 (Vu (Vd Vs s0 (s0 + T0 24 (p).toNat)) (T0 17 (p).toNat)) (sB T0 Sn p (i).toNat) A36 := SA_st eA36 (by omega) iv_2 (sB_t iv_3 rfl (by omega) ev35) (sB_o rfl); have hUI2 : UI Fm A36 uf us1 := UI_st eA36 (by decide) iv_1; have g8b : wP T0 sb pb k (Vu (Vd Vs s0 (s0 + T0 24 (p).toNat)) (T0 17 (p).toNat)) (T0 21 (p).toNat) (p + 1) hi (T0 17 (p).toNat + 1) s1 := (by rw [g1]; exact g8); have hVBc : VB (Vu (Vd Vs s0 (s0 + T0 24 (p).toNat)) (T0 17 (p).toNat)) (T0 17 (p).toNat + 1) := VB_u hVB1 (by omega) (by omega)
      refine jx_ld (pc_q := 232) (l_q := L) (st_q := [.ref 66]) rfl (jl_aloadn gL_0) ?_
      refine jx_ld (pc_q := 233) (l_q := L) (st_q := [.ref 66, .ref 66]) rfl (jl_aloadn gL_0) ?_
      refine jr_get (pc_q := 236) (i := 38) (v := .ref 88) rfl rfl (by decide) rfl rfl ?_
      refine jx_ld (pc_q := 237) (l_q := L) (st_q := [.int (i32 (p)), .ref 88, .ref 66]) rfl (jl_iloadn gL_1) ?_
      have b40 : (-2147483648 : Int) ≤ T0 21 (p).toNat ∧ T0 21 (p).toNat ≤ 2147483647 := hWT.2 21 _
      refine jr_ldv (pc_q := 238) (i := 21) (m := 7000) (z := p) (y := T0 21 (p).toNat) rfl (by decide) rfl (by decide) (by omega) (by omega) rfl (show A36 21 (p).toNat = T0 21 (p).toNat from (congrFun (((congrFun eA36 21).trans (uA_ne (by decide))).trans ((hFx.2 21 rfl).trans (p_0 21 rfl))) _)) ?_
      refine jx_vr (pc_q := 241) (as := [.int (i32 (T0 21 (p).toNat))]) (st := []) rfl rfl rfl rfl ⟨rfl, rfl, Nat.le_of_ble_eq_true rfl⟩ rfl rfl (hA (dd := d) (hd := by omega) (hW := hW37) (p := T0 21 (p).toNat) (lo := p + 1) (hi := hi) (s0 := T0 17 (p).toNat + 1) (s1 := s1) (uf := uf) (e_uf := show Gx 62 = uf from ((hFx.1 62 rfl).trans (e_uf))) (us := us1) (e_us := show Gx 61 = us1 from (ex_us1))  (h_p := ⟨(Int.le_trans (by decide : (-2147483648 : Int) ≤ -2147483648) b40.1), (Int.le_trans b40.2 (by decide : (2147483647 : Int) ≤ 2147483647))⟩)  (p_0 := (TA_fr hF38 (by decide) p_0)) (p_1 := by omega) (p_2 := by omega) (p_3 := by omega) (p_4 := by omega) (p_5 := by omega) (p_6 := by omega) (p_7 := hUI2) (p_8 := p_8) (p_9 := by omega) (p_10 := by omega) (p_11 := g8b) (p_12 := hVBc) (p_13 := hSA2) (p_14 := (BU_fr (show A36 11 = A 11 from (((congrFun eA36 11).trans (uA_ne (by decide))).trans (hFx.2 11 rfl))) p_14)) (p_15 := hzz)) (fun o V_q hq => ?_)
      obtain ⟨G41, A42, us2_43, rfl, rfl, hW44, hF45, e46, p47, p48, p49, p50, -⟩ := hq
      have hF52 := Fr_tr hF38 hF45 (Fr_sub (by decide)) (Fr_sub (by decide))
      have bus2_43 : (-2147483648 : Int) ≤ us2_43 ∧ us2_43 ≤ 2147483647 := e46 ▸ hW44.1 61
      refine .inl ⟨rfl, ?_⟩
      have hSA3 : SA T0 (Vd Vs s0 (s0 + T0 24 (p).toNat)) Sn A42 := SA_dn p49 hVB1 (by omega) (sB_o rfl)
      refine jx_inc (pc_q := 244) (l_q := jSto1 L 2 (.int (i32 ((i + (1)))))) (x := i) rfl gL_2 (by decide) rfl rfl ?_
      obtain ⟨L53, eL53⟩ : ∃ q, q = jSto1 L 2 (.int (i32 ((i + (1))))) := ⟨_, rfl⟩
      rw [← eL53]
      have gL53_0 : jGet L53 0 = some (.ref 66) := eL53 ▸ jg_ne (by decide) gL_0 rfl
      have gL53_1 : jGet L53 1 = some (.int (i32 (p))) := eL53 ▸ jg_ne (by decide) gL_1 rfl
      have gL53_2 : jGet L53 2 = some (.int (i32 ((i + (1))))) := eL53 ▸ jg_eq
      refine jx_go (tg := 202) rfl rfl ?_
      exact ih202 _ (by omega) L53 G41 A42 ((i + (1))) (us2_43) rfl gL53_0 gL53_1 gL53_2 hW44 hF52 ((e46)) (by omega) (by omega) (p48) (hSA3) (by omega) (by omega) (by omega) (by omega) ((UXf_nx (by omega) (by omega) rfl iv_7 (UX_s2 (by omega) eA36 (by decide) p50)))
set_option maxRecDepth 20000 in
set_option maxHeartbeats 4000000 in
theorem c_useAll_s_at_145 {X : jX} {k : Nat} (hA : UA X k) {d : Nat} {T0 : Nat → Nat → Int} {Sn Bu : Int → Int} {Vs : Nat → Prop} {sb pb M : Int} {Fm : Int → Int → Int → Prop} {c0 c1 : jC} {G : Nat → Int} {A : Nat → Nat → Int} {T : jH} {p : Int} {lo hi s0 s1 : Int} {uf us : Int} (hd : 2 * (k + 1) + 70 ≤ d + 1) (hW : Wk G A) (e_uf : G 62 = uf) (e_us : G 61 = us) (h_p : (-2147483648 : Int) ≤ p ∧ p ≤ 2147483647) (p_0 : TA T0 A) (p_1 : 0 ≤ lo) (p_2 : hi ≤ 6999) (p_3 : sb ≤ 202) (p_4 : 0 ≤ uf) (p_5 : uf ≤ us) (p_6 : uf + M ≤ 59999) (p_7 : UI Fm A (uf) (us)) (p_8 : Fbd Fm M) (p_9 : 0 ≤ s0) (p_10 : s1 ≤ sb) (p_11 : wP T0 sb pb (k + 1) (Vs) (p) (lo) (hi) (s0) (s1)) (p_12 : VB (Vs) (s0)) (p_13 : SA T0 Vs Sn A) (p_14 : BUr T0 Bu pb A) (p_15 : vP T0 Bu (k + 1) Sn (fun s al e _ => Fm s al e) (p)) : ∀ (m : Nat) (L : jL) (Gx : Nat → Int) (Ax : Nat → Nat → Int) (a us1 gm : Int), (hi - gm).toNat = m → jGet L 0 = some (.ref 66) → jGet L 1 = some (.int (i32 (p))) → jGet L 2 = some (.int (i32 a)) → Wk Gx Ax → Fr [61] [13, 39, 40, 41, 42] G A Gx Ax → Gx 61 = us1 → ((-2147483648 : Int) ≤ a ∧ a ≤ 2147483647) → (us ≤ us1) → (UI Fm Ax (uf) (us1)) → (SA T0 (Vd Vs s0 (s0 + T0 24 (p).toNat)) Sn Ax) → (T0 15 (p).toNat = 25) → (p + 1 ≤ gm) → (gm ≤ hi) → (LAr T0 (Vd Vs s0 (s0 + T0 24 (p).toNat)) sb (T0 17 (p).toNat) (p) (a) (p + 1) (hi) (gm)) → (UXq T0 (fun Q x => aU T0 Bu (Rf Sn) Q x) A Ax (uf) (us) (us1) (p) (a)) → wj X d jm329 (145, L, [], rV c0 c1 Gx Ax T) (fun o V_q => ∃ (G_q : Nat → Int) (A_q : Nat → Nat → Int) (us2 : Int), V_q = rV c0 c1 G_q A_q T ∧ o = .inl none ∧ Wk G_q A_q ∧ Fr [61] [13, 39, 40, 41, 42] G A G_q A_q ∧ G_q 61 = us2 ∧ (us ≤ us2) ∧ (UI Fm A_q (uf) (us2)) ∧ (SA T0 Vs Sn A_q) ∧ (UX A A_q (uf) (us) (us2) (fun Q => vP T0 Bu (k + 1) Sn Q (p))) ∧ True) := by
  have hF0 : Fr [61] [13, 39, 40, 41, 42] G A G A := Fr_rf
  have b_uf : (-2147483648 : Int) ≤ uf ∧ uf ≤ 2147483647 := e_uf ▸ hW.1 62
  have b_us : (-2147483648 : Int) ≤ us ∧ us ≤ 2147483647 := e_us ▸ hW.1 61
  have hWT := TA_w hW p_0
  have hwp := p_11; unfold wP at hwp; obtain ⟨w1, w2, w3, w4, w5, w6, w7, w8⟩ := hwp; have hz : vS T0 Bu (vP T0 Bu k) Sn (fun s al e _ => Fm s al e) p := p_15; obtain ⟨z1, z2, z3, z4, z5, z6, z7, z8, z9⟩ := hz; have hSA1 : SA T0 (Vd Vs s0 (s0 + T0 24 (p).toNat)) Sn A := SA_d p_13 w7; have hVB1 : VB (Vd Vs s0 (s0 + T0 24 (p).toNat)) (s0 + T0 24 (p).toNat) := VB_d p_12 (by omega); have hkk := wS_kd w8
  intro m
  induction m using Nat.strongRecOn with
  | ind m ih145 =>
    intro L Gx Ax a us1 gm hm gL_0 gL_1 gL_2 hWx hFx ex_us1 rx_a iv_0 iv_1 iv_2 iv_3 iv_4 iv_5 iv_6 iv_7
    have b_us1 : (-2147483648 : Int) ≤ us1 ∧ us1 ≤ 2147483647 := ex_us1 ▸ hWx.1 61
    have _q : True := trivial
    refine jx_ld (pc_q := 146) (l_q := L) (st_q := [.int (i32 (a))]) rfl (jl_iloadn gL_2) ?_
    refine jx_if_le (pc_q := 149) (tg := 164) rfl rfl rfl (Int.le_trans (by decide : (-2147483648 : Int) ≤ -2147483648) rx_a.1) (Int.le_trans rx_a.2 (by decide : (2147483647 : Int) ≤ 2147483647)) (fun h54 => ?_) (fun h54 => ?_)
    · have _q := h54
      refine jx_go (tg := 331) rfl rfl ?_
      have _q : True := trivial
      refine jx_rt (v := none) rfl rfl rfl rfl rfl rfl ?_
      exact ⟨_, _, us1, rfl, rfl, hWx, hFx, (ex_us1), by omega, iv_1, (SA_su Vd_l iv_2), (vs_25 iv_3 (UXq_end iv_7 (by omega))), trivial⟩
    · have _q := h54
      obtain ⟨m1, jx, hm1, hm2, hm3, hm4, hm5, hjx, h18, h18a, h18b, hgE, hgD, hnx⟩ := LAr_hd iv_6 (by omega); have hzz := Z_a iv_6 (by omega) (z4 iv_3); have hqq := wS_i25 w8 iv_3; have hq0 := hqq.2.1; have hq9 := hqq.2.2.1; have hba : BAr T0 Bu Ax a := BA_i (BU_fr (show Ax 11 = A 11 from (hFx.2 11 rfl)) p_14) (by omega) (by omega) hjx h18
      refine jx_ld (pc_q := 150) (l_q := L) (st_q := [.ref 66]) rfl (jl_aloadn gL_0) ?_
      refine jx_ld (pc_q := 151) (l_q := L) (st_q := [.int (i32 (a)), .ref 66]) rfl (jl_iloadn gL_2) ?_
      refine jx_vr (pc_q := 154) (as := [.int (i32 (a))]) (st := []) rfl rfl rfl rfl ⟨rfl, rfl, Nat.le_of_ble_eq_true rfl⟩ rfl rfl (c_useArgument (dd := d) (hd := by omega) (hW := hWx) (a := a) (lo := gm) (hi := a) (uf := uf) (e_uf := show Gx 62 = uf from ((hFx.1 62 rfl).trans (e_uf))) (us := us1) (e_us := show Gx 61 = us1 from (ex_us1))  (h_a := ⟨(Int.le_trans (by decide : (-2147483648 : Int) ≤ -2147483648) rx_a.1), (Int.le_trans rx_a.2 (by decide : (2147483647 : Int) ≤ 2147483647))⟩)  (p_0 := (TA_fr hFx (by decide) p_0)) (p_1 := by omega) (p_2 := by omega) (p_3 := by omega) (p_4 := by omega) (p_5 := by omega) (p_6 := by omega) (p_7 := iv_1) (p_8 := p_8) (p_9 := ⟨hgE, hgD⟩) (p_10 := by omega) (p_11 := by omega) (p_12 := by omega) (p_13 := by omega) (p_14 := iv_2) (p_15 := hba) (p_16 := hzz)) (fun o V_q hq => ?_)
      obtain ⟨G55, A56, us2_57, rfl, rfl, hW58, hF59, e60, p61, p62, p63, -⟩ := hq
      have hF65 := Fr_tr hFx hF59 (Fr_sub (by decide)) (Fr_sub (by decide))
      have bus2_57 : (-2147483648 : Int) ≤ us2_57 ∧ us2_57 ≤ 2147483647 := e60 ▸ hW58.1 61
      refine .inl ⟨rfl, ?_⟩
      refine jx_ld (pc_q := 155) (l_q := L) (st_q := [.ref 66]) rfl (jl_aloadn gL_0) ?_
      refine jr_get (pc_q := 158) (i := 39) (v := .ref 89) rfl rfl (by decide) rfl rfl ?_
      refine jx_ld (pc_q := 159) (l_q := L) (st_q := [.int (i32 (a)), .ref 89]) rfl (jl_iloadn gL_2) ?_
      have b66 : (-2147483648 : Int) ≤ T0 22 (a).toNat ∧ T0 22 (a).toNat ≤ 2147483647 := hWT.2 22 _
      refine jr_ldv (pc_q := 160) (i := 22) (m := 7000) (z := a) (y := T0 22 (a).toNat) rfl (by decide) rfl (by decide) (by omega) (by omega) rfl (show A56 22 (a).toNat = T0 22 (a).toNat from (congrFun ((hF59.2 22 rfl).trans ((hFx.2 22 rfl).trans (p_0 22 rfl))) _)) ?_
      refine jx_ld (pc_q := 161) (l_q := jSto1 L 2 (.int (i32 (T0 22 (a).toNat)))) (st_q := []) rfl rfl ?_
      obtain ⟨L67, eL67⟩ : ∃ q, q = jSto1 L 2 (.int (i32 (T0 22 (a).toNat))) := ⟨_, rfl⟩
      rw [← eL67]
      have gL67_0 : jGet L67 0 = some (.ref 66) := eL67 ▸ jg_ne (by decide) gL_0 rfl
      have gL67_1 : jGet L67 1 = some (.int (i32 (p))) := eL67 ▸ jg_ne (by decide) gL_1 rfl
      have gL67_2 : jGet L67 2 = some (.int (i32 (T0 22 (a).toNat))) := eL67 ▸ jg_eq
      refine jx_go (tg := 145) rfl rfl ?_
      exact ih145 _ (by omega) L67 G55 A56 (T0 22 (a).toNat) (us2_57) (m1) rfl gL67_0 gL67_1 gL67_2 hW58 hF65 ((e60)) (by omega) (by omega) (p62) ((SA_fr2 (show A56 13 = Ax 13 from (hF59.2 13 rfl)) iv_2)) (by omega) (by omega) (by omega) (hnx) ((UXq_nx (by omega) iv_7 (by omega) rfl (fun x => aU_mon) p63))
set_option maxRecDepth 20000 in
set_option maxHeartbeats 4000000 in
theorem c_useAll_s {X : jX} {k : Nat} (hA : UA X k) {dd : Nat} {T0 : Nat → Nat → Int} {Sn Bu : Int → Int} {Vs : Nat → Prop} {sb pb M : Int} {Fm : Int → Int → Int → Prop} {c0 c1 : jC} {G : Nat → Int} {A : Nat → Nat → Int} {T : jH} {p : Int} {lo hi s0 s1 : Int} {uf us : Int} (hd : 2 * (k + 1) + 70 ≤ dd) (hW : Wk G A) (e_uf : G 62 = uf) (e_us : G 61 = us) (h_p : (-2147483648 : Int) ≤ p ∧ p ≤ 2147483647) (p_0 : TA T0 A) (p_1 : 0 ≤ lo) (p_2 : hi ≤ 6999) (p_3 : sb ≤ 202) (p_4 : 0 ≤ uf) (p_5 : uf ≤ us) (p_6 : uf + M ≤ 59999) (p_7 : UI Fm A (uf) (us)) (p_8 : Fbd Fm M) (p_9 : 0 ≤ s0) (p_10 : s1 ≤ sb) (p_11 : wP T0 sb pb (k + 1) (Vs) (p) (lo) (hi) (s0) (s1)) (p_12 : VB (Vs) (s0)) (p_13 : SA T0 Vs Sn A) (p_14 : BUr T0 Bu pb A) (p_15 : vP T0 Bu (k + 1) Sn (fun s al e _ => Fm s al e) (p)) : wk X dd 329 [.ref 66, .int (i32 p)] (rV c0 c1 G A T) (fun o V_q => ∃ (G_q : Nat → Int) (A_q : Nat → Nat → Int) (us2 : Int), V_q = rV c0 c1 G_q A_q T ∧ o = .inl none ∧ Wk G_q A_q ∧ Fr [61] [13, 39, 40, 41, 42] G A G_q A_q ∧ G_q 61 = us2 ∧ (us ≤ us2) ∧ (UI Fm A_q (uf) (us2)) ∧ (SA T0 Vs Sn A_q) ∧ (UX A A_q (uf) (us) (us2) (fun Q => vP T0 Bu (k + 1) Sn Q (p))) ∧ True) := by
  obtain ⟨d, rfl⟩ : ∃ d, dd = d + 1 := ⟨dd - 1, by omega⟩
  refine wk_of (e := jm329) rfl (Nat.le_of_ble_eq_true rfl) ?_
  show wj X d jm329 (0, [(0, .ref 66), (1, .int (i32 (p)))], [], rV c0 c1 G A T) _
  have hF0 : Fr [61] [13, 39, 40, 41, 42] G A G A := Fr_rf
  have b_uf : (-2147483648 : Int) ≤ uf ∧ uf ≤ 2147483647 := e_uf ▸ hW.1 62
  have b_us : (-2147483648 : Int) ≤ us ∧ us ≤ 2147483647 := e_us ▸ hW.1 61
  have hWT := TA_w hW p_0
  have hwp := p_11; unfold wP at hwp; obtain ⟨w1, w2, w3, w4, w5, w6, w7, w8⟩ := hwp; have hz : vS T0 Bu (vP T0 Bu k) Sn (fun s al e _ => Fm s al e) p := p_15; obtain ⟨z1, z2, z3, z4, z5, z6, z7, z8, z9⟩ := hz; have hSA1 : SA T0 (Vd Vs s0 (s0 + T0 24 (p).toNat)) Sn A := SA_d p_13 w7; have hVB1 : VB (Vd Vs s0 (s0 + T0 24 (p).toNat)) (s0 + T0 24 (p).toNat) := VB_d p_12 (by omega); have hkk := wS_kd w8
  refine jx_ld (pc_q := 1) (l_q := [(0, .ref 66), (1, .int (i32 (p)))]) (st_q := [.ref 66]) rfl (jl_aloadn rfl) ?_
  refine jr_get (pc_q := 4) (i := 32) (v := .ref 82) rfl rfl (by decide) rfl rfl ?_
  refine jx_ld (pc_q := 5) (l_q := [(0, .ref 66), (1, .int (i32 (p)))]) (st_q := [.int (i32 (p)), .ref 82]) rfl (jl_iloadn rfl) ?_
  have b68 : (0 : Int) ≤ T0 15 (p).toNat ∧ T0 15 (p).toNat ≤ 34 := hWT.2 15 _
  refine jr_ldv (pc_q := 6) (i := 15) (m := 7000) (z := p) (y := T0 15 (p).toNat) rfl (by decide) rfl (by decide) (by omega) (by omega) rfl (show A 15 (p).toNat = T0 15 (p).toNat from (congrFun (p_0 15 rfl) _)) ?_
  rcases (by omega : T0 15 (p).toNat = 22 ∨ T0 15 (p).toNat = 23 ∨ T0 15 (p).toNat = 24 ∨ T0 15 (p).toNat = 25 ∨ T0 15 (p).toNat = 26 ∨ T0 15 (p).toNat = 27 ∨ T0 15 (p).toNat = 28 ∨ T0 15 (p).toNat = 29 ∨ T0 15 (p).toNat = 30 ∨ T0 15 (p).toNat = 31 ∨ T0 15 (p).toNat = 32 ∨ (T0 15 (p).toNat < 22 ∨ 32 < T0 15 (p).toNat)) with h69 | h69 | h69 | h69 | h69 | h69 | h69 | h69 | h69 | h69 | h69 | h69
  · refine jx_swe (z := 22) (tg := 64) h69 rfl rfl rfl rfl ?_
    have hkd : T0 15 (p).toNat = 22 := (by omega); obtain ⟨g1, g2, g3⟩ := wS_i22 w8 hkd; have hzz := z1 hkd; have i2 := g2.1; have i3 := g2.2.1; have i4 := wE_in g3
    refine jx_ld (pc_q := 65) (l_q := [(0, .ref 66), (1, .int (i32 (p)))]) (st_q := [.ref 66]) rfl (jl_aloadn rfl) ?_
    refine jx_ld (pc_q := 66) (l_q := [(0, .ref 66), (1, .int (i32 (p)))]) (st_q := [.ref 66, .ref 66]) rfl (jl_aloadn rfl) ?_
    refine jr_get (pc_q := 69) (i := 35) (v := .ref 85) rfl rfl (by decide) rfl rfl ?_
    refine jx_ld (pc_q := 70) (l_q := [(0, .ref 66), (1, .int (i32 (p)))]) (st_q := [.int (i32 (p)), .ref 85, .ref 66]) rfl (jl_iloadn rfl) ?_
    have b70 : (-2147483648 : Int) ≤ T0 18 (p).toNat ∧ T0 18 (p).toNat ≤ 2147483647 := hWT.2 18 _
    refine jr_ldv (pc_q := 71) (i := 18) (m := 7000) (z := p) (y := T0 18 (p).toNat) rfl (by decide) rfl (by decide) (by omega) (by omega) rfl (show A 18 (p).toNat = T0 18 (p).toNat from (congrFun (p_0 18 rfl) _)) ?_
    refine jx_vr (pc_q := 74) (as := [.int (i32 (T0 18 (p).toNat))]) (st := []) rfl rfl rfl rfl ⟨rfl, rfl, Nat.le_of_ble_eq_true rfl⟩ rfl rfl (c_useE_h (dd := d) (hd := by omega) (hW := hW) (e := T0 18 (p).toNat) (k := 20) (lo := p + 1) (hi := hi) (uf := uf) (e_uf := show G 62 = uf from (e_uf)) (us := us) (e_us := show G 61 = us from (e_us))  (h_e := ⟨(Int.le_trans (by decide : (-2147483648 : Int) ≤ -2147483648) b70.1), (Int.le_trans b70.2 (by decide : (2147483647 : Int) ≤ 2147483647))⟩)  (p_0 := p_0) (p_1 := by omega) (p_2 := by omega) (p_3 := by omega) (p_4 := by omega) (p_5 := by omega) (p_6 := by omega) (p_7 := p_7) (p_8 := p_8) (p_9 := (wE_mono (by omega) (by omega) (by omega) g3)) (p_10 := by omega) (p_11 := hSA1) (p_12 := hzz.1)) (fun o V_q hq => ?_)
    obtain ⟨G71, A72, us2_73, rfl, rfl, hW74, hF75, e76, p77, p78, p79, -⟩ := hq
    have hF81 := Fr_tr hF0 hF75 (Fr_sub (by decide)) (Fr_sub (by decide))
    have bus2_73 : (-2147483648 : Int) ≤ us2_73 ∧ us2_73 ≤ 2147483647 := e76 ▸ hW74.1 61
    refine .inl ⟨rfl, ?_⟩
    refine jx_ld (pc_q := 75) (l_q := [(0, .ref 66), (1, .int (i32 (p)))]) (st_q := [.ref 66]) rfl (jl_aloadn rfl) ?_
    refine jx_ld (pc_q := 76) (l_q := [(0, .ref 66), (1, .int (i32 (p)))]) (st_q := [.ref 66, .ref 66]) rfl (jl_aloadn rfl) ?_
    refine jr_get (pc_q := 79) (i := 34) (v := .ref 84) rfl rfl (by decide) rfl rfl ?_
    refine jx_ld (pc_q := 80) (l_q := [(0, .ref 66), (1, .int (i32 (p)))]) (st_q := [.int (i32 (p)), .ref 84, .ref 66]) rfl (jl_iloadn rfl) ?_
    have b82 : (-2147483648 : Int) ≤ T0 17 (p).toNat ∧ T0 17 (p).toNat ≤ 2147483647 := hWT.2 17 _
    refine jr_ldv (pc_q := 81) (i := 17) (m := 7000) (z := p) (y := T0 17 (p).toNat) rfl (by decide) rfl (by decide) (by omega) (by omega) rfl (show A72 17 (p).toNat = T0 17 (p).toNat from (congrFun ((hF75.2 17 rfl).trans (p_0 17 rfl)) _)) ?_
    refine jx_ar (pc_q := 82) (st_q := [.int (i32 (2)), .int (i32 (T0 17 (p).toNat)), .ref 66]) rfl rfl rfl rfl ?_
    refine jx_vr (pc_q := 85) (as := [.int (i32 (T0 17 (p).toNat)), .int (i32 (2))]) (st := []) rfl rfl rfl rfl ⟨rfl, rfl, Nat.le_of_ble_eq_true rfl⟩ rfl rfl (c_useReference_h (dd := d) (hd := by omega) (hW := hW74) (x := T0 17 (p).toNat) (dn := 2) (k := 20) (lo := lo) (hi := p) (uf := uf) (e_uf := show G71 62 = uf from ((hF75.1 62 rfl).trans (e_uf))) (us := us2_73) (e_us := show G71 61 = us2_73 from (e76))  (h_x := ⟨(Int.le_trans (by decide : (-2147483648 : Int) ≤ -2147483648) b82.1), (Int.le_trans b82.2 (by decide : (2147483647 : Int) ≤ 2147483647))⟩) (h_dn := ⟨(by decide), (by decide)⟩)  (p_0 := (TA_fr hF81 (by decide) p_0)) (p_1 := by omega) (p_2 := by omega) (p_3 := by omega) (p_4 := by omega) (p_5 := by omega) (p_6 := by omega) (p_7 := p78) (p_8 := p_8) (p_9 := (qX_pX (pX_wR g2))) (p_10 := by omega) (p_11 := by omega) (p_12 := by omega) (p_13 := (SA_fr2 (show A72 13 = A 13 from (hF75.2 13 rfl)) hSA1)) (p_14 := hzz.2)) (fun o V_q hq => ?_)
    obtain ⟨G83, A84, us2_85, rfl, rfl, hW86, hF87, e88, p89, p90, p91, -⟩ := hq
    have hF93 := Fr_tr hF81 hF87 (Fr_sub (by decide)) (Fr_sub (by decide))
    have bus2_85 : (-2147483648 : Int) ≤ us2_85 ∧ us2_85 ≤ 2147483647 := e88 ▸ hW86.1 61
    refine .inl ⟨rfl, ?_⟩
    refine jx_go (tg := 331) rfl rfl ?_
    have _q : True := trivial
    refine jx_rt (v := none) rfl rfl rfl rfl rfl rfl ?_
    exact ⟨_, _, us2_85, rfl, rfl, hW86, hF93, (e88), by omega, p90, (SA_su Vd_l (SA_fr2 (show A84 13 = A 13 from ((hF87.2 13 rfl).trans (hF75.2 13 rfl))) hSA1)), (vs_22 (by omega) hkd p79 p91), trivial⟩
  · refine jx_swe (z := 23) (tg := 88) h69 rfl rfl rfl rfl ?_
    have hkd : T0 15 (p).toNat = 23 := (by omega); obtain ⟨g1, g2, g3⟩ := wS_i23 w8 hkd; have hzz := z2 hkd; have i2 := g2.1; have i3 := g2.2.1; have i4 := wE_in g3
    refine jx_ld (pc_q := 89) (l_q := [(0, .ref 66), (1, .int (i32 (p)))]) (st_q := [.ref 66]) rfl (jl_aloadn rfl) ?_
    refine jx_ld (pc_q := 90) (l_q := [(0, .ref 66), (1, .int (i32 (p)))]) (st_q := [.ref 66, .ref 66]) rfl (jl_aloadn rfl) ?_
    refine jr_get (pc_q := 93) (i := 35) (v := .ref 85) rfl rfl (by decide) rfl rfl ?_
    refine jx_ld (pc_q := 94) (l_q := [(0, .ref 66), (1, .int (i32 (p)))]) (st_q := [.int (i32 (p)), .ref 85, .ref 66]) rfl (jl_iloadn rfl) ?_
    have b94 : (-2147483648 : Int) ≤ T0 18 (p).toNat ∧ T0 18 (p).toNat ≤ 2147483647 := hWT.2 18 _
    refine jr_ldv (pc_q := 95) (i := 18) (m := 7000) (z := p) (y := T0 18 (p).toNat) rfl (by decide) rfl (by decide) (by omega) (by omega) rfl (show A 18 (p).toNat = T0 18 (p).toNat from (congrFun (p_0 18 rfl) _)) ?_
    refine jx_vr (pc_q := 98) (as := [.int (i32 (T0 18 (p).toNat))]) (st := []) rfl rfl rfl rfl ⟨rfl, rfl, Nat.le_of_ble_eq_true rfl⟩ rfl rfl (c_useE_h (dd := d) (hd := by omega) (hW := hW) (e := T0 18 (p).toNat) (k := 20) (lo := p + 1) (hi := hi) (uf := uf) (e_uf := show G 62 = uf from (e_uf)) (us := us) (e_us := show G 61 = us from (e_us))  (h_e := ⟨(Int.le_trans (by decide : (-2147483648 : Int) ≤ -2147483648) b94.1), (Int.le_trans b94.2 (by decide : (2147483647 : Int) ≤ 2147483647))⟩)  (p_0 := p_0) (p_1 := by omega) (p_2 := by omega) (p_3 := by omega) (p_4 := by omega) (p_5 := by omega) (p_6 := by omega) (p_7 := p_7) (p_8 := p_8) (p_9 := (wE_mono (by omega) (by omega) (by omega) g3)) (p_10 := by omega) (p_11 := hSA1) (p_12 := hzz.1)) (fun o V_q hq => ?_)
    obtain ⟨G95, A96, us2_97, rfl, rfl, hW98, hF99, e100, p101, p102, p103, -⟩ := hq
    have hF105 := Fr_tr hF0 hF99 (Fr_sub (by decide)) (Fr_sub (by decide))
    have bus2_97 : (-2147483648 : Int) ≤ us2_97 ∧ us2_97 ≤ 2147483647 := e100 ▸ hW98.1 61
    refine .inl ⟨rfl, ?_⟩
    refine jx_ld (pc_q := 99) (l_q := [(0, .ref 66), (1, .int (i32 (p)))]) (st_q := [.ref 66]) rfl (jl_aloadn rfl) ?_
    refine jx_ld (pc_q := 100) (l_q := [(0, .ref 66), (1, .int (i32 (p)))]) (st_q := [.ref 66, .ref 66]) rfl (jl_aloadn rfl) ?_
    refine jr_get (pc_q := 103) (i := 34) (v := .ref 84) rfl rfl (by decide) rfl rfl ?_
    refine jx_ld (pc_q := 104) (l_q := [(0, .ref 66), (1, .int (i32 (p)))]) (st_q := [.int (i32 (p)), .ref 84, .ref 66]) rfl (jl_iloadn rfl) ?_
    have b106 : (-2147483648 : Int) ≤ T0 17 (p).toNat ∧ T0 17 (p).toNat ≤ 2147483647 := hWT.2 17 _
    refine jr_ldv (pc_q := 105) (i := 17) (m := 7000) (z := p) (y := T0 17 (p).toNat) rfl (by decide) rfl (by decide) (by omega) (by omega) rfl (show A96 17 (p).toNat = T0 17 (p).toNat from (congrFun ((hF99.2 17 rfl).trans (p_0 17 rfl)) _)) ?_
    refine jx_ar (pc_q := 106) (st_q := [.int (i32 (4)), .int (i32 (T0 17 (p).toNat)), .ref 66]) rfl rfl rfl rfl ?_
    refine jx_vr (pc_q := 109) (as := [.int (i32 (T0 17 (p).toNat)), .int (i32 (4))]) (st := []) rfl rfl rfl rfl ⟨rfl, rfl, Nat.le_of_ble_eq_true rfl⟩ rfl rfl (c_useReference_h (dd := d) (hd := by omega) (hW := hW98) (x := T0 17 (p).toNat) (dn := 4) (k := 20) (lo := lo) (hi := p) (uf := uf) (e_uf := show G95 62 = uf from ((hF99.1 62 rfl).trans (e_uf))) (us := us2_97) (e_us := show G95 61 = us2_97 from (e100))  (h_x := ⟨(Int.le_trans (by decide : (-2147483648 : Int) ≤ -2147483648) b106.1), (Int.le_trans b106.2 (by decide : (2147483647 : Int) ≤ 2147483647))⟩) (h_dn := ⟨(by decide), (by decide)⟩)  (p_0 := (TA_fr hF105 (by decide) p_0)) (p_1 := by omega) (p_2 := by omega) (p_3 := by omega) (p_4 := by omega) (p_5 := by omega) (p_6 := by omega) (p_7 := p102) (p_8 := p_8) (p_9 := (qX_pX (pX_wR g2))) (p_10 := by omega) (p_11 := by omega) (p_12 := by omega) (p_13 := (SA_fr2 (show A96 13 = A 13 from (hF99.2 13 rfl)) hSA1)) (p_14 := hzz.2)) (fun o V_q hq => ?_)
    obtain ⟨G107, A108, us2_109, rfl, rfl, hW110, hF111, e112, p113, p114, p115, -⟩ := hq
    have hF117 := Fr_tr hF105 hF111 (Fr_sub (by decide)) (Fr_sub (by decide))
    have bus2_109 : (-2147483648 : Int) ≤ us2_109 ∧ us2_109 ≤ 2147483647 := e112 ▸ hW110.1 61
    refine .inl ⟨rfl, ?_⟩
    refine jx_go (tg := 331) rfl rfl ?_
    have _q : True := trivial
    refine jx_rt (v := none) rfl rfl rfl rfl rfl rfl ?_
    exact ⟨_, _, us2_109, rfl, rfl, hW110, hF117, (e112), by omega, p114, (SA_su Vd_l (SA_fr2 (show A108 13 = A 13 from ((hF111.2 13 rfl).trans (hF99.2 13 rfl))) hSA1)), (vs_23 (by omega) hkd p103 p115), trivial⟩
  · refine jx_swe (z := 24) (tg := 112) h69 rfl rfl rfl rfl ?_
    have hkd : T0 15 (p).toNat = 24 := (by omega); obtain ⟨g1, g2, g3⟩ := wS_i24 w8 hkd; have hzz := z3 hkd; have i2 := g2.1; have i3 := g2.2.1; have i4 := g3.1; have i5 := g3.2.1
    refine jx_ld (pc_q := 113) (l_q := [(0, .ref 66), (1, .int (i32 (p)))]) (st_q := [.ref 66]) rfl (jl_aloadn rfl) ?_
    refine jx_ld (pc_q := 114) (l_q := [(0, .ref 66), (1, .int (i32 (p)))]) (st_q := [.ref 66, .ref 66]) rfl (jl_aloadn rfl) ?_
    refine jr_get (pc_q := 117) (i := 34) (v := .ref 84) rfl rfl (by decide) rfl rfl ?_
    refine jx_ld (pc_q := 118) (l_q := [(0, .ref 66), (1, .int (i32 (p)))]) (st_q := [.int (i32 (p)), .ref 84, .ref 66]) rfl (jl_iloadn rfl) ?_
    have b118 : (-2147483648 : Int) ≤ T0 17 (p).toNat ∧ T0 17 (p).toNat ≤ 2147483647 := hWT.2 17 _
    refine jr_ldv (pc_q := 119) (i := 17) (m := 7000) (z := p) (y := T0 17 (p).toNat) rfl (by decide) rfl (by decide) (by omega) (by omega) rfl (show A 17 (p).toNat = T0 17 (p).toNat from (congrFun (p_0 17 rfl) _)) ?_
    refine jx_ar (pc_q := 121) (st_q := [.int (i32 (8)), .int (i32 (T0 17 (p).toNat)), .ref 66]) rfl rfl rfl rfl ?_
    refine jx_vr (pc_q := 124) (as := [.int (i32 (T0 17 (p).toNat)), .int (i32 (8))]) (st := []) rfl rfl rfl rfl ⟨rfl, rfl, Nat.le_of_ble_eq_true rfl⟩ rfl rfl (c_useReference_h (dd := d) (hd := by omega) (hW := hW) (x := T0 17 (p).toNat) (dn := 8) (k := 20) (lo := lo) (hi := p) (uf := uf) (e_uf := show G 62 = uf from (e_uf)) (us := us) (e_us := show G 61 = us from (e_us))  (h_x := ⟨(Int.le_trans (by decide : (-2147483648 : Int) ≤ -2147483648) b118.1), (Int.le_trans b118.2 (by decide : (2147483647 : Int) ≤ 2147483647))⟩) (h_dn := ⟨(by decide), (by decide)⟩)  (p_0 := p_0) (p_1 := by omega) (p_2 := by omega) (p_3 := by omega) (p_4 := by omega) (p_5 := by omega) (p_6 := by omega) (p_7 := p_7) (p_8 := p_8) (p_9 := (qX_pX (pX_wR g2))) (p_10 := by omega) (p_11 := by omega) (p_12 := by omega) (p_13 := hSA1) (p_14 := hzz.1)) (fun o V_q hq => ?_)
    obtain ⟨G119, A120, us2_121, rfl, rfl, hW122, hF123, e124, p125, p126, p127, -⟩ := hq
    have hF129 := Fr_tr hF0 hF123 (Fr_sub (by decide)) (Fr_sub (by decide))
    have bus2_121 : (-2147483648 : Int) ≤ us2_121 ∧ us2_121 ≤ 2147483647 := e124 ▸ hW122.1 61
    refine .inl ⟨rfl, ?_⟩
    refine jx_ld (pc_q := 125) (l_q := [(0, .ref 66), (1, .int (i32 (p)))]) (st_q := [.ref 66]) rfl (jl_aloadn rfl) ?_
    refine jx_ld (pc_q := 126) (l_q := [(0, .ref 66), (1, .int (i32 (p)))]) (st_q := [.ref 66, .ref 66]) rfl (jl_aloadn rfl) ?_
    refine jr_get (pc_q := 129) (i := 35) (v := .ref 85) rfl rfl (by decide) rfl rfl ?_
    refine jx_ld (pc_q := 130) (l_q := [(0, .ref 66), (1, .int (i32 (p)))]) (st_q := [.int (i32 (p)), .ref 85, .ref 66]) rfl (jl_iloadn rfl) ?_
    have b130 : (-2147483648 : Int) ≤ T0 18 (p).toNat ∧ T0 18 (p).toNat ≤ 2147483647 := hWT.2 18 _
    refine jr_ldv (pc_q := 131) (i := 18) (m := 7000) (z := p) (y := T0 18 (p).toNat) rfl (by decide) rfl (by decide) (by omega) (by omega) rfl (show A120 18 (p).toNat = T0 18 (p).toNat from (congrFun ((hF123.2 18 rfl).trans (p_0 18 rfl)) _)) ?_
    refine jx_ar (pc_q := 132) (st_q := [.int (i32 (2)), .int (i32 (T0 18 (p).toNat)), .ref 66]) rfl rfl rfl rfl ?_
    refine jx_vr (pc_q := 135) (as := [.int (i32 (T0 18 (p).toNat)), .int (i32 (2))]) (st := []) rfl rfl rfl rfl ⟨rfl, rfl, Nat.le_of_ble_eq_true rfl⟩ rfl rfl (c_useReference_h (dd := d) (hd := by omega) (hW := hW122) (x := T0 18 (p).toNat) (dn := 2) (k := 20) (lo := p + 1) (hi := hi) (uf := uf) (e_uf := show G119 62 = uf from ((hF123.1 62 rfl).trans (e_uf))) (us := us2_121) (e_us := show G119 61 = us2_121 from (e124))  (h_x := ⟨(Int.le_trans (by decide : (-2147483648 : Int) ≤ -2147483648) b130.1), (Int.le_trans b130.2 (by decide : (2147483647 : Int) ≤ 2147483647))⟩) (h_dn := ⟨(by decide), (by decide)⟩)  (p_0 := (TA_fr hF129 (by decide) p_0)) (p_1 := by omega) (p_2 := by omega) (p_3 := by omega) (p_4 := by omega) (p_5 := by omega) (p_6 := by omega) (p_7 := p126) (p_8 := p_8) (p_9 := (qX_pX (pX_wR g3))) (p_10 := by omega) (p_11 := by omega) (p_12 := by omega) (p_13 := (SA_fr2 (show A120 13 = A 13 from (hF123.2 13 rfl)) hSA1)) (p_14 := hzz.2)) (fun o V_q hq => ?_)
    obtain ⟨G131, A132, us2_133, rfl, rfl, hW134, hF135, e136, p137, p138, p139, -⟩ := hq
    have hF141 := Fr_tr hF129 hF135 (Fr_sub (by decide)) (Fr_sub (by decide))
    have bus2_133 : (-2147483648 : Int) ≤ us2_133 ∧ us2_133 ≤ 2147483647 := e136 ▸ hW134.1 61
    refine .inl ⟨rfl, ?_⟩
    refine jx_go (tg := 331) rfl rfl ?_
    have _q : True := trivial
    refine jx_rt (v := none) rfl rfl rfl rfl rfl rfl ?_
    exact ⟨_, _, us2_133, rfl, rfl, hW134, hF141, (e136), by omega, p138, (SA_su Vd_l (SA_fr2 (show A132 13 = A 13 from ((hF135.2 13 rfl).trans (hF123.2 13 rfl))) hSA1)), (vs_24 (by omega) hkd p127 p139), trivial⟩
  · refine jx_swe (z := 25) (tg := 138) h69 rfl rfl rfl rfl ?_
    have hkd : T0 15 (p).toNat = 25 := (by omega); obtain ⟨g1, g2, g3, l0, ch0, g4, g5⟩ := wS_i25 w8 hkd; have hQ0 := LAr_0 ch0 g4 g5 rfl
    refine jx_ld (pc_q := 139) (l_q := [(0, .ref 66), (1, .int (i32 (p)))]) (st_q := [.ref 66]) rfl (jl_aloadn rfl) ?_
    refine jr_get (pc_q := 142) (i := 38) (v := .ref 88) rfl rfl (by decide) rfl rfl ?_
    refine jx_ld (pc_q := 143) (l_q := [(0, .ref 66), (1, .int (i32 (p)))]) (st_q := [.int (i32 (p)), .ref 88]) rfl (jl_iloadn rfl) ?_
    have b142 : (-2147483648 : Int) ≤ T0 21 (p).toNat ∧ T0 21 (p).toNat ≤ 2147483647 := hWT.2 21 _
    refine jr_ldv (pc_q := 144) (i := 21) (m := 7000) (z := p) (y := T0 21 (p).toNat) rfl (by decide) rfl (by decide) (by omega) (by omega) rfl (show A 21 (p).toNat = T0 21 (p).toNat from (congrFun (p_0 21 rfl) _)) ?_
    refine jx_ld (pc_q := 145) (l_q := jSto1 [(0, .ref 66), (1, .int (i32 (p)))] 2 (.int (i32 (T0 21 (p).toNat)))) (st_q := []) rfl rfl ?_
    obtain ⟨L143, eL143⟩ : ∃ q, q = jSto1 [(0, .ref 66), (1, .int (i32 (p)))] 2 (.int (i32 (T0 21 (p).toNat))) := ⟨_, rfl⟩
    rw [← eL143]
    have gL143_0 : jGet L143 0 = some (.ref 66) := eL143 ▸ jg_ne (by decide) (rfl : jGet [(0, .ref 66), (1, .int (i32 (p)))] 0 = some (.ref 66)) rfl
    have gL143_1 : jGet L143 1 = some (.int (i32 (p))) := eL143 ▸ jg_ne (by decide) (rfl : jGet [(0, .ref 66), (1, .int (i32 (p)))] 1 = some (.int (i32 (p)))) rfl
    have gL143_2 : jGet L143 2 = some (.int (i32 (T0 21 (p).toNat))) := eL143 ▸ jg_eq
    exact c_useAll_s_at_145 (X := X) (k := k) (hA := hA) (d := d) (T0 := T0) (Sn := Sn) (Bu := Bu) (Vs := Vs) (sb := sb) (pb := pb) (M := M) (Fm := Fm) (c0 := c0) (c1 := c1) (G := G) (A := A) (T := T) (p := p) (lo := lo) (hi := hi) (s0 := s0) (s1 := s1) (uf := uf) (us := us) (hd := hd) (hW := hW) (e_uf := e_uf) (e_us := e_us) (h_p := h_p) (p_0 := p_0) (p_1 := p_1) (p_2 := p_2) (p_3 := p_3) (p_4 := p_4) (p_5 := p_5) (p_6 := p_6) (p_7 := p_7) (p_8 := p_8) (p_9 := p_9) (p_10 := p_10) (p_11 := p_11) (p_12 := p_12) (p_13 := p_13) (p_14 := p_14) (p_15 := p_15) _ L143 G A (T0 21 (p).toNat) (us) (p + 1) rfl gL143_0 gL143_1 gL143_2 hW hF0 ((e_us)) (by omega) (by omega) (p_7) (hSA1) (by omega) (by omega) (by omega) (hQ0) ((UXq_0 ⟨_, ch0⟩ rfl))
  · refine jx_swe (z := 26) (tg := 250) h69 rfl rfl rfl rfl ?_
    have hQ0 : ∃ l, CH T0 (T0 21 (p).toNat) l ∧ wCs (wP T0 sb pb k (Vd Vs s0 (s0 + T0 24 (p).toNat))) l (p + 1) hi (s0 + T0 24 (p).toNat) s1 := (by rcases (by omega : T0 15 (p).toNat = 26 ∨ T0 15 (p).toNat = 28) with hkd | hkd; exact wS_i26 w8 hkd; obtain ⟨_, _, _, l, a, _, b⟩ := wS_i28 w8 hkd; exact ⟨l, a, b⟩); obtain ⟨l0, ch0, g5⟩ := hQ0; have hQ1 := LQ_0 (N := fun _ => True) ch0 g5 rfl trivial
    refine jx_ld (pc_q := 251) (l_q := [(0, .ref 66), (1, .int (i32 (p)))]) (st_q := [.ref 66]) rfl (jl_aloadn rfl) ?_
    refine jr_get (pc_q := 254) (i := 38) (v := .ref 88) rfl rfl (by decide) rfl rfl ?_
    refine jx_ld (pc_q := 255) (l_q := [(0, .ref 66), (1, .int (i32 (p)))]) (st_q := [.int (i32 (p)), .ref 88]) rfl (jl_iloadn rfl) ?_
    have b144 : (-2147483648 : Int) ≤ T0 21 (p).toNat ∧ T0 21 (p).toNat ≤ 2147483647 := hWT.2 21 _
    refine jr_ldv (pc_q := 256) (i := 21) (m := 7000) (z := p) (y := T0 21 (p).toNat) rfl (by decide) rfl (by decide) (by omega) (by omega) rfl (show A 21 (p).toNat = T0 21 (p).toNat from (congrFun (p_0 21 rfl) _)) ?_
    refine jx_ld (pc_q := 257) (l_q := jSto1 [(0, .ref 66), (1, .int (i32 (p)))] 2 (.int (i32 (T0 21 (p).toNat)))) (st_q := []) rfl rfl ?_
    obtain ⟨L145, eL145⟩ : ∃ q, q = jSto1 [(0, .ref 66), (1, .int (i32 (p)))] 2 (.int (i32 (T0 21 (p).toNat))) := ⟨_, rfl⟩
    rw [← eL145]
    have gL145_0 : jGet L145 0 = some (.ref 66) := eL145 ▸ jg_ne (by decide) (rfl : jGet [(0, .ref 66), (1, .int (i32 (p)))] 0 = some (.ref 66)) rfl
    have gL145_1 : jGet L145 1 = some (.int (i32 (p))) := eL145 ▸ jg_ne (by decide) (rfl : jGet [(0, .ref 66), (1, .int (i32 (p)))] 1 = some (.int (i32 (p)))) rfl
    have gL145_2 : jGet L145 2 = some (.int (i32 (T0 21 (p).toNat))) := eL145 ▸ jg_eq
    exact c_useAll_s_at_257 (X := X) (k := k) (hA := hA) (d := d) (T0 := T0) (Sn := Sn) (Bu := Bu) (Vs := Vs) (sb := sb) (pb := pb) (M := M) (Fm := Fm) (c0 := c0) (c1 := c1) (G := G) (A := A) (T := T) (p := p) (lo := lo) (hi := hi) (s0 := s0) (s1 := s1) (uf := uf) (us := us) (hd := hd) (hW := hW) (e_uf := e_uf) (e_us := e_us) (h_p := h_p) (p_0 := p_0) (p_1 := p_1) (p_2 := p_2) (p_3 := p_3) (p_4 := p_4) (p_5 := p_5) (p_6 := p_6) (p_7 := p_7) (p_8 := p_8) (p_9 := p_9) (p_10 := p_10) (p_11 := p_11) (p_12 := p_12) (p_13 := p_13) (p_14 := p_14) (p_15 := p_15) _ L145 G A (T0 21 (p).toNat) (us) (p + 1) (s0 + T0 24 (p).toNat) rfl gL145_0 gL145_1 gL145_2 hW hF0 ((e_us)) (by omega) (by omega) (p_7) (hSA1) (by omega) (by omega) (by omega) (by omega) (by omega) (hQ1) ((UXq_0 ⟨_, ch0⟩ rfl))
  · refine jx_swe (z := 27) (tg := 167) h69 rfl rfl rfl rfl ?_
    have hkd : T0 15 (p).toNat = 27 := (by omega); obtain ⟨g1, g2, g3, a7, b7, g4, g5, g6, g7, g8, g9⟩ := wS_i27 w8 hkd; have hzz := z6 hkd; have i7 := wE_in g7; have i8 := wE_in g8; have hVBc : VB (Vu (Vd Vs s0 (s0 + T0 24 (p).toNat)) (s0 + T0 24 (p).toNat)) (s0 + T0 24 (p).toNat + 1) := VB_u hVB1 (by omega) (by omega)
    refine jx_ld (pc_q := 168) (l_q := [(0, .ref 66), (1, .int (i32 (p)))]) (st_q := [.ref 66]) rfl (jl_aloadn rfl) ?_
    refine jx_ld (pc_q := 169) (l_q := [(0, .ref 66), (1, .int (i32 (p)))]) (st_q := [.ref 66, .ref 66]) rfl (jl_aloadn rfl) ?_
    refine jr_get (pc_q := 172) (i := 36) (v := .ref 86) rfl rfl (by decide) rfl rfl ?_
    refine jx_ld (pc_q := 173) (l_q := [(0, .ref 66), (1, .int (i32 (p)))]) (st_q := [.int (i32 (p)), .ref 86, .ref 66]) rfl (jl_iloadn rfl) ?_
    have b146 : (-2147483648 : Int) ≤ T0 19 (p).toNat ∧ T0 19 (p).toNat ≤ 2147483647 := hWT.2 19 _
    refine jr_ldv (pc_q := 174) (i := 19) (m := 7000) (z := p) (y := T0 19 (p).toNat) rfl (by decide) rfl (by decide) (by omega) (by omega) rfl (show A 19 (p).toNat = T0 19 (p).toNat from (congrFun (p_0 19 rfl) _)) ?_
    refine jx_vr (pc_q := 177) (as := [.int (i32 (T0 19 (p).toNat))]) (st := []) rfl rfl rfl rfl ⟨rfl, rfl, Nat.le_of_ble_eq_true rfl⟩ rfl rfl (c_useE_h (dd := d) (hd := by omega) (hW := hW) (e := T0 19 (p).toNat) (k := 20) (lo := p + 1) (hi := a7) (uf := uf) (e_uf := show G 62 = uf from (e_uf)) (us := us) (e_us := show G 61 = us from (e_us))  (h_e := ⟨(Int.le_trans (by decide : (-2147483648 : Int) ≤ -2147483648) b146.1), (Int.le_trans b146.2 (by decide : (2147483647 : Int) ≤ 2147483647))⟩)  (p_0 := p_0) (p_1 := by omega) (p_2 := by omega) (p_3 := by omega) (p_4 := by omega) (p_5 := by omega) (p_6 := by omega) (p_7 := p_7) (p_8 := p_8) (p_9 := (wE_mono (by omega) (by omega) (by omega) g7)) (p_10 := by omega) (p_11 := hSA1) (p_12 := hzz.1.1)) (fun o V_q hq => ?_)
    obtain ⟨G147, A148, us2_149, rfl, rfl, hW150, hF151, e152, p153, p154, p155, -⟩ := hq
    have hF157 := Fr_tr hF0 hF151 (Fr_sub (by decide)) (Fr_sub (by decide))
    have bus2_149 : (-2147483648 : Int) ≤ us2_149 ∧ us2_149 ≤ 2147483647 := e152 ▸ hW150.1 61
    refine .inl ⟨rfl, ?_⟩
    refine jx_ld (pc_q := 178) (l_q := [(0, .ref 66), (1, .int (i32 (p)))]) (st_q := [.ref 66]) rfl (jl_aloadn rfl) ?_
    refine jx_ld (pc_q := 179) (l_q := [(0, .ref 66), (1, .int (i32 (p)))]) (st_q := [.ref 66, .ref 66]) rfl (jl_aloadn rfl) ?_
    refine jr_get (pc_q := 182) (i := 37) (v := .ref 87) rfl rfl (by decide) rfl rfl ?_
    refine jx_ld (pc_q := 183) (l_q := [(0, .ref 66), (1, .int (i32 (p)))]) (st_q := [.int (i32 (p)), .ref 87, .ref 66]) rfl (jl_iloadn rfl) ?_
    have b158 : (-2147483648 : Int) ≤ T0 20 (p).toNat ∧ T0 20 (p).toNat ≤ 2147483647 := hWT.2 20 _
    refine jr_ldv (pc_q := 184) (i := 20) (m := 7000) (z := p) (y := T0 20 (p).toNat) rfl (by decide) rfl (by decide) (by omega) (by omega) rfl (show A148 20 (p).toNat = T0 20 (p).toNat from (congrFun ((hF151.2 20 rfl).trans (p_0 20 rfl)) _)) ?_
    refine jx_vr (pc_q := 187) (as := [.int (i32 (T0 20 (p).toNat))]) (st := []) rfl rfl rfl rfl ⟨rfl, rfl, Nat.le_of_ble_eq_true rfl⟩ rfl rfl (c_useE_h (dd := d) (hd := by omega) (hW := hW150) (e := T0 20 (p).toNat) (k := 20) (lo := a7) (hi := b7) (uf := uf) (e_uf := show G147 62 = uf from ((hF151.1 62 rfl).trans (e_uf))) (us := us2_149) (e_us := show G147 61 = us2_149 from (e152))  (h_e := ⟨(Int.le_trans (by decide : (-2147483648 : Int) ≤ -2147483648) b158.1), (Int.le_trans b158.2 (by decide : (2147483647 : Int) ≤ 2147483647))⟩)  (p_0 := (TA_fr hF157 (by decide) p_0)) (p_1 := by omega) (p_2 := by omega) (p_3 := by omega) (p_4 := by omega) (p_5 := by omega) (p_6 := by omega) (p_7 := p154) (p_8 := p_8) (p_9 := (wE_mono (by omega) (by omega) (by omega) g8)) (p_10 := by omega) (p_11 := (SA_fr2 (show A148 13 = A 13 from (hF151.2 13 rfl)) hSA1)) (p_12 := hzz.1.2)) (fun o V_q hq => ?_)
    obtain ⟨G159, A160, us2_161, rfl, rfl, hW162, hF163, e164, p165, p166, p167, -⟩ := hq
    have hF169 := Fr_tr hF157 hF163 (Fr_sub (by decide)) (Fr_sub (by decide))
    have bus2_161 : (-2147483648 : Int) ≤ us2_161 ∧ us2_161 ≤ 2147483647 := e164 ▸ hW162.1 61
    refine .inl ⟨rfl, ?_⟩
    have hSA2 : SA T0 (Vu (Vd Vs s0 (s0 + T0 24 (p).toNat)) (s0 + T0 24 (p).toNat)) Sn A160 := SA_u (SA_fr2 (show A160 13 = A 13 from ((hF163.2 13 rfl).trans (hF151.2 13 rfl))) hSA1) (by rw [g3]; decide)
    refine jx_ld (pc_q := 188) (l_q := [(0, .ref 66), (1, .int (i32 (p)))]) (st_q := [.ref 66]) rfl (jl_aloadn rfl) ?_
    refine jx_ld (pc_q := 189) (l_q := [(0, .ref 66), (1, .int (i32 (p)))]) (st_q := [.ref 66, .ref 66]) rfl (jl_aloadn rfl) ?_
    refine jr_get (pc_q := 192) (i := 38) (v := .ref 88) rfl rfl (by decide) rfl rfl ?_
    refine jx_ld (pc_q := 193) (l_q := [(0, .ref 66), (1, .int (i32 (p)))]) (st_q := [.int (i32 (p)), .ref 88, .ref 66]) rfl (jl_iloadn rfl) ?_
    have b170 : (-2147483648 : Int) ≤ T0 21 (p).toNat ∧ T0 21 (p).toNat ≤ 2147483647 := hWT.2 21 _
    refine jr_ldv (pc_q := 194) (i := 21) (m := 7000) (z := p) (y := T0 21 (p).toNat) rfl (by decide) rfl (by decide) (by omega) (by omega) rfl (show A160 21 (p).toNat = T0 21 (p).toNat from (congrFun ((hF163.2 21 rfl).trans ((hF151.2 21 rfl).trans (p_0 21 rfl))) _)) ?_
    refine jx_vr (pc_q := 197) (as := [.int (i32 (T0 21 (p).toNat))]) (st := []) rfl rfl rfl rfl ⟨rfl, rfl, Nat.le_of_ble_eq_true rfl⟩ rfl rfl (hA (dd := d) (hd := by omega) (hW := hW162) (p := T0 21 (p).toNat) (lo := b7) (hi := hi) (s0 := s0 + T0 24 (p).toNat + 1) (s1 := s1) (uf := uf) (e_uf := show G159 62 = uf from ((hF163.1 62 rfl).trans ((hF151.1 62 rfl).trans (e_uf)))) (us := us2_161) (e_us := show G159 61 = us2_161 from (e164))  (h_p := ⟨(Int.le_trans (by decide : (-2147483648 : Int) ≤ -2147483648) b170.1), (Int.le_trans b170.2 (by decide : (2147483647 : Int) ≤ 2147483647))⟩)  (p_0 := (TA_fr hF169 (by decide) p_0)) (p_1 := by omega) (p_2 := by omega) (p_3 := by omega) (p_4 := by omega) (p_5 := by omega) (p_6 := by omega) (p_7 := p166) (p_8 := p_8) (p_9 := by omega) (p_10 := by omega) (p_11 := g9) (p_12 := hVBc) (p_13 := hSA2) (p_14 := (BU_fr (show A160 11 = A 11 from ((hF163.2 11 rfl).trans (hF151.2 11 rfl))) p_14)) (p_15 := hzz.2)) (fun o V_q hq => ?_)
    obtain ⟨G171, A172, us2_173, rfl, rfl, hW174, hF175, e176, p177, p178, p179, p180, -⟩ := hq
    have hF182 := Fr_tr hF169 hF175 (Fr_sub (by decide)) (Fr_sub (by decide))
    have bus2_173 : (-2147483648 : Int) ≤ us2_173 ∧ us2_173 ≤ 2147483647 := e176 ▸ hW174.1 61
    refine .inl ⟨rfl, ?_⟩
    have hSA3 : SA T0 (Vd Vs s0 (s0 + T0 24 (p).toNat)) Sn A172 := SA_su Vu_l p179
    refine jx_go (tg := 331) rfl rfl ?_
    have _q : True := trivial
    refine jx_rt (v := none) rfl rfl rfl rfl rfl rfl ?_
    exact ⟨_, _, us2_173, rfl, rfl, hW174, hF182, (e176), by omega, p178, (SA_su Vd_l hSA3), (vs_27 (by omega) hkd p155 p167 p180), trivial⟩
  · refine jx_swe (z := 28) (tg := 250) h69 rfl rfl rfl rfl ?_
    have hQ0 : ∃ l, CH T0 (T0 21 (p).toNat) l ∧ wCs (wP T0 sb pb k (Vd Vs s0 (s0 + T0 24 (p).toNat))) l (p + 1) hi (s0 + T0 24 (p).toNat) s1 := (by rcases (by omega : T0 15 (p).toNat = 26 ∨ T0 15 (p).toNat = 28) with hkd | hkd; exact wS_i26 w8 hkd; obtain ⟨_, _, _, l, a, _, b⟩ := wS_i28 w8 hkd; exact ⟨l, a, b⟩); obtain ⟨l0, ch0, g5⟩ := hQ0; have hQ1 := LQ_0 (N := fun _ => True) ch0 g5 rfl trivial
    refine jx_ld (pc_q := 251) (l_q := [(0, .ref 66), (1, .int (i32 (p)))]) (st_q := [.ref 66]) rfl (jl_aloadn rfl) ?_
    refine jr_get (pc_q := 254) (i := 38) (v := .ref 88) rfl rfl (by decide) rfl rfl ?_
    refine jx_ld (pc_q := 255) (l_q := [(0, .ref 66), (1, .int (i32 (p)))]) (st_q := [.int (i32 (p)), .ref 88]) rfl (jl_iloadn rfl) ?_
    have b183 : (-2147483648 : Int) ≤ T0 21 (p).toNat ∧ T0 21 (p).toNat ≤ 2147483647 := hWT.2 21 _
    refine jr_ldv (pc_q := 256) (i := 21) (m := 7000) (z := p) (y := T0 21 (p).toNat) rfl (by decide) rfl (by decide) (by omega) (by omega) rfl (show A 21 (p).toNat = T0 21 (p).toNat from (congrFun (p_0 21 rfl) _)) ?_
    refine jx_ld (pc_q := 257) (l_q := jSto1 [(0, .ref 66), (1, .int (i32 (p)))] 2 (.int (i32 (T0 21 (p).toNat)))) (st_q := []) rfl rfl ?_
    obtain ⟨L184, eL184⟩ : ∃ q, q = jSto1 [(0, .ref 66), (1, .int (i32 (p)))] 2 (.int (i32 (T0 21 (p).toNat))) := ⟨_, rfl⟩
    rw [← eL184]
    have gL184_0 : jGet L184 0 = some (.ref 66) := eL184 ▸ jg_ne (by decide) (rfl : jGet [(0, .ref 66), (1, .int (i32 (p)))] 0 = some (.ref 66)) rfl
    have gL184_1 : jGet L184 1 = some (.int (i32 (p))) := eL184 ▸ jg_ne (by decide) (rfl : jGet [(0, .ref 66), (1, .int (i32 (p)))] 1 = some (.int (i32 (p)))) rfl
    have gL184_2 : jGet L184 2 = some (.int (i32 (T0 21 (p).toNat))) := eL184 ▸ jg_eq
    exact c_useAll_s_at_257 (X := X) (k := k) (hA := hA) (d := d) (T0 := T0) (Sn := Sn) (Bu := Bu) (Vs := Vs) (sb := sb) (pb := pb) (M := M) (Fm := Fm) (c0 := c0) (c1 := c1) (G := G) (A := A) (T := T) (p := p) (lo := lo) (hi := hi) (s0 := s0) (s1 := s1) (uf := uf) (us := us) (hd := hd) (hW := hW) (e_uf := e_uf) (e_us := e_us) (h_p := h_p) (p_0 := p_0) (p_1 := p_1) (p_2 := p_2) (p_3 := p_3) (p_4 := p_4) (p_5 := p_5) (p_6 := p_6) (p_7 := p_7) (p_8 := p_8) (p_9 := p_9) (p_10 := p_10) (p_11 := p_11) (p_12 := p_12) (p_13 := p_13) (p_14 := p_14) (p_15 := p_15) _ L184 G A (T0 21 (p).toNat) (us) (p + 1) (s0 + T0 24 (p).toNat) rfl gL184_0 gL184_1 gL184_2 hW hF0 ((e_us)) (by omega) (by omega) (p_7) (hSA1) (by omega) (by omega) (by omega) (by omega) (by omega) (hQ1) ((UXq_0 ⟨_, ch0⟩ rfl))
  · refine jx_swe (z := 29) (tg := 200) h69 rfl rfl rfl rfl ?_
    have hkd : T0 15 (p).toNat = 29 := (by omega); obtain ⟨g1, g2, g3, g4, g5, g6, g7, g8⟩ := wS_i29 w8 hkd
    refine jx_ar (pc_q := 201) (st_q := [.int (i32 (0))]) rfl rfl rfl rfl ?_
    refine jx_ld (pc_q := 202) (l_q := jSto1 [(0, .ref 66), (1, .int (i32 (p)))] 2 (.int (i32 (0)))) (st_q := []) rfl rfl ?_
    obtain ⟨L185, eL185⟩ : ∃ q, q = jSto1 [(0, .ref 66), (1, .int (i32 (p)))] 2 (.int (i32 (0))) := ⟨_, rfl⟩
    rw [← eL185]
    have gL185_0 : jGet L185 0 = some (.ref 66) := eL185 ▸ jg_ne (by decide) (rfl : jGet [(0, .ref 66), (1, .int (i32 (p)))] 0 = some (.ref 66)) rfl
    have gL185_1 : jGet L185 1 = some (.int (i32 (p))) := eL185 ▸ jg_ne (by decide) (rfl : jGet [(0, .ref 66), (1, .int (i32 (p)))] 1 = some (.int (i32 (p)))) rfl
    have gL185_2 : jGet L185 2 = some (.int (i32 (0))) := eL185 ▸ jg_eq
    exact c_useAll_s_at_202 (X := X) (k := k) (hA := hA) (d := d) (T0 := T0) (Sn := Sn) (Bu := Bu) (Vs := Vs) (sb := sb) (pb := pb) (M := M) (Fm := Fm) (c0 := c0) (c1 := c1) (G := G) (A := A) (T := T) (p := p) (lo := lo) (hi := hi) (s0 := s0) (s1 := s1) (uf := uf) (us := us) (hd := hd) (hW := hW) (e_uf := e_uf) (e_us := e_us) (h_p := h_p) (p_0 := p_0) (p_1 := p_1) (p_2 := p_2) (p_3 := p_3) (p_4 := p_4) (p_5 := p_5) (p_6 := p_6) (p_7 := p_7) (p_8 := p_8) (p_9 := p_9) (p_10 := p_10) (p_11 := p_11) (p_12 := p_12) (p_13 := p_13) (p_14 := p_14) (p_15 := p_15) _ L185 G A (0) (us) rfl gL185_0 gL185_1 gL185_2 hW hF0 ((e_us)) (by omega) (by omega) (p_7) (hSA1) (by omega) (by omega) (by omega) (by omega) ((UXf_0 (by omega)))
  · refine jx_swe (z := 30) (tg := 302) h69 rfl rfl rfl rfl ?_
    have hQ0 : ∃ l, CH T0 (T0 21 (p).toNat) l ∧ (wCs (wI T0 (Vd Vs s0 (s0 + T0 24 (p).toNat)) sb (wP T0 sb pb k (Vd Vs s0 (s0 + T0 24 (p).toNat)))) l (p + 1) hi (s0 + T0 24 (p).toNat) s1 ∨ wCs (wG T0 (Vd Vs s0 (s0 + T0 24 (p).toNat)) sb (wP T0 sb pb k (Vd Vs s0 (s0 + T0 24 (p).toNat)))) l (p + 1) hi (s0 + T0 24 (p).toNat) s1) := (by rcases (by omega : T0 15 (p).toNat = 30 ∨ T0 15 (p).toNat = 32) with hkd | hkd; obtain ⟨l, _, a, b⟩ := wS_i30 w8 hkd; exact ⟨l, a, Or.inl b⟩; obtain ⟨_, _, l, a, _, b⟩ := wS_i32 w8 hkd; exact ⟨l, a, Or.inr b⟩); obtain ⟨l0, ch0, g5⟩ := hQ0; have hQ1 := LQ_ch2 ch0 g5 rfl
    refine jx_ld (pc_q := 303) (l_q := [(0, .ref 66), (1, .int (i32 (p)))]) (st_q := [.ref 66]) rfl (jl_aloadn rfl) ?_
    refine jr_get (pc_q := 306) (i := 38) (v := .ref 88) rfl rfl (by decide) rfl rfl ?_
    refine jx_ld (pc_q := 307) (l_q := [(0, .ref 66), (1, .int (i32 (p)))]) (st_q := [.int (i32 (p)), .ref 88]) rfl (jl_iloadn rfl) ?_
    have b186 : (-2147483648 : Int) ≤ T0 21 (p).toNat ∧ T0 21 (p).toNat ≤ 2147483647 := hWT.2 21 _
    refine jr_ldv (pc_q := 308) (i := 21) (m := 7000) (z := p) (y := T0 21 (p).toNat) rfl (by decide) rfl (by decide) (by omega) (by omega) rfl (show A 21 (p).toNat = T0 21 (p).toNat from (congrFun (p_0 21 rfl) _)) ?_
    refine jx_ld (pc_q := 309) (l_q := jSto1 [(0, .ref 66), (1, .int (i32 (p)))] 2 (.int (i32 (T0 21 (p).toNat)))) (st_q := []) rfl rfl ?_
    obtain ⟨L187, eL187⟩ : ∃ q, q = jSto1 [(0, .ref 66), (1, .int (i32 (p)))] 2 (.int (i32 (T0 21 (p).toNat))) := ⟨_, rfl⟩
    rw [← eL187]
    have gL187_0 : jGet L187 0 = some (.ref 66) := eL187 ▸ jg_ne (by decide) (rfl : jGet [(0, .ref 66), (1, .int (i32 (p)))] 0 = some (.ref 66)) rfl
    have gL187_1 : jGet L187 1 = some (.int (i32 (p))) := eL187 ▸ jg_ne (by decide) (rfl : jGet [(0, .ref 66), (1, .int (i32 (p)))] 1 = some (.int (i32 (p)))) rfl
    have gL187_2 : jGet L187 2 = some (.int (i32 (T0 21 (p).toNat))) := eL187 ▸ jg_eq
    exact c_useAll_s_at_309 (X := X) (k := k) (hA := hA) (d := d) (T0 := T0) (Sn := Sn) (Bu := Bu) (Vs := Vs) (sb := sb) (pb := pb) (M := M) (Fm := Fm) (c0 := c0) (c1 := c1) (G := G) (A := A) (T := T) (p := p) (lo := lo) (hi := hi) (s0 := s0) (s1 := s1) (uf := uf) (us := us) (hd := hd) (hW := hW) (e_uf := e_uf) (e_us := e_us) (h_p := h_p) (p_0 := p_0) (p_1 := p_1) (p_2 := p_2) (p_3 := p_3) (p_4 := p_4) (p_5 := p_5) (p_6 := p_6) (p_7 := p_7) (p_8 := p_8) (p_9 := p_9) (p_10 := p_10) (p_11 := p_11) (p_12 := p_12) (p_13 := p_13) (p_14 := p_14) (p_15 := p_15) _ L187 G A (T0 21 (p).toNat) (us) (p + 1) (s0 + T0 24 (p).toNat) rfl gL187_0 gL187_1 gL187_2 hW hF0 ((e_us)) (by omega) (by omega) (p_7) (hSA1) (by omega) (by omega) (by omega) (by omega) (by omega) (hQ1) ((UXq_0 ⟨_, ch0⟩ rfl))
  · refine jx_swe (z := 31) (tg := 279) h69 rfl rfl rfl rfl ?_
    have hkd : T0 15 (p).toNat = 31 := (by omega); obtain ⟨a7, g1, g2, g3, g4⟩ := wS_i31 w8 hkd; have hzz := z8 hkd; have i3 := wE_in g3; have hVBc := hVB1
    refine jx_ld (pc_q := 280) (l_q := [(0, .ref 66), (1, .int (i32 (p)))]) (st_q := [.ref 66]) rfl (jl_aloadn rfl) ?_
    refine jx_ld (pc_q := 281) (l_q := [(0, .ref 66), (1, .int (i32 (p)))]) (st_q := [.ref 66, .ref 66]) rfl (jl_aloadn rfl) ?_
    refine jr_get (pc_q := 284) (i := 34) (v := .ref 84) rfl rfl (by decide) rfl rfl ?_
    refine jx_ld (pc_q := 285) (l_q := [(0, .ref 66), (1, .int (i32 (p)))]) (st_q := [.int (i32 (p)), .ref 84, .ref 66]) rfl (jl_iloadn rfl) ?_
    have b188 : (-2147483648 : Int) ≤ T0 17 (p).toNat ∧ T0 17 (p).toNat ≤ 2147483647 := hWT.2 17 _
    refine jr_ldv (pc_q := 286) (i := 17) (m := 7000) (z := p) (y := T0 17 (p).toNat) rfl (by decide) rfl (by decide) (by omega) (by omega) rfl (show A 17 (p).toNat = T0 17 (p).toNat from (congrFun (p_0 17 rfl) _)) ?_
    refine jx_vr (pc_q := 289) (as := [.int (i32 (T0 17 (p).toNat))]) (st := []) rfl rfl rfl rfl ⟨rfl, rfl, Nat.le_of_ble_eq_true rfl⟩ rfl rfl (c_useE_h (dd := d) (hd := by omega) (hW := hW) (e := T0 17 (p).toNat) (k := 20) (lo := p + 1) (hi := a7) (uf := uf) (e_uf := show G 62 = uf from (e_uf)) (us := us) (e_us := show G 61 = us from (e_us))  (h_e := ⟨(Int.le_trans (by decide : (-2147483648 : Int) ≤ -2147483648) b188.1), (Int.le_trans b188.2 (by decide : (2147483647 : Int) ≤ 2147483647))⟩)  (p_0 := p_0) (p_1 := by omega) (p_2 := by omega) (p_3 := by omega) (p_4 := by omega) (p_5 := by omega) (p_6 := by omega) (p_7 := p_7) (p_8 := p_8) (p_9 := (wE_mono (by omega) (by omega) (by omega) g3)) (p_10 := by omega) (p_11 := hSA1) (p_12 := hzz.1)) (fun o V_q hq => ?_)
    obtain ⟨G189, A190, us2_191, rfl, rfl, hW192, hF193, e194, p195, p196, p197, -⟩ := hq
    have hF199 := Fr_tr hF0 hF193 (Fr_sub (by decide)) (Fr_sub (by decide))
    have bus2_191 : (-2147483648 : Int) ≤ us2_191 ∧ us2_191 ≤ 2147483647 := e194 ▸ hW192.1 61
    refine .inl ⟨rfl, ?_⟩
    refine jx_ld (pc_q := 290) (l_q := [(0, .ref 66), (1, .int (i32 (p)))]) (st_q := [.ref 66]) rfl (jl_aloadn rfl) ?_
    refine jx_ld (pc_q := 291) (l_q := [(0, .ref 66), (1, .int (i32 (p)))]) (st_q := [.ref 66, .ref 66]) rfl (jl_aloadn rfl) ?_
    refine jr_get (pc_q := 294) (i := 38) (v := .ref 88) rfl rfl (by decide) rfl rfl ?_
    refine jx_ld (pc_q := 295) (l_q := [(0, .ref 66), (1, .int (i32 (p)))]) (st_q := [.int (i32 (p)), .ref 88, .ref 66]) rfl (jl_iloadn rfl) ?_
    have b200 : (-2147483648 : Int) ≤ T0 21 (p).toNat ∧ T0 21 (p).toNat ≤ 2147483647 := hWT.2 21 _
    refine jr_ldv (pc_q := 296) (i := 21) (m := 7000) (z := p) (y := T0 21 (p).toNat) rfl (by decide) rfl (by decide) (by omega) (by omega) rfl (show A190 21 (p).toNat = T0 21 (p).toNat from (congrFun ((hF193.2 21 rfl).trans (p_0 21 rfl)) _)) ?_
    refine jx_vr (pc_q := 299) (as := [.int (i32 (T0 21 (p).toNat))]) (st := []) rfl rfl rfl rfl ⟨rfl, rfl, Nat.le_of_ble_eq_true rfl⟩ rfl rfl (hA (dd := d) (hd := by omega) (hW := hW192) (p := T0 21 (p).toNat) (lo := a7) (hi := hi) (s0 := s0 + T0 24 (p).toNat) (s1 := s1) (uf := uf) (e_uf := show G189 62 = uf from ((hF193.1 62 rfl).trans (e_uf))) (us := us2_191) (e_us := show G189 61 = us2_191 from (e194))  (h_p := ⟨(Int.le_trans (by decide : (-2147483648 : Int) ≤ -2147483648) b200.1), (Int.le_trans b200.2 (by decide : (2147483647 : Int) ≤ 2147483647))⟩)  (p_0 := (TA_fr hF199 (by decide) p_0)) (p_1 := by omega) (p_2 := by omega) (p_3 := by omega) (p_4 := by omega) (p_5 := by omega) (p_6 := by omega) (p_7 := p196) (p_8 := p_8) (p_9 := by omega) (p_10 := by omega) (p_11 := g4) (p_12 := hVBc) (p_13 := (SA_fr2 (show A190 13 = A 13 from (hF193.2 13 rfl)) hSA1)) (p_14 := (BU_fr (show A190 11 = A 11 from (hF193.2 11 rfl)) p_14)) (p_15 := hzz.2)) (fun o V_q hq => ?_)
    obtain ⟨G201, A202, us2_203, rfl, rfl, hW204, hF205, e206, p207, p208, p209, p210, -⟩ := hq
    have hF212 := Fr_tr hF199 hF205 (Fr_sub (by decide)) (Fr_sub (by decide))
    have bus2_203 : (-2147483648 : Int) ≤ us2_203 ∧ us2_203 ≤ 2147483647 := e206 ▸ hW204.1 61
    refine .inl ⟨rfl, ?_⟩
    refine jx_go (tg := 331) rfl rfl ?_
    have _q : True := trivial
    refine jx_rt (v := none) rfl rfl rfl rfl rfl rfl ?_
    exact ⟨_, _, us2_203, rfl, rfl, hW204, hF212, (e206), by omega, p208, (SA_su Vd_l p209), (vs_31 (by omega) hkd p197 p210), trivial⟩
  · refine jx_swe (z := 32) (tg := 302) h69 rfl rfl rfl rfl ?_
    have hQ0 : ∃ l, CH T0 (T0 21 (p).toNat) l ∧ (wCs (wI T0 (Vd Vs s0 (s0 + T0 24 (p).toNat)) sb (wP T0 sb pb k (Vd Vs s0 (s0 + T0 24 (p).toNat)))) l (p + 1) hi (s0 + T0 24 (p).toNat) s1 ∨ wCs (wG T0 (Vd Vs s0 (s0 + T0 24 (p).toNat)) sb (wP T0 sb pb k (Vd Vs s0 (s0 + T0 24 (p).toNat)))) l (p + 1) hi (s0 + T0 24 (p).toNat) s1) := (by rcases (by omega : T0 15 (p).toNat = 30 ∨ T0 15 (p).toNat = 32) with hkd | hkd; obtain ⟨l, _, a, b⟩ := wS_i30 w8 hkd; exact ⟨l, a, Or.inl b⟩; obtain ⟨_, _, l, a, _, b⟩ := wS_i32 w8 hkd; exact ⟨l, a, Or.inr b⟩); obtain ⟨l0, ch0, g5⟩ := hQ0; have hQ1 := LQ_ch2 ch0 g5 rfl
    refine jx_ld (pc_q := 303) (l_q := [(0, .ref 66), (1, .int (i32 (p)))]) (st_q := [.ref 66]) rfl (jl_aloadn rfl) ?_
    refine jr_get (pc_q := 306) (i := 38) (v := .ref 88) rfl rfl (by decide) rfl rfl ?_
    refine jx_ld (pc_q := 307) (l_q := [(0, .ref 66), (1, .int (i32 (p)))]) (st_q := [.int (i32 (p)), .ref 88]) rfl (jl_iloadn rfl) ?_
    have b213 : (-2147483648 : Int) ≤ T0 21 (p).toNat ∧ T0 21 (p).toNat ≤ 2147483647 := hWT.2 21 _
    refine jr_ldv (pc_q := 308) (i := 21) (m := 7000) (z := p) (y := T0 21 (p).toNat) rfl (by decide) rfl (by decide) (by omega) (by omega) rfl (show A 21 (p).toNat = T0 21 (p).toNat from (congrFun (p_0 21 rfl) _)) ?_
    refine jx_ld (pc_q := 309) (l_q := jSto1 [(0, .ref 66), (1, .int (i32 (p)))] 2 (.int (i32 (T0 21 (p).toNat)))) (st_q := []) rfl rfl ?_
    obtain ⟨L214, eL214⟩ : ∃ q, q = jSto1 [(0, .ref 66), (1, .int (i32 (p)))] 2 (.int (i32 (T0 21 (p).toNat))) := ⟨_, rfl⟩
    rw [← eL214]
    have gL214_0 : jGet L214 0 = some (.ref 66) := eL214 ▸ jg_ne (by decide) (rfl : jGet [(0, .ref 66), (1, .int (i32 (p)))] 0 = some (.ref 66)) rfl
    have gL214_1 : jGet L214 1 = some (.int (i32 (p))) := eL214 ▸ jg_ne (by decide) (rfl : jGet [(0, .ref 66), (1, .int (i32 (p)))] 1 = some (.int (i32 (p)))) rfl
    have gL214_2 : jGet L214 2 = some (.int (i32 (T0 21 (p).toNat))) := eL214 ▸ jg_eq
    exact c_useAll_s_at_309 (X := X) (k := k) (hA := hA) (d := d) (T0 := T0) (Sn := Sn) (Bu := Bu) (Vs := Vs) (sb := sb) (pb := pb) (M := M) (Fm := Fm) (c0 := c0) (c1 := c1) (G := G) (A := A) (T := T) (p := p) (lo := lo) (hi := hi) (s0 := s0) (s1 := s1) (uf := uf) (us := us) (hd := hd) (hW := hW) (e_uf := e_uf) (e_us := e_us) (h_p := h_p) (p_0 := p_0) (p_1 := p_1) (p_2 := p_2) (p_3 := p_3) (p_4 := p_4) (p_5 := p_5) (p_6 := p_6) (p_7 := p_7) (p_8 := p_8) (p_9 := p_9) (p_10 := p_10) (p_11 := p_11) (p_12 := p_12) (p_13 := p_13) (p_14 := p_14) (p_15 := p_15) _ L214 G A (T0 21 (p).toNat) (us) (p + 1) (s0 + T0 24 (p).toNat) rfl gL214_0 gL214_1 gL214_2 hW hF0 ((e_us)) (by omega) (by omega) (p_7) (hSA1) (by omega) (by omega) (by omega) (by omega) (by omega) (hQ1) ((UXq_0 ⟨_, ch0⟩ rfl))
  · refine jx_swt (tg := 331) (by omega) (by omega) rfl h69 rfl ?_
    have _q : True := trivial
    refine jx_rt (v := none) rfl rfl rfl rfl rfl rfl ?_
    exact ⟨_, _, us, rfl, rfl, hW, hF0, (e_us), by omega, p_7, (SA_su Vd_l hSA1), (vs_no (by omega)), trivial⟩
theorem c_useAll_0 {X : jX} {dd : Nat} {T0 : Nat → Nat → Int} {Sn Bu : Int → Int} {Vs : Nat → Prop} {sb pb M : Int} {Fm : Int → Int → Int → Prop} {c0 c1 : jC} {G : Nat → Int} {A : Nat → Nat → Int} {T : jH} {p : Int} {lo hi s0 s1 : Int} {uf us : Int} (hd : 2 * 0 + 70 ≤ dd) (hW : Wk G A) (e_uf : G 62 = uf) (e_us : G 61 = us) (h_p : (-2147483648 : Int) ≤ p ∧ p ≤ 2147483647) (p_0 : TA T0 A) (p_1 : 0 ≤ lo) (p_2 : hi ≤ 6999) (p_3 : sb ≤ 202) (p_4 : 0 ≤ uf) (p_5 : uf ≤ us) (p_6 : uf + M ≤ 59999) (p_7 : UI Fm A (uf) (us)) (p_8 : Fbd Fm M) (p_9 : 0 ≤ s0) (p_10 : s1 ≤ sb) (p_11 : wP T0 sb pb (0) (Vs) (p) (lo) (hi) (s0) (s1)) (p_12 : VB (Vs) (s0)) (p_13 : SA T0 Vs Sn A) (p_14 : BUr T0 Bu pb A) (p_15 : vP T0 Bu (0) Sn (fun s al e _ => Fm s al e) (p)) : wk X dd 329 [.ref 66, .int (i32 p)] (rV c0 c1 G A T) (fun o V_q => ∃ (G_q : Nat → Int) (A_q : Nat → Nat → Int) (us2 : Int), V_q = rV c0 c1 G_q A_q T ∧ o = .inl none ∧ Wk G_q A_q ∧ Fr [61] [13, 39, 40, 41, 42] G A G_q A_q ∧ G_q 61 = us2 ∧ (us ≤ us2) ∧ (UI Fm A_q (uf) (us2)) ∧ (SA T0 Vs Sn A_q) ∧ (UX A A_q (uf) (us) (us2) (fun Q => vP T0 Bu (0) Sn Q (p))) ∧ True) := by
  exact False.elim p_11
theorem UA_all (X : jX) : ∀ k, UA X k
  | 0 => @c_useAll_0 X
  | k + 1 => @c_useAll_s X k (UA_all X k)
