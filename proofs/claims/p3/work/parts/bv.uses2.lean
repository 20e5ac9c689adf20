/-! checkUses: every PROC, every processor -/
/-- what PROCs do with their parameters, as syUse says -/
def syU (A : Nat → Nat → Int) : Int → Int := fun s => A 11 s.toNat
/-- a process at the top: its tree, what may be written down of it -/
def Rtt (T : Nat → Nat → Int) (nd pb root : Int) (V : Nat → Prop) (lo hi s0 s1 : Int) (Fm : Int → Int → Int → Prop) : Prop := wP T s1 pb 18 V root lo hi s0 s1 ∧ (1 ≤ lo ∧ hi ≤ nd ∧ s1 ≤ 202 ∧ 0 ≤ s0) ∧ VB V s0 ∧ (∀ s : Nat, V s → T 7 s ≠ 10) ∧ Fbd Fm 7324 ∧ (∀ Bu : Int → Int, vP T Bu 18 (fun _ => 0) (fun s al e _ => Fm s al e) root) ∧ (∀ s al e, Fm s al e → 0 ≤ s ∧ s < 202 ∧ (V s.toNat ∨ s0 ≤ s)) ∧ LKV T V
/-- the uses of all of it are written down -/
def UQ0 (T A A_q : Nat → Nat → Int) (V : Nat → Prop) (s0 root us2 : Int) : Prop := (∀ j : Int, 0 ≤ j → j < us2 → (0 ≤ A_q 42 j.toNat ∧ A_q 42 j.toNat ≤ 15) ∧ (0 ≤ A_q 39 j.toNat ∧ A_q 39 j.toNat < 202) ∧ (V (A_q 39 j.toNat).toNat ∨ s0 ≤ A_q 39 j.toNat)) ∧ vP T (syU A) 18 (fun _ => 0) (Cov A_q 0 us2) root
/-- syUse takes them in: those before k -/
def L2 (Au A : Nat → Nat → Int) (V : Nat → Prop) (s0 k : Int) : Prop := (∀ r : Nat, r ≠ 11 → A r = Au r) ∧ (∀ s : Nat, hb (A 11 s) (Au 11 s)) ∧ (∀ s : Nat, ¬ V s → (s : Int) < s0 → A 11 s = Au 11 s) ∧ ∀ j : Int, 0 ≤ j → j < k → hb (A 11 (A 39 j.toNat).toNat) (A 42 j.toNat)
/-- within the loop -/
def IN (T Aq Ab Au A : Nat → Nat → Int) (V : Nat → Prop) (s0 root us k : Int) : Prop := Ab 11 = Aq 11 ∧ Au 11 = Aq 11 ∧ UQ0 T Ab Au V s0 root us ∧ L2 Au A V s0 k
theorem L2_0 {A : Nat → Nat → Int} {V : Nat → Prop} {s0 k : Int} (h : k ≤ 0) : L2 A A V s0 k := ⟨fun _ _ => rfl, fun _ => hb_rf, fun _ _ _ => rfl, fun j a b => by omega⟩
theorem L2_nx {Au A A_q : Nat → Nat → Int} {V : Nat → Prop} {s0 k k_q s u : Int} (h : L2 Au A V s0 k) (b : ∀ n, 0 ≤ A 11 n ∧ A 11 n ≤ 15) (k0 : 0 ≤ k) (ek : k_q = k + 1) (es : A 39 k.toNat = s) (eu : A 42 k.toNat = u) (u0 : 0 ≤ u) (u1 : u ≤ 15) (sv : 0 ≤ s ∧ (V s.toNat ∨ s0 ≤ s)) (e : A_q = uA A 11 s.toNat (i32 (A 11 s.toNat) ||| i32 u).toInt) : L2 Au A_q V s0 k_q := by
  obtain ⟨h1, h2, h3, h4⟩ := h
  have o := or_b (b s.toNat).1 (b s.toNat).2 u0 u1
  have ne : ∀ r : Nat, r ≠ 11 → A_q r = A r := fun r hr => by rw [e]; exact uA_ne hr
  have g : ∀ n : Nat, hb (A_q 11 n) (A 11 n) := fun n => by
    rw [e]
    by_cases q : n = s.toNat
    · rw [q, uA_eq]
      exact o.2.2.1
    · rw [uA_ni q]
      exact hb_rf
  refine ⟨fun r hr => (ne r hr).trans (h1 r hr), fun n => hb_t (g n) (h2 n), fun n hv hn => ?_, fun j j0 j1 => ?_⟩
  · rw [← h3 n hv hn, e]
    refine uA_ni (fun q => ?_)
    rcases sv.2 with w | w
    · rw [← q] at w
      exact hv w
    · omega
  · rw [ne 39 (by decide), ne 42 (by decide)]
    by_cases q : j < k
    · exact hb_t (g _) (h4 j j0 q)
    · have ej : j = k := by omega
      rw [ej, es, eu, e, uA_eq]
      exact o.2.2.2
/-- a PROC is in order -/
def PCk (T A : Nat → Nat → Int) (q : Int) : Prop := vP T (syU A) 18 (fun _ => 0) (fun s _ _ b => 0 ≤ syU A s ∧ hb (syU A s) b) (T 31 q.toNat) ∧ ckP T (syU A) (-1) 18 (fun _ => 0) (T 31 q.toNat)
def CUq (T A : Nat → Nat → Int) (wl q : Int) : Prop := wl = -1 → ∀ i : Int, 0 ≤ i → i < q → PCk T A i
def CUp (T A : Nat → Nat → Int) (wl p : Int) : Prop := wl = -1 → ∀ i : Int, 0 ≤ i → i < p → 0 < T 36 i.toNat → ckP T (syU A) i 18 (fun _ => 0) (T 36 i.toNat)
/-- a PROC at the top -/
def Rq (T : Nat → Nat → Int) (nd q : Int) (V : Nat → Prop) (lo hi s0 s1 : Int) (Fm : Int → Int → Int → Prop) : Prop := Rtt T nd q (T 31 q.toNat) V lo hi s0 s1 Fm ∧ (s0 = T 29 q.toNat + T 30 q.toNat ∧ 2 ≤ T 29 q.toNat ∧ 0 ≤ T 30 q.toNat) ∧ (∀ s : Nat, V s → k01 T s ∨ T 7 s = 14 ∨ (T 29 q.toNat ≤ (s : Int) ∧ (s : Int) < T 29 q.toNat + T 30 q.toNat)) ∧ ∀ i j : Int, 0 ≤ i → i < q → 0 ≤ j → j < T 30 i.toNat → 2 ≤ T 29 i.toNat ∧ T 29 i.toNat + j < T 29 q.toNat ∧ T 7 (T 29 i.toNat + j).toNat ≠ 14
def CUs (T : Nat → Nat → Int) (nd pc : Int) (VF : Int → Nat → Prop) (LO HI S0 S1 : Int → Int) (FF : Int → Int → Int → Int → Prop) : Prop := ∀ q : Int, 0 ≤ q → q < pc → Rq T nd q (VF q) (LO q) (HI q) (S0 q) (S1 q) (FF q)
def CUt (T : Nat → Nat → Int) (nd pc : Int) (VF : Int → Nat → Prop) (LO HI S0 S1 : Int → Int) (FF : Int → Int → Int → Int → Prop) : Prop := ∀ p : Int, 0 ≤ p → p ≤ 5 → 0 < T 36 p.toNat → Rtt T nd pc (T 36 p.toNat) (VF p) (LO p) (HI p) (S0 p) (S1 p) (FF p)
theorem syU_e {A A_q : Nat → Nat → Int} (e : A_q 11 = A 11) : syU A_q = syU A := by
  unfold syU
  rw [e]
theorem PCk_e {T A A_q : Nat → Nat → Int} {q : Int} (e : A_q 11 = A 11) (h : PCk T A q) : PCk T A_q q := by
  unfold PCk
  rw [syU_e e]
  exact h
theorem CUq_e {T A A_q : Nat → Nat → Int} {wl q : Int} (e : A_q 11 = A 11) (h : CUq T A wl q) : CUq T A_q wl q := fun w i a b => PCk_e e (h w i a b)
theorem CUp_e {T A A_q : Nat → Nat → Int} {wl q : Int} (e : A_q 11 = A 11) (h : CUp T A wl q) : CUp T A_q wl q := fun w i a b c => by
  rw [syU_e e]
  exact h w i a b c
/-- what is taken in touches no parameter of an earlier PROC -/
theorem L2_bag {T Au A : Nat → Nat → Int} {nd q lo hi s0 s1 k pb : Int} {V : Nat → Prop} {Fm : Int → Int → Int → Prop} (r : Rq T nd q V lo hi s0 s1 Fm) (h : L2 Au A V s0 k) (hp : pb ≤ q) : Bag T (syU Au) (syU A) pb := fun i j a b c d => by
  obtain ⟨r1, ⟨r2, r3, r4⟩, r5, r6⟩ := r
  obtain ⟨g1, g2, g3⟩ := r6 i j a (by omega) c d
  show A 11 (T 29 i.toNat + j).toNat = Au 11 (T 29 i.toNat + j).toNat
  refine h.2.2.1 _ (fun v => ?_) (by omega)
  rcases r5 _ v with w | w | w
  · have := w.1
    omega
  · exact g3 w
  · omega
theorem PCk_g {T Au A : Nat → Nat → Int} {nd q lo hi s0 s1 k i : Int} {V : Nat → Prop} {Fm : Int → Int → Int → Prop} (b : ∀ n, 0 ≤ A 11 n) (r : Rq T nd q V lo hi s0 s1 Fm) {V_q : Nat → Prop} {lo_q hi'' s0' s1' : Int} {Fm' : Int → Int → Int → Prop} (ri : Rq T nd i V_q lo_q hi'' s0' s1' Fm') (h : L2 Au A V s0 k) (hi_q : i ≤ q) (p : PCk T Au i) : PCk T A i := by
  obtain ⟨⟨w, w2, _⟩, _⟩ := ri
  have bg := L2_bag r h hi_q
  refine ⟨vP_mon _ _ (fun s al e d g => ⟨b _, hb_t (h.2.1 s.toNat) g.2⟩) (vP_bu bg w p.1), ckP_bu bg (by omega) w p.2⟩
theorem CUq_nx {T A1 Ab Au A2 A3 : Nat → Nat → Int} {nd pc q q_q wl wl2 us us' : Int} {VF : Int → Nat → Prop} {LO HI S0 S1 : Int → Int} {FF : Int → Int → Int → Int → Prop} (cs : CUs T nd pc VF LO HI S0 S1 FF) (q0 : 0 ≤ q) (qp : q < pc) (eq : q_q = q + 1) (b : ∀ n, 0 ≤ A2 11 n) (h : CUq T A1 wl q) (eu' : us' = us) (i_q : IN T A1 Ab Au A2 (VF q) (S0 q) (T 31 q.toNat) us us') (e3 : A3 11 = A2 11) (hw : wl = -1 ∨ 0 ≤ wl2) (ck : wl2 = -1 → ckP T (syU A2) (-1) 18 (fun _ => 0) (T 31 q.toNat)) : CUq T A3 wl2 q_q := fun w i a b_q => by
  have r := cs q q0 qp
  obtain ⟨eb, eu, uq, l2⟩ := i_q
  rw [eu'] at l2
  refine PCk_e e3 ?_
  by_cases e : i = q
  · subst e
    have bg := L2_bag r l2 (Int.le_refl _)
    rw [syU_e eu, ← syU_e eb] at bg
    refine ⟨vP_mon _ _ (fun s al e d g => ⟨b _, ?_⟩) (vP_bu bg r.1.1 uq.2), ck w⟩
    obtain ⟨j, j0, j1, g1, g2, g3, g4⟩ := g
    have z := l2.2.2.2 j j0 j1
    rw [l2.1 39 (by decide), l2.1 42 (by decide), g1] at z
    exact hb_t z g4
  · exact PCk_g b r (cs i a (by omega)) l2 (by omega) (PCk_e eu (h (by omega) i a (by omega)))
theorem CUp_nx {T A A_q : Nat → Nat → Int} {wl wl2 p p_q : Int} (ep : p_q = p + 1) (h : CUp T A wl p) (e : A_q 11 = A 11) (hw : wl = -1 ∨ 0 ≤ wl2) (ck : wl2 = -1 → 0 < T 36 p.toNat → ckP T (syU A) p 18 (fun _ => 0) (T 36 p.toNat)) : CUp T A_q wl2 p_q := CUp_e e (fun w i a b c => by
  by_cases q : i = p
  · rw [q] at c ⊢
    exact ck w c
  · exact h (by omega) i a (by omega) c)
theorem IN_nx {T Aq Ab Au A A_q : Nat → Nat → Int} {V : Nat → Prop} {s0 root us k k_q s u v : Int} (h : IN T Aq Ab Au A V s0 root us k) (b : ∀ n, 0 ≤ A 11 n ∧ A 11 n ≤ 15) (k0 : 0 ≤ k) (k1 : k < us) (ek : k_q = k + 1) (es : s = A 39 k.toNat) (eu : u = A 42 k.toNat) (ev : v = (i32 (A 11 s.toNat) ||| i32 u).toInt) (e : A_q = uA A 11 s.toNat v) : IN T Aq Ab Au A_q V s0 root us k_q := by
  obtain ⟨h1, h2, h3, h4⟩ := h
  have z := h3.1 k k0 k1
  rw [← h4.1 39 (by decide), ← h4.1 42 (by decide), ← es, ← eu] at z
  exact ⟨h1, h2, h3, L2_nx h4 b k0 ek es.symm eu.symm z.1.1 z.1.2 ⟨z.2.1.1, z.2.2⟩ (by rw [← ev]; exact e)⟩
theorem IN_i {T Aq Ab Au A : Nat → Nat → Int} {V : Nat → Prop} {s0 root us k : Int} (h : IN T Aq Ab Au A V s0 root us k) (k0 : 0 ≤ k) (k1 : k < us) : (0 ≤ A 42 k.toNat ∧ A 42 k.toNat ≤ 15) ∧ (0 ≤ A 39 k.toNat ∧ A 39 k.toNat < 202) := by
  obtain ⟨h1, h2, h3, h4⟩ := h
  have z := h3.1 k k0 k1
  rw [← h4.1 39 (by decide), ← h4.1 42 (by decide)] at z
  exact ⟨z.1, z.2.1⟩
theorem CUp_0 {T A : Nat → Nat → Int} {wl p : Int} (h : p ≤ 0) : CUp T A wl p := fun _ i a b => by omega
theorem CUq_0 {T A : Nat → Nat → Int} {wl p : Int} (h : p ≤ 0) : CUq T A wl p := fun _ i a b => by omega
theorem c_useAll_t {X : jX} {dd : Nat} {T0 : Nat → Nat → Int} {Vq : Nat → Prop} {pb nd lo hi s0 s1 : Int} {Fm : Int → Int → Int → Prop} {c0 c1 : jC} {G : Nat → Int} {A : Nat → Nat → Int} {T : jH} {p : Int} {uf us : Int} (hd : 106 ≤ dd) (hW : Wk G A) (e_uf : G 62 = uf) (e_us : G 61 = us) (h_p : (-2147483648 : Int) ≤ p ∧ p ≤ 2147483647) (p_0 : TA T0 A) (p_1 : Rtt T0 nd pb (p) Vq lo hi s0 s1 Fm) (p_2 : uf = 0) (p_3 : us = 0) (p_4 : nd ≤ 6999) : wk X dd 329 [.ref 66, .int (i32 p)] (rV c0 c1 G A T) (fun o V_q => ∃ (G_q : Nat → Int) (A_q : Nat → Nat → Int) (us2 : Int), V_q = rV c0 c1 G_q A_q T ∧ o = .inl none ∧ Wk G_q A_q ∧ Fr [61] [13, 39, 40, 41, 42] G A G_q A_q ∧ G_q 61 = us2 ∧ (0 ≤ us2) ∧ (us2 ≤ 7324) ∧ (UQ0 T0 A A_q Vq s0 (p) (us2)) ∧ True) := by
  obtain ⟨r1, ⟨r2, r3, r4, r5⟩, r6, r7, r8, r9, r10, r11⟩ := p_1
  have hSA : SA T0 Vq (fun _ => 0) A := fun s _ hv hk => absurd hk (r7 _ hv)
  have hBU : BUr T0 (syU A) pb A := fun q j _ _ _ _ => ⟨rfl, (hW.2 11 _).1, (hW.2 11 _).2⟩
  have hUI : UI Fm A uf us := ⟨⟨by omega, by omega⟩, fun i j a b c => by omega, fun j a b => by omega, fun j a b => by omega, fun j a b => by omega⟩
  have hh := UA_all X 18 (dd := dd) (T0 := T0) (Sn := fun _ => 0) (Bu := syU A) (Vs := Vq) (sb := s1) (pb := pb) (M := 7324) (Fm := Fm) (c0 := c0) (c1 := c1) (T := T) (p := p) (lo := lo) (hi := hi) (s0 := s0) (s1 := s1) (hd := by omega) (hW := hW) (e_uf := e_uf) (e_us := e_us) (h_p := h_p) (p_0 := p_0) (p_1 := by omega) (p_2 := by omega) (p_3 := by omega) (p_4 := by omega) (p_5 := by omega) (p_6 := by omega) (p_7 := hUI) (p_8 := r8) (p_9 := r5) (p_10 := Int.le_refl _) (p_11 := r1) (p_12 := r6) (p_13 := hSA) (p_14 := hBU) (p_15 := r9 _)
  refine wk_mono (fun o V_q h => ?_) hh
  obtain ⟨G_q, A_q, us2, h1, h2, h3, h4, h5, h6, h7, h8, h9, _⟩ := h
  have hle := UI_le h7 r8
  subst p_2
  refine ⟨G_q, A_q, us2, h1, h2, h3, h4, h5, by omega, by omega, ⟨fun j a b => ⟨h7.2.2.1 j a b, ?_⟩, h9.2.2.1⟩, trivial⟩
  obtain ⟨f1, f2, f3⟩ := r10 _ _ _ (h7.2.2.2.2 j a b)
  exact ⟨⟨f1, f2⟩, f3⟩
theorem c_check_t {X : jX} {dd : Nat} {T0 : Nat → Nat → Int} {Vq : Nat → Prop} {pb nd lo hi s0 s1 : Int} {Fm : Int → Int → Int → Prop} {c0 c1 : jC} {G : Nat → Int} {A : Nat → Nat → Int} {T : jH} {p : Int} {wl wh : Int} (hd : 134 ≤ dd) (hW : Wk G A) (e_wl : G 67 = wl) (e_wh : G 68 = wh) (h_p : (-2147483648 : Int) ≤ p ∧ p ≤ 2147483647) (p_0 : TA T0 A) (p_1 : Rtt T0 nd pb (p) Vq lo hi s0 s1 Fm) (p_2 : MRx T0 A nd) (p_3 : -1 ≤ wl ∧ wl ≤ 3000) (p_4 : nd ≤ 6999) : wk X dd 339 [.ref 66, .int (i32 p)] (rV c0 c1 G A T) (fun o V_q => ∃ (G_q : Nat → Int) (A_q : Nat → Nat → Int) (wl2 : Int), V_q = rV c0 c1 G_q A_q T ∧ o = .inl none ∧ Wk G_q A_q ∧ Fr [61, 62, 67] [13, 39, 40, 41, 42, 43] G A G_q A_q ∧ G_q 67 = wl2 ∧ (-1 ≤ wl2 ∧ wl2 ≤ 3000) ∧ (wl = -1 ∨ 0 ≤ wl2) ∧ ((wl2) = -1 → ckP T0 (syU A) wh 18 (fun _ => 0) (p)) ∧ True) := by
  obtain ⟨r1, ⟨r2, r3, r4, r5⟩, r6, r7, r8, r9, r10, r11⟩ := p_1
  have hSA : SA T0 Vq (fun _ => 0) A := fun s _ hv hk => absurd hk (r7 _ hv)
  have hBU : BUr T0 (syU A) pb A := fun q j _ _ _ _ => ⟨rfl, (hW.2 11 _).1, (hW.2 11 _).2⟩
  have hh := CK_all X 18 (dd := dd) (T0 := T0) (Sn := fun _ => 0) (Bu := syU A) (Vs := Vq) (sb := s1) (pb := pb) (nd := nd) (Fm := Fm) (c0 := c0) (c1 := c1) (T := T) (p := p) (lo := lo) (hi := hi) (s0 := s0) (s1 := s1) (hd := by omega) (hW := hW) (e_wl := e_wl) (e_wh := e_wh) (h_p := h_p) (p_0 := p_0) (p_1 := r2) (p_2 := r3) (p_3 := by omega) (p_4 := r4) (p_5 := r5) (p_6 := Int.le_refl _) (p_7 := r6) (p_8 := hSA) (p_9 := hBU) (p_10 := r8) (p_11 := r11) (p_12 := p_2) (p_13 := p_3) (p_14 := by decide) (p_15 := r1) (p_16 := r9 _)
  refine wk_mono (fun o V_q h => ?_) hh
  obtain ⟨G_q, A_q, wl2, h1, h2, h3, h4, h5, h6, h7, h8, h9, _⟩ := h
  exact ⟨G_q, A_q, wl2, h1, h2, h3, h4, h5, h6, h7, h9, trivial⟩
