/-! PAR: what its branches use does not clash -/
def BR (T A : Nat → Nat → Int) (Bu S : Int → Int) (k : Nat) (n : Int) (i : Nat) (f t : Int) : Prop := vP T Bu k (sB T S n i) (Cov A f t) (kid T n i) ∧ (∀ Q : Us, Clo Q → vP T Bu k (sB T S n i) Q (kid T n i) → ∀ j : Int, f ≤ j → j < t → Q (A 39 j.toNat) (A 41 j.toNat) (A 40 j.toNat) (A 42 j.toNat)) ∧ Ds A f t
def BRs (T A : Nat → Nat → Int) (Bu S : Int → Int) (k : Nat) (n : Int) (b : Int → Int) (m us : Int) : Prop := b 0 = 0 ∧ b m = us ∧ ∀ i : Nat, (i : Int) < m → 0 ≤ b (i : Int) ∧ b (i : Int) ≤ b ((i : Int) + 1) ∧ b ((i : Int) + 1) ≤ us ∧ BR T A Bu S k n i (b (i : Int)) (b ((i : Int) + 1))
def UB (A : Nat → Nat → Int) (us : Int) : Prop := (∀ j : Int, 0 ≤ j → j < us → 0 ≤ A 42 j.toNat ∧ A 42 j.toNat ≤ 15) ∧ ∀ j : Int, 0 ≤ j → j < us → A 41 j.toNat = 1 → A 40 j.toNat = 0
theorem UI_ub {Fm : Int → Int → Int → Prop} {A : Nat → Nat → Int} {uf us : Int} (h : UI Fm A uf us) : UB A us := ⟨h.2.2.1, h.2.2.2.1⟩
theorem UB_ui {Fm : Int → Int → Int → Prop} {A : Nat → Nat → Int} {us : Int} (h0 : 0 ≤ us) (h : UB A us) : UI Fm A us us := ⟨⟨h0, Int.le_refl _⟩, fun i j a b c => by omega, h.1, h.2, fun j a b => by omega⟩
theorem UB_e {A A_q : Nat → Nat → Int} {us : Int} (e : ∀ r : Nat, 39 ≤ r → r ≤ 42 → A_q r = A r) (h : UB A us) : UB A_q us := by
  unfold UB at h ⊢
  rw [e 40 (by decide) (by decide), e 41 (by decide) (by decide), e 42 (by decide) (by decide)]
  exact h
theorem UB_0 {A : Nat → Nat → Int} {us : Int} (h : us ≤ 0) : UB A us := ⟨fun j a b => by omega, fun j a b => by omega⟩
theorem BR_st {T A A_q : Nat → Nat → Int} {Bu S : Int → Int} {k : Nat} {n : Int} {i : Nat} {f t uf us us2 : Int} {Z : Us → Prop} (h0 : 0 ≤ f) (h1 : t ≤ uf) (h2 : uf ≤ us) (u : UX A A_q uf us us2 Z) (h : BR T A Bu S k n i f t) : BR T A_q Bu S k n i f t := by
  have e : ∀ j : Int, f ≤ j → j < t → A_q 39 j.toNat = A 39 j.toNat ∧ A_q 40 j.toNat = A 40 j.toNat ∧ A_q 41 j.toNat = A 41 j.toNat ∧ A_q 42 j.toNat = A 42 j.toNat := fun j a b => by
    obtain ⟨x1, x2, x3, _, x5⟩ := u.2.1 j (by omega) (by omega)
    exact ⟨x1, x2, x3, x5 (by omega)⟩
  have cv : ∀ s al el b, Cov A f t s al el b → Cov A_q f t s al el b := fun s al el b hc => by
    obtain ⟨j, j0, j1, y1, y2, y3, y4⟩ := hc
    obtain ⟨x1, x2, x3, x4⟩ := e j j0 j1
    exact ⟨j, j0, j1, x1.trans y1, x3.trans y2, x2.trans y3, by rw [x4]; exact y4⟩
  refine ⟨vP_mon _ _ cv h.1, fun Q c z j a b => ?_, fun x y a b c => ?_⟩
  · obtain ⟨x1, x2, x3, x4⟩ := e j a b
    rw [x1, x2, x3, x4]
    exact h.2.1 Q c z j a b
  · obtain ⟨x1, x2, x3, _⟩ := e x a (by omega)
    obtain ⟨y1, y2, y3, _⟩ := e y (by omega) c
    unfold eqk
    rw [x1, x2, x3, y1, y2, y3]
    exact h.2.2 x y a b c
theorem BR_e {T A A_q : Nat → Nat → Int} {Bu S : Int → Int} {k : Nat} {n : Int} {i : Nat} {f t : Int} (e : ∀ r : Nat, 39 ≤ r → r ≤ 42 → A_q r = A r) (h : BR T A Bu S k n i f t) : BR T A_q Bu S k n i f t := by
  unfold BR Cov Ds eqk at h ⊢
  rw [e 39 (by decide) (by decide), e 40 (by decide) (by decide), e 41 (by decide) (by decide), e 42 (by decide) (by decide)]
  exact h
theorem BRs_e {T A A_q : Nat → Nat → Int} {Bu S : Int → Int} {k : Nat} {n : Int} {b : Int → Int} {m us : Int} (e : ∀ r : Nat, 39 ≤ r → r ≤ 42 → A_q r = A r) (h : BRs T A Bu S k n b m us) : BRs T A_q Bu S k n b m us := ⟨h.1, h.2.1, fun i hi => ⟨(h.2.2 i hi).1, (h.2.2 i hi).2.1, (h.2.2 i hi).2.2.1, BR_e e (h.2.2 i hi).2.2.2⟩⟩
theorem BRs_0 {T A : Nat → Nat → Int} {Bu S : Int → Int} {k : Nat} {n m us : Int} (hm : m = 0) (hu : us = 0) : BRs T A Bu S k n (fun _ => 0) m us := ⟨rfl, hu.symm, fun i hi => by omega⟩
theorem BRs_nx {T A A_q : Nat → Nat → Int} {Bu S : Int → Int} {k : Nat} {n : Int} {b : Int → Int} {m m_q us us2 c : Int} (h0 : 0 ≤ us) (hm : 0 ≤ m) (hm' : m_q = m + 1) (hc : c = kid T n m.toNat) (h : BRs T A Bu S k n b m us) (dd : Ds A_q us us2) (u : UX A A_q us us us2 (fun Q => vP T Bu k (sB T S n m.toNat) Q c)) : BRs T A_q Bu S k n (upf b (m + 1) us2) m_q us2 := by
  subst hm' hc
  obtain ⟨h1, h2, h3⟩ := h
  have le := u.1
  refine ⟨by rw [upf_n (by omega)]; exact h1, upf_e, fun i hi => ?_⟩
  rw [upf_n (by omega)]
  by_cases q : (i : Int) = m
  · have e : i = m.toNat := by omega
    rw [q, upf_e, h2, e]
    exact ⟨h0, le, Int.le_refl _, u.2.2.1, fun Q c z => u.2.2.2 Q c z (fun j a b => by omega), dd⟩
  · obtain ⟨g1, g2, g3, g4⟩ := h3 i (by omega)
    rw [upf_n (by omega)]
    exact ⟨g1, g2, by omega, BR_st g1 g3 (Int.le_refl _) u g4⟩
/-- the branches' trees -/
def KW (T : Nat → Nat → Int) (sb pb : Int) (k : Nat) (V : Nat → Prop) (n hi s0 s1 : Int) : Prop := (1 ≤ mny T n ∧ mny T n ≤ 8) ∧ (T 15 n.toNat = 29 → T 17 n.toNat = s0 ∧ s0 < s1) ∧ (T 15 n.toNat = 28 → nx T (T 21 n.toNat) (mny T n).toNat = 0) ∧ ∀ j : Nat, (j : Int) < mny T n → 0 < kid T n j ∧ ∃ a b u v, n + 1 ≤ a ∧ b ≤ hi ∧ s0 ≤ u ∧ (T 15 n.toNat = 29 → s0 + 1 ≤ u) ∧ v ≤ s1 ∧ wP T sb pb k (vB T V n) (kid T n j) a b u v
theorem KW_28 {T : Nat → Nat → Int} {sb pb : Int} {k : Nat} {V : Nat → Prop} {n lo hi s0 s1 : Int} (h15 : T 15 n.toNat = 28) (w : wSt T sb pb (wP T sb pb k) V n lo hi s0 s1) : KW T sb pb k V n hi s0 s1 := by
  obtain ⟨g1, g2, g3, c, g4, g5, g6⟩ := wS_i28 w h15
  have m : mny T n = T 18 n.toNat := if_neg (by omega)
  refine ⟨by omega, fun q => by omega, fun _ => ?_, fun j hj => ?_⟩
  · rw [show (mny T n).toNat = c.length by omega]
    exact CH_nxe g4
  · rw [kid_28 h15]
    obtain ⟨n1, n2⟩ := CH_nx g4 (show j < c.length by omega)
    obtain ⟨a, b, u, v, e1, e2, e3, e4, e5⟩ := wCs_mem g6 n1
    exact ⟨n2, a, b, u, v, e1, e2, e3, fun q => by omega, e4, wP_vq (vB_28 h15) e5⟩
theorem KW_29 {T : Nat → Nat → Int} {sb pb : Int} {k : Nat} {V : Nat → Prop} {n lo hi s0 s1 : Int} (h15 : T 15 n.toNat = 29) (hn : 0 ≤ n) (w : wSt T sb pb (wP T sb pb k) V n lo hi s0 s1) : KW T sb pb k V n hi s0 s1 := by
  obtain ⟨g1, g2, g3, g4, g5, g6, g7, g8⟩ := wS_i29 w h15
  have m : mny T n = T 20 n.toNat := if_pos h15
  refine ⟨by omega, fun _ => ⟨g1, g2⟩, fun q => by omega, fun j hj => ?_⟩
  rw [kid_29 h15]
  have i := wP_in g8
  exact ⟨by omega, n + 1, hi, s0 + 1, s1, Int.le_refl _, Int.le_refl _, by omega, fun _ => Int.le_refl _, Int.le_refl _, wP_vq (vB_29 h15 g1) g8⟩
theorem VB_vB {T : Nat → Nat → Int} {V : Nat → Prop} {n s0 u : Int} (h : VB V s0) (h1 : s0 ≤ u) (h2 : T 15 n.toNat = 29 → T 17 n.toNat + 1 ≤ u) : VB (vB T V n) u := fun s hs => by
  rcases hs with hs | ⟨k, hs⟩
  · have := h s hs
    omega
  · have := h2 k
    omega
theorem SA_in {T : Nat → Nat → Int} {V : Nat → Prop} {S : Int → Int} {n : Int} {i : Nat} {A : Nat → Nat → Int} (k : T 15 n.toNat = 28) (h : SA T V S A) : SA T (vB T V n) (sB T S n i) A := by
  rw [← vB_28 (V := V) k, show sB T S n i = S from funext (fun s => if_neg (fun w => by have := w.1; omega))]
  exact h
theorem SA_in9 {T : Nat → Nat → Int} {V : Nat → Prop} {S : Int → Int} {n i v : Int} {A A_q : Nat → Nat → Int} (k : T 15 n.toNat = 29) (h0 : 0 ≤ T 17 n.toNat) (hi : 0 ≤ i) (e : A_q = uA A 13 (T 17 n.toNat).toNat v) (hv : v = (i32 (T 19 n.toNat + i)).toInt) (h : SA T V S A) : SA T (vB T V n) (sB T S n i.toNat) A_q := by
  rw [← vB_29 (V := V) k rfl]
  exact SA_st e h0 h (sB_t k rfl hi hv) (sB_o rfl)
theorem SA_bk {T : Nat → Nat → Int} {V : Nat → Prop} {S : Int → Int} {n s0 : Int} {i : Nat} {A : Nat → Nat → Int} (hv : VB V s0) (h9 : T 15 n.toNat = 29 → T 17 n.toNat = s0) (h : SA T (vB T V n) (sB T S n i) A) : SA T V S A := fun s a b c => by
  have z := h s a (Or.inl b) c
  rw [z]
  unfold sB
  refine if_neg (fun w => ?_)
  have := hv _ b
  have := h9 w.1
  omega
theorem kid_n {T : Nat → Nat → Int} {n m : Int} (k : T 15 n.toNat = 28) (h0 : 0 ≤ m) {c d : Int} (h : c = kid T n m.toNat) (hd : d = T 22 c.toNat) : d = kid T n (m + 1).toNat := by
  rw [hd, h, kid_28 k, kid_28 k, show (m + 1).toNat = m.toNat + 1 by omega]
  rfl
theorem kid_lt {T : Nat → Nat → Int} {sb pb : Int} {k : Nat} {V : Nat → Prop} {n hi s0 s1 m c : Int} (w : KW T sb pb k V n hi s0 s1) (k8 : T 15 n.toNat = 28) (hm : m ≤ mny T n) (h0 : 0 ≤ m) (h : c = kid T n m.toNat) : (0 < c → m < mny T n) ∧ (c ≤ 0 → m = mny T n) := by
  refine ⟨fun p => ?_, fun p => ?_⟩
  · by_cases q : m = mny T n
    · rw [h, kid_28 k8, q, w.2.2.1 k8] at p
      omega
    · omega
  · by_cases q : m < mny T n
    · have := (w.2.2.2 m.toNat (by omega)).1
      omega
    · omega
/-- the lists -/
abbrev U4 := Int × Int × Int × Int
def enl (A : Nat → Nat → Int) (f t : Int) : List U4 := (List.range (t - f).toNat).map (fun i : Nat => (A 39 (f + (i : Int)).toNat, A 41 (f + (i : Int)).toNat, A 40 (f + (i : Int)).toNat, A 42 (f + (i : Int)).toNat))
theorem enl_m {A : Nat → Nat → Int} {f t : Int} {u : U4} (h : u ∈ enl A f t) : ∃ j : Int, f ≤ j ∧ j < t ∧ u = (A 39 j.toNat, A 41 j.toNat, A 40 j.toNat, A 42 j.toNat) := by
  obtain ⟨i, h1, h2⟩ := List.mem_map.mp h
  have := List.mem_range.mp h1
  exact ⟨f + (i : Int), by omega, by omega, h2.symm⟩
theorem enl_i {A : Nat → Nat → Int} {f t j : Int} (h1 : f ≤ j) (h2 : j < t) : (A 39 j.toNat, A 41 j.toNat, A 40 j.toNat, A 42 j.toNat) ∈ enl A f t := by
  refine List.mem_map.mpr ⟨(j - f).toNat, List.mem_range.mpr (by omega), ?_⟩
  rw [show f + (((j - f).toNat : Nat) : Int) = j by omega]
def covL (L : List U4) : Us := fun s al e b => ∃ d, (s, al, e, d) ∈ L ∧ hb d b
def PKO (T : Nat → Nat → Int) (Bu S : Int → Int) (k : Nat) (n mk : Int) : Prop := ∃ L : Nat → List U4, (∀ i : Nat, (i : Int) < mny T n → (∀ u ∈ L i, 0 ≤ u.2.2.2 ∧ u.2.2.2 ≤ 15) ∧ vP T Bu k (sB T S n i) (covL (L i)) (kid T n i) ∧ (∀ Q : Us, Clo Q → vP T Bu k (sB T S n i) Q (kid T n i) → ∀ u ∈ L i, Q u.1 u.2.1 u.2.2.1 u.2.2.2) ∧ ∀ u ∈ L i, ∀ u_q ∈ L i, u.1 = u_q.1 → u.2.1 = u_q.2.1 → u.2.2.1 = u_q.2.2.1 → u = u_q) ∧ ∀ i j : Nat, i < j → (j : Int) < mny T n → ∀ u ∈ L i, ∀ w ∈ L j, u.1 = w.1 → u.1 < mk → (u.2.1 = 1 ∨ w.2.1 = 1 ∨ u.2.2.1 = w.2.2.1) → NC u.2.2.2 w.2.2.2
def NKK (A : Nat → Nat → Int) (b : Int → Int) (m mk i j : Int) : Prop := ∀ x y : Int, 0 ≤ x → x < y → y < m → (x < i ∨ (x = i ∧ y < j)) → NK2 A (b x) (b (x + 1)) (b y) (b (y + 1)) mk
theorem NKK_0 {A : Nat → Nat → Int} {b : Int → Int} {m mk i j : Int} (hi : i ≤ 0) (hj : j ≤ 1) : NKK A b m mk i j := fun x y a c d e => by omega
theorem NKK_j {A : Nat → Nat → Int} {b : Int → Int} {m mk i j j_q f1 t1 f2 t2 : Int} (hj : j_q = j + 1) (h : NKK A b m mk i j) (e1 : f1 = b i) (e2 : t1 = b (i + 1)) (e3 : f2 = b j) (e4 : t2 = b (j + 1)) (g : NK2 A f1 t1 f2 t2 mk) : NKK A b m mk i j_q := fun x y a c d e => by
  subst e1 e2 e3 e4
  by_cases q : x = i ∧ y = j
  · rw [q.1, q.2]
    exact g
  · exact h x y a c d (by omega)
theorem NKK_i {A : Nat → Nat → Int} {b : Int → Int} {m mk i i_q j j_q : Int} (hi : i_q = i + 1) (hj : m ≤ j) (hj' : j_q ≤ i_q + 1) (h : NKK A b m mk i j) : NKK A b m mk i_q j_q := fun x y a c d e => h x y a c d (by omega)
theorem PKO_i {T A : Nat → Nat → Int} {Bu S : Int → Int} {k : Nat} {n mk m us i j : Int} {b : Int → Int} (hm : m = mny T n) (hu : UB A us) (h : BRs T A Bu S k n b m us) (g : NKK A b m mk i j) (hi : m ≤ i) : PKO T Bu S k n mk := by
  subst hm
  refine ⟨fun i => enl A (b (i : Int)) (b ((i : Int) + 1)), fun i hi => ?_, fun i j hij hj u hu w hw e1 e2 e3 => ?_⟩
  · obtain ⟨g1, g2, g3, g4⟩ := h.2.2 i hi
    have cv : ∀ s al e b_q, Cov A (b (i : Int)) (b ((i : Int) + 1)) s al e b_q → covL (enl A (b (i : Int)) (b ((i : Int) + 1))) s al e b_q := fun s al e b_q hc => by
      obtain ⟨j, j0, j1, y1, y2, y3, y4⟩ := hc
      have z := enl_i (A := A) j0 j1
      rw [y1, y2, y3] at z
      exact ⟨_, z, y4⟩
    refine ⟨fun u hu' => ?_, vP_mon _ _ cv g4.1, fun Q c z u hu' => ?_, fun u hu' v hv e1 e2 e3 => ?_⟩
    · obtain ⟨j, j0, j1, e⟩ := enl_m hu'
      subst e
      exact hu.1 j (by omega) (by omega)
    · obtain ⟨j, j0, j1, e⟩ := enl_m hu'
      subst e
      exact g4.2.1 Q c z j j0 j1
    · obtain ⟨j, j0, j1, e⟩ := enl_m hu'
      obtain ⟨y, y0, y1, e_q⟩ := enl_m hv
      subst e e_q
      have e1 : A 39 j.toNat = A 39 y.toNat := e1
      have e2 : A 41 j.toNat = A 41 y.toNat := e2
      have e3 : A 40 j.toNat = A 40 y.toNat := e3
      by_cases q : j = y
      · rw [q]
      · exfalso
        by_cases q2 : j < y
        · exact g4.2.2 j y j0 q2 y1 ⟨e1, e2, Or.inr e3⟩
        · exact g4.2.2 y j y0 (by omega) j1 ⟨e1.symm, e2.symm, Or.inr e3.symm⟩
  · obtain ⟨x, x0, x1, e⟩ := enl_m hu
    obtain ⟨y, y0, y1, e_q⟩ := enl_m hw
    subst e e_q
    exact g (i : Int) (j : Int) (by omega) (by omega) hj (Or.inl (by omega)) x y x0 x1 y0 y1 e1 e2 e3
set_option maxRecDepth 20000 in
set_option maxHeartbeats 4000000 in
theorem c_checkPar_at_148 {X : jX} {d : Nat} {T0 : Nat → Nat → Int} {Sn Bu : Int → Int} {Vs : Nat → Prop} {sb pb : Int} {Fm : Int → Int → Int → Prop} {k : Nat} {c0 c1 : jC} {G : Nat → Int} {A : Nat → Nat → Int} {T : jH} {n : Int} {hi s0 s1 : Int} {wl mk lnn : Int} (hd : 2 * k + 71 ≤ d + 1) (hW : Wk G A) (e_wl : G 67 = wl) (e_mk : A 28 (n).toNat = mk) (e_lnn : A 16 (n).toNat = lnn) (h_n : (-2147483648 : Int) ≤ n ∧ n ≤ 2147483647) (p_0 : TA T0 A) (p_1 : hi ≤ 6999) (p_2 : sb ≤ 202) (p_3 : 0 ≤ s0) (p_4 : s1 ≤ sb) (p_5 : 0 ≤ n) (p_6 : n < hi) (p_7 : KW T0 sb pb k Vs (n) (hi) (s0) (s1)) (p_8 : VB (Vs) (s0)) (p_9 : SA T0 Vs Sn A) (p_10 : BUr T0 Bu pb A) (p_11 : Fbd Fm 7324) (p_12 : (∀ i : Nat, (i : Int) < mny T0 n → vP T0 Bu k (sB T0 Sn n i) (fun s al e _ => Fm s al e) (kid T0 n i))) (p_13 : T0 15 (n).toNat = 28 ∨ T0 15 (n).toNat = 29) (p_14 : 0 ≤ lnn) (p_15 : -1 ≤ wl ∧ wl ≤ 3000) (p_16 : (k : Int) ≤ 18) : ∀ (m : Nat) (L : jL) (Gx : Nat → Int) (Ax : Nat → Nat → Int) (many i us1 : Int) (b : Int → Int), (many - i).toNat = m → jGet L 0 = some (.ref 66) → jGet L 1 = some (.int (i32 (n))) → jGet L 2 = some (.int (i32 many)) → jGet L 3 = some (.int (i32 i)) → Wk Gx Ax → Fr [61, 62, 67] [13, 39, 40, 41, 42, 43] G A Gx Ax → Gx 61 = us1 → Gx 67 = wl → ((-2147483648 : Int) ≤ many ∧ many ≤ 2147483647) → ((-2147483648 : Int) ≤ i ∧ i ≤ 2147483647) → (0 ≤ i) → (i ≤ many) → (NKK Ax b (many) (mk) (i) (i + 1)) → (many = mny T0 n) → (0 ≤ us1) → (us1 ≤ 59999) → (UB Ax (us1)) → (SA T0 Vs Sn Ax) → (PE 43 (b) (0) (many + 1) Ax) → (BRs T0 Ax Bu Sn k n b (many) (us1)) → wj X d jm334 (148, L, [], rV c0 c1 Gx Ax T) (fun o V_q => ∃ (G_q : Nat → Int) (A_q : Nat → Nat → Int) (wl2 : Int), V_q = rV c0 c1 G_q A_q T ∧ o = .inl none ∧ Wk G_q A_q ∧ Fr [61, 62, 67] [13, 39, 40, 41, 42, 43] G A G_q A_q ∧ G_q 67 = wl2 ∧ (((wl2 = wl) ∧ (SA T0 Vs Sn A_q) ∧ (PKO T0 Bu Sn k (n) (mk))) ∨ ((0 ≤ wl2 ∧ wl2 ≤ 3000) ∧ (SA T0 Vs Sn A_q)))) := by
  have hF0 : Fr [61, 62, 67] [13, 39, 40, 41, 42, 43] G A G A := Fr_rf
  have b_wl : (-2147483648 : Int) ≤ wl ∧ wl ≤ 2147483647 := e_wl ▸ hW.1 67
  have b_mk : (-2147483648 : Int) ≤ mk ∧ mk ≤ 2147483647 := e_mk ▸ hW.2 28 _
  have b_lnn : (-1 : Int) ≤ lnn ∧ lnn ≤ 3000 := e_lnn ▸ hW.2 16 _
  have hWT := TA_w hW p_0
  have hkw := (p_7).1; have hk1 := hkw.1; have hk2 := hkw.2
  intro m
  induction m using Nat.strongRecOn with
  | ind m ih148 =>
    intro L Gx Ax many i us1 b hm gL_0 gL_1 gL_2 gL_3 hWx hFx ex_us1 fx_67 rx_many rx_i iv_0 iv_1 iv_2 iv_3 iv_4 iv_5 iv_6 iv_7 iv_8 iv_9
    have b_us1 : (-2147483648 : Int) ≤ us1 ∧ us1 ≤ 2147483647 := ex_us1 ▸ hWx.1 61
    have hb3 := (iv_9).2.2
    have at_158 : ∀ (m : Nat) (L : jL) (Gx : Nat → Int) (Ax : Nat → Nat → Int) (j : Int), (many - j).toNat = m → jGet L 0 = some (.ref 66) → jGet L 1 = some (.int (i32 (n))) → jGet L 2 = some (.int (i32 (many))) → jGet L 3 = some (.int (i32 (i))) → jGet L 4 = some (.int (i32 j)) → Wk Gx Ax → Fr [61, 62, 67] [13, 39, 40, 41, 42, 43] G A Gx Ax → Gx 61 = us1 → Gx 67 = wl → ((-2147483648 : Int) ≤ j ∧ j ≤ 2147483647) → (0 ≤ i) → (i < many) → (i + 1 ≤ j) → (j ≤ many) → (NKK Ax b (many) (mk) (i) (j)) → (many = mny T0 n) → (0 ≤ us1) → (us1 ≤ 59999) → (UB Ax (us1)) → (SA T0 Vs Sn Ax) → (PE 43 (b) (0) (many + 1) Ax) → (BRs T0 Ax Bu Sn k n b (many) (us1)) → wj X d jm334 (158, L, [], rV c0 c1 Gx Ax T) (fun o V_q => ∃ (G_q : Nat → Int) (A_q : Nat → Nat → Int) (wl2 : Int), V_q = rV c0 c1 G_q A_q T ∧ o = .inl none ∧ Wk G_q A_q ∧ Fr [61, 62, 67] [13, 39, 40, 41, 42, 43] G A G_q A_q ∧ G_q 67 = wl2 ∧ (((wl2 = wl) ∧ (SA T0 Vs Sn A_q) ∧ (PKO T0 Bu Sn k (n) (mk))) ∨ ((0 ≤ wl2 ∧ wl2 ≤ 3000) ∧ (SA T0 Vs Sn A_q)))) := by
      intro m
      induction m using Nat.strongRecOn with
      | ind m ih158 =>
        intro L Gx Ax j hm gL_0 gL_1 gL_2 gL_3 gL_4 hWx hFx fx_61 fx_67 rx_j iv_0 iv_1 iv_2 iv_3 iv_4 iv_5 iv_6 iv_7 iv_8 iv_9 iv_10 iv_11
        have hb3 := (iv_11).2.2
        refine jx_ld (pc_q := 160) (l_q := L) (st_q := [.int (i32 (j))]) rfl (jl_iload gL_4) ?_
        refine jx_ld (pc_q := 161) (l_q := L) (st_q := [.int (i32 (many)), .int (i32 (j))]) rfl (jl_iloadn gL_2) ?_
        refine jx_icmp_ge (pc_q := 164) (tg := 219) rfl rfl rfl (Int.le_trans (by decide : (-2147483648 : Int) ≤ -2147483648) rx_j.1) (Int.le_trans rx_j.2 (by decide : (2147483647 : Int) ≤ 2147483647)) (by omega) (by omega) (fun h1 => ?_) (fun h1 => ?_)
        · have _q := h1
          have _q : True := trivial
          refine jx_inc (pc_q := 222) (l_q := jSto1 L 3 (.int (i32 ((i + (1)))))) (x := i) rfl gL_3 (by decide) rfl rfl ?_
          obtain ⟨L2, eL2⟩ : ∃ q, q = jSto1 L 3 (.int (i32 ((i + (1))))) := ⟨_, rfl⟩
          rw [← eL2]
          have gL2_0 : jGet L2 0 = some (.ref 66) := eL2 ▸ jg_ne (by decide) gL_0 rfl
          have gL2_1 : jGet L2 1 = some (.int (i32 (n))) := eL2 ▸ jg_ne (by decide) gL_1 rfl
          have gL2_2 : jGet L2 2 = some (.int (i32 (many))) := eL2 ▸ jg_ne (by decide) gL_2 rfl
          have gL2_4 : jGet L2 4 = some (.int (i32 (j))) := eL2 ▸ jg_ne (by decide) gL_4 rfl
          have gL2_3 : jGet L2 3 = some (.int (i32 ((i + (1))))) := eL2 ▸ jg_eq
          refine jx_go (tg := 148) rfl rfl ?_
          exact ih148 _ (by omega) L2 Gx Ax (many) ((i + (1))) (us1) (b) rfl gL2_0 gL2_1 gL2_2 gL2_3 hWx hFx ((fx_61)) ((fx_67)) (by omega) (by omega) (by omega) (by omega) ((NKK_i rfl (by omega) (by omega) iv_4)) (by omega) (by omega) (by omega) ((UB_e (fun _ _ _ => rfl) iv_8)) (iv_9) (iv_10) ((BRs_e (fun _ _ _ => rfl) iv_11))
        · have _q := h1
          have hp1 := (show Ax 43 (i).toNat = b (i) from (by have z := iv_10 (i) (by omega) (by omega); rw [Int.zero_add] at z; exact z)); have hp2 := (show Ax 43 (i + 1).toNat = b (i + 1) from (by have z := iv_10 (i + 1) (by omega) (by omega); rw [Int.zero_add] at z; exact z)); have hp3 := (show Ax 43 (j).toNat = b (j) from (by have z := iv_10 (j) (by omega) (by omega); rw [Int.zero_add] at z; exact z)); have hp4 := (show Ax 43 (j + 1).toNat = b (j + 1) from (by have z := iv_10 (j + 1) (by omega) (by omega); rw [Int.zero_add] at z; exact z)); have hbi := (iv_11).2.2 (i).toNat (by omega); have hbj := (iv_11).2.2 (j).toNat (by omega); rw [show (((i).toNat : Nat) : Int) = i by omega] at hbi; rw [show (((j).toNat : Nat) : Int) = j by omega] at hbj; have q1 := hbi.1; have q2 := hbi.2.1; have q3 := hbi.2.2.1; have q4 := hbj.1; have q5 := hbj.2.1; have q6 := hbj.2.2.1
          refine jx_ld (pc_q := 165) (l_q := L) (st_q := [.ref 66]) rfl (jl_aloadn gL_0) ?_
          refine jx_ld (pc_q := 166) (l_q := L) (st_q := [.ref 66, .ref 66]) rfl (jl_aloadn gL_0) ?_
          refine jr_get (pc_q := 169) (i := 69) (v := .ref 110) rfl rfl (by decide) rfl rfl ?_
          refine jx_ld (pc_q := 170) (l_q := L) (st_q := [.int (i32 (i)), .ref 110, .ref 66]) rfl (jl_iloadn gL_3) ?_
          refine jr_ldv (pc_q := 171) (i := 43) (m := 9) (z := i) (y := b (i)) rfl (by decide) rfl (by decide) (by omega) (by omega) rfl (show Ax 43 (i).toNat = b (i) from (hp1)) ?_
          refine jx_ld (pc_q := 172) (l_q := L) (st_q := [.ref 66, .int (i32 (b (i))), .ref 66]) rfl (jl_aloadn gL_0) ?_
          refine jr_get (pc_q := 175) (i := 69) (v := .ref 110) rfl rfl (by decide) rfl rfl ?_
          refine jx_ld (pc_q := 176) (l_q := L) (st_q := [.int (i32 (i)), .ref 110, .int (i32 (b (i))), .ref 66]) rfl (jl_iloadn gL_3) ?_
          refine jx_ar (pc_q := 177) (st_q := [.int (i32 (1)), .int (i32 (i)), .ref 110, .int (i32 (b (i))), .ref 66]) rfl rfl rfl rfl ?_
          refine jx_add (pc_q := 178) rfl rfl ?_
          have b3 : (-2147483648 : Int) ≤ Ax 43 ((i + 1)).toNat ∧ Ax 43 ((i + 1)).toNat ≤ 2147483647 := hWx.2 43 _
          refine jr_ldv (pc_q := 179) (i := 43) (m := 9) (z := (i + 1)) (y := Ax 43 ((i + 1)).toNat) rfl (by decide) rfl (by decide) (by omega) (by omega) rfl (show Ax 43 ((i + 1)).toNat = Ax 43 ((i + 1)).toNat from rfl) ?_
          refine jx_ld (pc_q := 180) (l_q := L) (st_q := [.ref 66, .int (i32 (Ax 43 ((i + 1)).toNat)), .int (i32 (b (i))), .ref 66]) rfl (jl_aloadn gL_0) ?_
          refine jr_get (pc_q := 183) (i := 69) (v := .ref 110) rfl rfl (by decide) rfl rfl ?_
          refine jx_ld (pc_q := 185) (l_q := L) (st_q := [.int (i32 (j)), .ref 110, .int (i32 (Ax 43 ((i + 1)).toNat)), .int (i32 (b (i))), .ref 66]) rfl (jl_iload gL_4) ?_
          refine jr_ldv (pc_q := 186) (i := 43) (m := 9) (z := j) (y := b (j)) rfl (by decide) rfl (by decide) (by omega) (by omega) rfl (show Ax 43 (j).toNat = b (j) from (hp3)) ?_
          refine jx_ld (pc_q := 187) (l_q := L) (st_q := [.ref 66, .int (i32 (b (j))), .int (i32 (Ax 43 ((i + 1)).toNat)), .int (i32 (b (i))), .ref 66]) rfl (jl_aloadn gL_0) ?_
          refine jr_get (pc_q := 190) (i := 69) (v := .ref 110) rfl rfl (by decide) rfl rfl ?_
          refine jx_ld (pc_q := 192) (l_q := L) (st_q := [.int (i32 (j)), .ref 110, .int (i32 (b (j))), .int (i32 (Ax 43 ((i + 1)).toNat)), .int (i32 (b (i))), .ref 66]) rfl (jl_iload gL_4) ?_
          refine jx_ar (pc_q := 193) (st_q := [.int (i32 (1)), .int (i32 (j)), .ref 110, .int (i32 (b (j))), .int (i32 (Ax 43 ((i + 1)).toNat)), .int (i32 (b (i))), .ref 66]) rfl rfl rfl rfl ?_
          refine jx_add (pc_q := 194) rfl rfl ?_
          have b4 : (-2147483648 : Int) ≤ Ax 43 ((j + 1)).toNat ∧ Ax 43 ((j + 1)).toNat ≤ 2147483647 := hWx.2 43 _
          refine jr_ldv (pc_q := 195) (i := 43) (m := 9) (z := (j + 1)) (y := Ax 43 ((j + 1)).toNat) rfl (by decide) rfl (by decide) (by omega) (by omega) rfl (show Ax 43 ((j + 1)).toNat = Ax 43 ((j + 1)).toNat from rfl) ?_
          refine jx_ld (pc_q := 196) (l_q := L) (st_q := [.ref 66, .int (i32 (Ax 43 ((j + 1)).toNat)), .int (i32 (b (j))), .int (i32 (Ax 43 ((i + 1)).toNat)), .int (i32 (b (i))), .ref 66]) rfl (jl_aloadn gL_0) ?_
          refine jr_get (pc_q := 199) (i := 45) (v := .ref 95) rfl rfl (by decide) rfl rfl ?_
          refine jx_ld (pc_q := 200) (l_q := L) (st_q := [.int (i32 (n)), .ref 95, .int (i32 (Ax 43 ((j + 1)).toNat)), .int (i32 (b (j))), .int (i32 (Ax 43 ((i + 1)).toNat)), .int (i32 (b (i))), .ref 66]) rfl (jl_iloadn gL_1) ?_
          refine jr_ldv (pc_q := 201) (i := 28) (m := 7000) (z := n) (y := mk) rfl (by decide) rfl (by decide) (by omega) (by omega) rfl (show Ax 28 (n).toNat = mk from (congrFun (hFx.2 28 rfl) _).trans (e_mk)) ?_
          refine jx_vr (pc_q := 204) (as := [.int (i32 (b (i))), .int (i32 (Ax 43 ((i + 1)).toNat)), .int (i32 (b (j))), .int (i32 (Ax 43 ((j + 1)).toNat)), .int (i32 (mk))]) (st := []) rfl rfl rfl rfl ⟨rfl, rfl, Nat.le_of_ble_eq_true rfl⟩ rfl rfl (c_branchesClash (dd := d) (hd := by omega) (hW := hWx) (f1 := b (i)) (t1 := Ax 43 ((i + 1)).toNat) (f2 := b (j)) (t2 := Ax 43 ((j + 1)).toNat) (mk := mk)   (h_f1 := ⟨(by omega), (by omega)⟩) (h_t1 := ⟨(Int.le_trans (by decide : (-2147483648 : Int) ≤ -2147483648) b3.1), (Int.le_trans b3.2 (by decide : (2147483647 : Int) ≤ 2147483647))⟩) (h_f2 := ⟨(by omega), (by omega)⟩) (h_t2 := ⟨(Int.le_trans (by decide : (-2147483648 : Int) ≤ -2147483648) b4.1), (Int.le_trans b4.2 (by decide : (2147483647 : Int) ≤ 2147483647))⟩) (h_mk := ⟨(Int.le_trans (by decide : (-2147483648 : Int) ≤ -2147483648) b_mk.1), (Int.le_trans b_mk.2 (by decide : (2147483647 : Int) ≤ 2147483647))⟩)  (p_0 := by omega) (p_1 := by omega) (p_2 := by omega) (p_3 := by omega) (p_4 := (fun j h1 h2 => (iv_8).1 j h1 (by omega))) (p_5 := (fun j h1 h2 => (iv_8).1 j h1 (by omega)))) (fun o V_q hq => ?_)
          obtain ⟨r5, rfl, rfl, b6, q7⟩ := hq
          refine .inr ⟨_, rfl, ?_⟩
          rcases q7 with rfl | ⟨rfl, a8⟩
          · have _q : True := trivial
            refine jx_if_eq (pc_q := 207) (tg := 213) rfl rfl rfl (by decide) (by decide) (fun h9 => ?_) (fun h9 => ?_)
            · have _q := h9
              exact absurd h9 (by omega)
            · have _q := h9
              refine jx_ld (pc_q := 208) (l_q := L) (st_q := [.ref 66]) rfl (jl_aloadn gL_0) ?_
              refine jx_ld (pc_q := 209) (l_q := L) (st_q := [.int (i32 (n)), .ref 66]) rfl (jl_iloadn gL_1) ?_
              refine jx_vr (pc_q := 212) (as := [.int (i32 (n))]) (st := []) rfl rfl rfl rfl ⟨rfl, rfl, Nat.le_of_ble_eq_true rfl⟩ rfl rfl (c_wrong2 (dd := d) (hd := by omega) (hW := hWx) (n := n) (wl := wl) (e_wl := show Gx 67 = wl from (fx_67)) (lnn := lnn) (e_lnn := show Ax 16 (n).toNat = lnn from (congrFun (hFx.2 16 rfl) _).trans (e_lnn))  (h_n := ⟨(Int.le_trans (by decide : (-2147483648 : Int) ≤ -2147483648) h_n.1), (Int.le_trans h_n.2 (by decide : (2147483647 : Int) ≤ 2147483647))⟩)  (p_0 := by omega) (p_1 := by omega) (p_2 := by omega) (p_3 := by omega)) (fun o V_q hq => ?_)
              obtain ⟨G10, A11, wl2_12, rfl, rfl, hW13, hF14, e15, p16, -⟩ := hq
              have hF18 := Fr_tr hFx hF14 (Fr_sub (by decide)) (Fr_sub (by decide))
              have sf19 : PE 43 (b) (0) (many + 1) A11 := PE_fr (hF14.2 43 rfl) iv_10
              have bwl2_12 : (-2147483648 : Int) ≤ wl2_12 ∧ wl2_12 ≤ 2147483647 := e15 ▸ hW13.1 67
              refine .inl ⟨rfl, ?_⟩
              refine jx_rt (v := none) rfl rfl rfl rfl rfl rfl ?_
              exact ⟨_, _, wl2_12, rfl, rfl, hW13, hF18, (e15), by first | exact Or.inl (⟨by omega, (SA_fr2 (show A11 13 = Ax 13 from (hF14.2 13 rfl)) iv_9), (PKO_i (by omega) iv_6 iv_9 iv_2 (by omega))⟩) | exact Or.inr ((⟨by omega, (SA_fr2 (show A11 13 = Ax 13 from (hF14.2 13 rfl)) iv_9)⟩))⟩
          · have _q : True := trivial
            refine jx_if_eq (pc_q := 207) (tg := 213) rfl rfl rfl (by decide) (by decide) (fun h20 => ?_) (fun h20 => ?_)
            · have _q := h20
              have _q : True := trivial
              refine jx_inc (pc_q := 216) (l_q := jSto1 L 4 (.int (i32 ((j + (1)))))) (x := j) rfl gL_4 (by decide) rfl rfl ?_
              obtain ⟨L21, eL21⟩ : ∃ q, q = jSto1 L 4 (.int (i32 ((j + (1))))) := ⟨_, rfl⟩
              rw [← eL21]
              have gL21_0 : jGet L21 0 = some (.ref 66) := eL21 ▸ jg_ne (by decide) gL_0 rfl
              have gL21_1 : jGet L21 1 = some (.int (i32 (n))) := eL21 ▸ jg_ne (by decide) gL_1 rfl
              have gL21_2 : jGet L21 2 = some (.int (i32 (many))) := eL21 ▸ jg_ne (by decide) gL_2 rfl
              have gL21_3 : jGet L21 3 = some (.int (i32 (i))) := eL21 ▸ jg_ne (by decide) gL_3 rfl
              have gL21_4 : jGet L21 4 = some (.int (i32 ((j + (1))))) := eL21 ▸ jg_eq
              refine jx_go (tg := 158) rfl rfl ?_
              exact ih158 _ (by omega) L21 Gx Ax ((j + (1))) rfl gL21_0 gL21_1 gL21_2 gL21_3 gL21_4 hWx hFx ((fx_61)) ((fx_67)) (by omega) (by omega) (by omega) (by omega) (by omega) ((NKK_j rfl iv_4 (rfl) (hp2) (rfl) (hp4) a8)) (by omega) (by omega) (by omega) ((UB_e (fun _ _ _ => rfl) iv_8)) (iv_9) (iv_10) ((BRs_e (fun _ _ _ => rfl) iv_11))
            · have _q := h20
              exact absurd h20 (by omega)
    refine jx_ld (pc_q := 149) (l_q := L) (st_q := [.int (i32 (i))]) rfl (jl_iloadn gL_3) ?_
    refine jx_ld (pc_q := 150) (l_q := L) (st_q := [.int (i32 (many)), .int (i32 (i))]) rfl (jl_iloadn gL_2) ?_
    refine jx_icmp_ge (pc_q := 153) (tg := 225) rfl rfl rfl (Int.le_trans (by decide : (-2147483648 : Int) ≤ -2147483648) rx_i.1) (Int.le_trans rx_i.2 (by decide : (2147483647 : Int) ≤ 2147483647)) (Int.le_trans (by decide : (-2147483648 : Int) ≤ -2147483648) rx_many.1) (Int.le_trans rx_many.2 (by decide : (2147483647 : Int) ≤ 2147483647)) (fun h22 => ?_) (fun h22 => ?_)
    · have _q := h22
      refine jx_rt (v := none) rfl rfl rfl rfl rfl rfl ?_
      exact ⟨_, _, wl, rfl, rfl, hWx, hFx, (fx_67), by first | exact Or.inl (⟨by omega, iv_7, (PKO_i (by omega) iv_6 iv_9 iv_2 (by omega))⟩) | exact Or.inr ((⟨by omega, iv_7⟩))⟩
    · have _q := h22
      have _q : True := trivial
      refine jx_ld (pc_q := 154) (l_q := L) (st_q := [.int (i32 (i))]) rfl (jl_iloadn gL_3) ?_
      refine jx_ar (pc_q := 155) (st_q := [.int (i32 (1)), .int (i32 (i))]) rfl rfl rfl rfl ?_
      refine jx_add (pc_q := 156) rfl rfl ?_
      refine jx_ld (pc_q := 158) (l_q := jSto1 L 4 (.int (i32 ((i + 1))))) (st_q := []) rfl rfl ?_
      obtain ⟨L23, eL23⟩ : ∃ q, q = jSto1 L 4 (.int (i32 ((i + 1)))) := ⟨_, rfl⟩
      rw [← eL23]
      have gL23_0 : jGet L23 0 = some (.ref 66) := eL23 ▸ jg_ne (by decide) gL_0 rfl
      have gL23_1 : jGet L23 1 = some (.int (i32 (n))) := eL23 ▸ jg_ne (by decide) gL_1 rfl
      have gL23_2 : jGet L23 2 = some (.int (i32 (many))) := eL23 ▸ jg_ne (by decide) gL_2 rfl
      have gL23_3 : jGet L23 3 = some (.int (i32 (i))) := eL23 ▸ jg_ne (by decide) gL_3 rfl
      have gL23_4 : jGet L23 4 = some (.int (i32 ((i + 1)))) := eL23 ▸ jg_eq
      exact at_158 _ L23 Gx Ax ((i + 1)) rfl gL23_0 gL23_1 gL23_2 gL23_3 gL23_4 hWx hFx ((ex_us1)) ((fx_67)) (by omega) (by omega) (by omega) (by omega) (by omega) (iv_2) (by omega) (by omega) (by omega) ((UB_e (fun _ _ _ => rfl) iv_6)) (iv_7) (iv_8) ((BRs_e (fun _ _ _ => rfl) iv_9))
set_option maxRecDepth 20000 in
set_option maxHeartbeats 4000000 in
theorem c_checkPar_at_70 {X : jX} {d : Nat} {T0 : Nat → Nat → Int} {Sn Bu : Int → Int} {Vs : Nat → Prop} {sb pb : Int} {Fm : Int → Int → Int → Prop} {k : Nat} {c0 c1 : jC} {G : Nat → Int} {A : Nat → Nat → Int} {T : jH} {n : Int} {hi s0 s1 : Int} {wl mk lnn : Int} (hd : 2 * k + 71 ≤ d + 1) (hW : Wk G A) (e_wl : G 67 = wl) (e_mk : A 28 (n).toNat = mk) (e_lnn : A 16 (n).toNat = lnn) (h_n : (-2147483648 : Int) ≤ n ∧ n ≤ 2147483647) (p_0 : TA T0 A) (p_1 : hi ≤ 6999) (p_2 : sb ≤ 202) (p_3 : 0 ≤ s0) (p_4 : s1 ≤ sb) (p_5 : 0 ≤ n) (p_6 : n < hi) (p_7 : KW T0 sb pb k Vs (n) (hi) (s0) (s1)) (p_8 : VB (Vs) (s0)) (p_9 : SA T0 Vs Sn A) (p_10 : BUr T0 Bu pb A) (p_11 : Fbd Fm 7324) (p_12 : (∀ i : Nat, (i : Int) < mny T0 n → vP T0 Bu k (sB T0 Sn n i) (fun s al e _ => Fm s al e) (kid T0 n i))) (p_13 : T0 15 (n).toNat = 28 ∨ T0 15 (n).toNat = 29) (p_14 : 0 ≤ lnn) (p_15 : -1 ≤ wl ∧ wl ≤ 3000) (p_16 : (k : Int) ≤ 18) : ∀ (m : Nat) (L : jL) (Gx : Nat → Int) (Ax : Nat → Nat → Int) (many i us1 : Int) (b : Int → Int), (mny T0 n - many).toNat = m → jGet L 0 = some (.ref 66) → jGet L 1 = some (.int (i32 (n))) → jGet L 2 = some (.int (i32 many)) → jGet L 3 = some (.int (i32 i)) → Wk Gx Ax → Fr [61, 62, 67] [13, 39, 40, 41, 42, 43] G A Gx Ax → Gx 61 = us1 → Gx 67 = wl → ((-2147483648 : Int) ≤ many ∧ many ≤ 2147483647) → ((-2147483648 : Int) ≤ i ∧ i ≤ 2147483647) → (T0 15 (n).toNat = 29) → (i = many) → (many ≤ mny T0 n) → (0 ≤ many) → (0 ≤ us1) → (us1 ≤ 7324 * many) → (UB Ax (us1)) → (SA T0 Vs Sn Ax) → (PE 43 (b) (0) (many) Ax) → (BRs T0 Ax Bu Sn k n b (many) (us1)) → wj X d jm334 (70, L, [], rV c0 c1 Gx Ax T) (fun o V_q => ∃ (G_q : Nat → Int) (A_q : Nat → Nat → Int) (wl2 : Int), V_q = rV c0 c1 G_q A_q T ∧ o = .inl none ∧ Wk G_q A_q ∧ Fr [61, 62, 67] [13, 39, 40, 41, 42, 43] G A G_q A_q ∧ G_q 67 = wl2 ∧ (((wl2 = wl) ∧ (SA T0 Vs Sn A_q) ∧ (PKO T0 Bu Sn k (n) (mk))) ∨ ((0 ≤ wl2 ∧ wl2 ≤ 3000) ∧ (SA T0 Vs Sn A_q)))) := by
  have hF0 : Fr [61, 62, 67] [13, 39, 40, 41, 42, 43] G A G A := Fr_rf
  have b_wl : (-2147483648 : Int) ≤ wl ∧ wl ≤ 2147483647 := e_wl ▸ hW.1 67
  have b_mk : (-2147483648 : Int) ≤ mk ∧ mk ≤ 2147483647 := e_mk ▸ hW.2 28 _
  have b_lnn : (-1 : Int) ≤ lnn ∧ lnn ≤ 3000 := e_lnn ▸ hW.2 16 _
  have hWT := TA_w hW p_0
  have hkw := (p_7).1; have hk1 := hkw.1; have hk2 := hkw.2
  intro m
  induction m using Nat.strongRecOn with
  | ind m ih70 =>
    intro L Gx Ax many i us1 b hm gL_0 gL_1 gL_2 gL_3 hWx hFx ex_us1 fx_67 rx_many rx_i iv_0 iv_1 iv_2 iv_3 iv_4 iv_5 iv_6 iv_7 iv_8 iv_9
    have b_us1 : (-2147483648 : Int) ≤ us1 ∧ us1 ≤ 2147483647 := ex_us1 ▸ hWx.1 61
    have hbm := (iv_9).2.1
    refine jx_ld (pc_q := 71) (l_q := L) (st_q := [.int (i32 (i))]) rfl (jl_iloadn gL_3) ?_
    refine jx_ld (pc_q := 72) (l_q := L) (st_q := [.ref 66, .int (i32 (i))]) rfl (jl_aloadn gL_0) ?_
    refine jr_get (pc_q := 75) (i := 37) (v := .ref 87) rfl rfl (by decide) rfl rfl ?_
    refine jx_ld (pc_q := 76) (l_q := L) (st_q := [.int (i32 (n)), .ref 87, .int (i32 (i))]) rfl (jl_iloadn gL_1) ?_
    have b24 : (-2147483648 : Int) ≤ T0 20 (n).toNat ∧ T0 20 (n).toNat ≤ 2147483647 := hWT.2 20 _
    refine jr_ldv (pc_q := 77) (i := 20) (m := 7000) (z := n) (y := T0 20 (n).toNat) rfl (by decide) rfl (by decide) (by omega) (by omega) rfl (show Ax 20 (n).toNat = T0 20 (n).toNat from (congrFun ((hFx.2 20 rfl).trans (p_0 20 rfl)) _)) ?_
    refine jx_icmp_ge (pc_q := 80) (tg := 136) rfl rfl rfl (Int.le_trans (by decide : (-2147483648 : Int) ≤ -2147483648) rx_i.1) (Int.le_trans rx_i.2 (by decide : (2147483647 : Int) ≤ 2147483647)) (Int.le_trans (by decide : (-2147483648 : Int) ≤ -2147483648) b24.1) (Int.le_trans b24.2 (by decide : (2147483647 : Int) ≤ 2147483647)) (fun h25 => ?_) (fun h25 => ?_)
    · have _q := h25
      have hmn2 : mny T0 n = T0 20 (n).toNat := if_pos iv_0
      refine jx_ld (pc_q := 137) (l_q := L) (st_q := [.ref 66]) rfl (jl_aloadn gL_0) ?_
      refine jr_get (pc_q := 140) (i := 69) (v := .ref 110) rfl rfl (by decide) rfl rfl ?_
      refine jx_ld (pc_q := 141) (l_q := L) (st_q := [.int (i32 (many)), .ref 110]) rfl (jl_iloadn gL_2) ?_
      refine jx_ld (pc_q := 142) (l_q := L) (st_q := [.ref 66, .int (i32 (many)), .ref 110]) rfl (jl_aloadn gL_0) ?_
      refine jr_get (pc_q := 145) (i := 61) (v := .int (i32 (us1))) rfl rfl (by decide) (rFv_eq (by decide) (show Gx 61 = us1 from (ex_us1))) rfl ?_
      refine jr_st (pc_q := 146) (i := 43) (m := 9) (z := many) (y := us1) rfl (by decide) rfl (by decide) (by omega) (by omega) rfl ?_
      have hW27 : Wk Gx (uA Ax 43 (many).toNat (us1)) := Wk_a hWx (show (-2147483648 : Int) ≤ us1 by omega) (show us1 ≤ (2147483647 : Int) by omega)
      have hF28 := Fr_a (z := us1) (k := 43) (n := (many).toNat) hFx (by decide)
      obtain ⟨A26, eA26⟩ : ∃ q, q = uA Ax 43 (many).toNat (us1) := ⟨_, rfl⟩
      rw [← eA26]
      rw [← eA26] at hW27 hF28
      have q29 : A26 43 (many).toNat = us1 := by rw [eA26]; exact uA_eq
      have sf30 : PE 43 (b) (0) (many + 1) A26 := PE_nx eA26 (by omega) (by omega) rfl (by omega) hbm iv_8
      have _q : True := trivial
      refine jx_ar (pc_q := 147) (st_q := [.int (i32 (0))]) rfl rfl rfl rfl ?_
      refine jx_ld (pc_q := 148) (l_q := jSto1 L 3 (.int (i32 (0)))) (st_q := []) rfl rfl ?_
      obtain ⟨L31, eL31⟩ : ∃ q, q = jSto1 L 3 (.int (i32 (0))) := ⟨_, rfl⟩
      rw [← eL31]
      have gL31_0 : jGet L31 0 = some (.ref 66) := eL31 ▸ jg_ne (by decide) gL_0 rfl
      have gL31_1 : jGet L31 1 = some (.int (i32 (n))) := eL31 ▸ jg_ne (by decide) gL_1 rfl
      have gL31_2 : jGet L31 2 = some (.int (i32 (many))) := eL31 ▸ jg_ne (by decide) gL_2 rfl
      have gL31_3 : jGet L31 3 = some (.int (i32 (0))) := eL31 ▸ jg_eq
      exact c_checkPar_at_148 (X := X) (d := d) (T0 := T0) (Sn := Sn) (Bu := Bu) (Vs := Vs) (sb := sb) (pb := pb) (Fm := Fm) (k := k) (c0 := c0) (c1 := c1) (G := G) (A := A) (T := T) (n := n) (hi := hi) (s0 := s0) (s1 := s1) (wl := wl) (mk := mk) (lnn := lnn) (hd := hd) (hW := hW) (e_wl := e_wl) (e_mk := e_mk) (e_lnn := e_lnn) (h_n := h_n) (p_0 := p_0) (p_1 := p_1) (p_2 := p_2) (p_3 := p_3) (p_4 := p_4) (p_5 := p_5) (p_6 := p_6) (p_7 := p_7) (p_8 := p_8) (p_9 := p_9) (p_10 := p_10) (p_11 := p_11) (p_12 := p_12) (p_13 := p_13) (p_14 := p_14) (p_15 := p_15) (p_16 := p_16) _ L31 Gx A26 (many) (0) (us1) (b) rfl gL31_0 gL31_1 gL31_2 gL31_3 hW27 hF28 ((ex_us1)) ((fx_67)) (by omega) (by omega) (by omega) (by omega) ((NKK_0 (by omega) (by omega))) (by omega) (by omega) (by omega) ((UB_e (fun r r1 r2 => by rw [eA26, uA_ne (by omega)]) iv_6)) ((SA_fr2 (show A26 13 = Ax 13 from ((congrFun eA26 13).trans (uA_ne (by decide)))) iv_7)) (sf30) ((BRs_e (fun r r1 r2 => by rw [eA26, uA_ne (by omega)]) iv_9))
    · have _q := h25
      have hmn : mny T0 n = T0 20 (n).toNat := if_pos iv_0; have h17 := (p_7).2.1 iv_0
      refine jx_ld (pc_q := 81) (l_q := L) (st_q := [.ref 66]) rfl (jl_aloadn gL_0) ?_
      refine jr_get (pc_q := 84) (i := 69) (v := .ref 110) rfl rfl (by decide) rfl rfl ?_
      refine jx_ld (pc_q := 85) (l_q := L) (st_q := [.int (i32 (many)), .ref 110]) rfl (jl_iloadn gL_2) ?_
      refine jx_ld (pc_q := 86) (l_q := L) (st_q := [.ref 66, .int (i32 (many)), .ref 110]) rfl (jl_aloadn gL_0) ?_
      refine jr_get (pc_q := 89) (i := 61) (v := .int (i32 (us1))) rfl rfl (by decide) (rFv_eq (by decide) (show Gx 61 = us1 from (ex_us1))) rfl ?_
      refine jr_st (pc_q := 90) (i := 43) (m := 9) (z := many) (y := us1) rfl (by decide) rfl (by decide) (by omega) (by omega) rfl ?_
      have hW33 : Wk Gx (uA Ax 43 (many).toNat (us1)) := Wk_a hWx (show (-2147483648 : Int) ≤ us1 by omega) (show us1 ≤ (2147483647 : Int) by omega)
      have hF34 := Fr_a (z := us1) (k := 43) (n := (many).toNat) hFx (by decide)
      obtain ⟨A32, eA32⟩ : ∃ q, q = uA Ax 43 (many).toNat (us1) := ⟨_, rfl⟩
      rw [← eA32]
      rw [← eA32] at hW33 hF34
      have q35 : A32 43 (many).toNat = us1 := by rw [eA32]; exact uA_eq
      have sf36 : PE 43 (b) (0) (many + 1) A32 := PE_nx eA32 (by omega) (by omega) rfl (by omega) hbm iv_8
      refine jx_ld (pc_q := 91) (l_q := L) (st_q := [.ref 66]) rfl (jl_aloadn gL_0) ?_
      refine jx_ld (pc_q := 92) (l_q := L) (st_q := [.ref 66, .ref 66]) rfl (jl_aloadn gL_0) ?_
      refine jr_get (pc_q := 95) (i := 61) (v := .int (i32 (us1))) rfl rfl (by decide) (rFv_eq (by decide) (show Gx 61 = us1 from (ex_us1))) rfl ?_
      refine jr_put (pc_q := 98) (i := 62) (z := us1) rfl rfl (by decide) rfl rfl rfl rfl rfl rfl ?_
      have hW37 : Wk (uG Gx 62 (us1)) A32 := Wk_g hW33 (show (-2147483648 : Int) ≤ us1 by omega) (show us1 ≤ (2147483647 : Int) by omega)
      have hF38 := Fr_g (z := us1) (i := 62) hF34 (by decide)
      refine jx_ld (pc_q := 99) (l_q := L) (st_q := [.ref 66]) rfl (jl_aloadn gL_0) ?_
      refine jr_get (pc_q := 102) (i := 27) (v := .ref 80) rfl rfl (by decide) rfl rfl ?_
      refine jx_ld (pc_q := 103) (l_q := L) (st_q := [.ref 66, .ref 80]) rfl (jl_aloadn gL_0) ?_
      refine jr_get (pc_q := 106) (i := 34) (v := .ref 84) rfl rfl (by decide) rfl rfl ?_
      refine jx_ld (pc_q := 107) (l_q := L) (st_q := [.int (i32 (n)), .ref 84, .ref 80]) rfl (jl_iloadn gL_1) ?_
      have b39 : (-2147483648 : Int) ≤ T0 17 (n).toNat ∧ T0 17 (n).toNat ≤ 2147483647 := hWT.2 17 _
      refine jr_ldv (pc_q := 108) (i := 17) (m := 7000) (z := n) (y := T0 17 (n).toNat) rfl (by decide) rfl (by decide) (by omega) (by omega) rfl (show A32 17 (n).toNat = T0 17 (n).toNat from (congrFun (((congrFun eA32 17).trans (uA_ne (by decide))).trans ((hFx.2 17 rfl).trans (p_0 17 rfl))) _)) ?_
      refine jx_ld (pc_q := 109) (l_q := L) (st_q := [.ref 66, .int (i32 (T0 17 (n).toNat)), .ref 80]) rfl (jl_aloadn gL_0) ?_
      refine jr_get (pc_q := 112) (i := 36) (v := .ref 86) rfl rfl (by decide) rfl rfl ?_
      refine jx_ld (pc_q := 113) (l_q := L) (st_q := [.int (i32 (n)), .ref 86, .int (i32 (T0 17 (n).toNat)), .ref 80]) rfl (jl_iloadn gL_1) ?_
      have b40 : (-2147483648 : Int) ≤ T0 19 (n).toNat ∧ T0 19 (n).toNat ≤ 2147483647 := hWT.2 19 _
      refine jr_ldv (pc_q := 114) (i := 19) (m := 7000) (z := n) (y := T0 19 (n).toNat) rfl (by decide) rfl (by decide) (by omega) (by omega) rfl (show A32 19 (n).toNat = T0 19 (n).toNat from (congrFun (((congrFun eA32 19).trans (uA_ne (by decide))).trans ((hFx.2 19 rfl).trans (p_0 19 rfl))) _)) ?_
      refine jx_ld (pc_q := 115) (l_q := L) (st_q := [.int (i32 (i)), .int (i32 (T0 19 (n).toNat)), .int (i32 (T0 17 (n).toNat)), .ref 80]) rfl (jl_iloadn gL_3) ?_
      refine jx_add (pc_q := 116) rfl rfl ?_
      obtain ⟨v41, ev41⟩ : ∃ z, z = (i32 (T0 19 (n).toNat + i)).toInt := ⟨_, rfl⟩; have fv41 : i32 (T0 19 (n).toNat + i) = i32 v41 := (by rw [ev41]; exact (i32_of _).symm); rw [fv41]; have rv41 : (-2147483648 : Int) ≤ v41 ∧ v41 ≤ 2147483647 := ev41 ▸ i32_rg _
      refine jr_st (pc_q := 117) (i := 13) (m := 260) (z := T0 17 (n).toNat) (y := v41) rfl (by decide) rfl (by decide) (by omega) (by omega) rfl ?_
      have hW43 : Wk (uG Gx 62 (us1)) (uA A32 13 (T0 17 (n).toNat).toNat (v41)) := Wk_a hW37 (show (-2147483648 : Int) ≤ v41 by omega) (show v41 ≤ (2147483647 : Int) by omega)
      have hF44 := Fr_a (z := v41) (k := 13) (n := (T0 17 (n).toNat).toNat) hF38 (by decide)
      obtain ⟨A42, eA42⟩ : ∃ q, q = uA A32 13 (T0 17 (n).toNat).toNat (v41) := ⟨_, rfl⟩
      rw [← eA42]
      rw [← eA42] at hW43 hF44
      have q45 : A42 13 (T0 17 (n).toNat).toNat = v41 := by rw [eA42]; exact uA_eq
      have sf46 : PE 43 (b) (0) (many + 1) A42 := PE_fr ((congrFun eA42 43).trans (uA_ne (by decide))) sf36
      obtain ⟨hk0, ta, tb, tu, tv, t1, t2, t3, t4, t5, t6⟩ := (p_7).2.2.2 (many).toNat (by omega); have hck := kid_29 (j := (many).toNat) iv_0; have htr : wP T0 sb pb k (vB T0 Vs n) (T0 21 (n).toNat) ta tb tu tv := (by rw [← hck]; exact t6); have hUI : UI Fm A42 us1 us1 := UB_ui (by omega) (UB_e (fun r r1 r2 => by rw [eA42, uA_ne (by omega), eA32, uA_ne (by omega)]) iv_6); have hSAk : SA T0 (vB T0 Vs n) (sB T0 Sn n (many).toNat) A42 := SA_in9 iv_0 (by omega) (by omega) eA42 (by rw [ev41, show i = many by omega]) (SA_fr2 (by rw [eA32]; exact uA_ne (by decide)) iv_7); have hVBc : VB (vB T0 Vs n) tu := VB_vB p_8 t3 (fun q => by have := t4 q; omega); have hzc : vP T0 Bu k (sB T0 Sn n (many).toNat) (fun s al e _ => Fm s al e) (T0 21 (n).toNat) := (by rw [← hck]; exact p_12 (many).toNat (by omega))
      refine jx_ld (pc_q := 118) (l_q := L) (st_q := [.ref 66]) rfl (jl_aloadn gL_0) ?_
      refine jx_ld (pc_q := 119) (l_q := L) (st_q := [.ref 66, .ref 66]) rfl (jl_aloadn gL_0) ?_
      refine jr_get (pc_q := 122) (i := 38) (v := .ref 88) rfl rfl (by decide) rfl rfl ?_
      refine jx_ld (pc_q := 123) (l_q := L) (st_q := [.int (i32 (n)), .ref 88, .ref 66]) rfl (jl_iloadn gL_1) ?_
      have b47 : (-2147483648 : Int) ≤ T0 21 (n).toNat ∧ T0 21 (n).toNat ≤ 2147483647 := hWT.2 21 _
      refine jr_ldv (pc_q := 124) (i := 21) (m := 7000) (z := n) (y := T0 21 (n).toNat) rfl (by decide) rfl (by decide) (by omega) (by omega) rfl (show A42 21 (n).toNat = T0 21 (n).toNat from (congrFun (((congrFun eA42 21).trans (uA_ne (by decide))).trans (((congrFun eA32 21).trans (uA_ne (by decide))).trans ((hFx.2 21 rfl).trans (p_0 21 rfl)))) _)) ?_
      refine jx_vr (pc_q := 127) (as := [.int (i32 (T0 21 (n).toNat))]) (st := []) rfl rfl rfl rfl ⟨rfl, rfl, Nat.le_of_ble_eq_true rfl⟩ rfl rfl (UA_all X k (dd := d) (hd := by omega) (hW := hW43) (p := T0 21 (n).toNat) (lo := ta) (hi := tb) (s0 := tu) (s1 := tv) (uf := us1) (e_uf := show (uG Gx 62 (us1)) 62 = us1 from rfl) (us := us1) (e_us := show (uG Gx 62 (us1)) 61 = us1 from (ex_us1))  (h_p := ⟨(Int.le_trans (by decide : (-2147483648 : Int) ≤ -2147483648) b47.1), (Int.le_trans b47.2 (by decide : (2147483647 : Int) ≤ 2147483647))⟩)  (p_0 := (TA_fr hF44 (by decide) p_0)) (p_1 := by omega) (p_2 := by omega) (p_3 := by omega) (p_4 := by omega) (p_5 := by omega) (p_6 := by omega) (p_7 := hUI) (p_8 := p_11) (p_9 := by omega) (p_10 := by omega) (p_11 := htr) (p_12 := hVBc) (p_13 := hSAk) (p_14 := (BU_fr (show A42 11 = A 11 from (((congrFun eA42 11).trans (uA_ne (by decide))).trans (((congrFun eA32 11).trans (uA_ne (by decide))).trans (hFx.2 11 rfl)))) p_10)) (p_15 := hzc)) (fun o V_q hq => ?_)
      obtain ⟨G48, A49, us2_50, rfl, rfl, hW51, hF52, e53, p54, p55, p56, p57, -⟩ := hq
      have hF59 := Fr_tr hF44 hF52 (Fr_sub (by decide)) (Fr_sub (by decide))
      have sf60 : PE 43 (b) (0) (many + 1) A49 := PE_fr (hF52.2 43 rfl) sf46
      have bus2_50 : (-2147483648 : Int) ≤ us2_50 ∧ us2_50 ≤ 2147483647 := e53 ▸ hW51.1 61
      refine .inl ⟨rfl, ?_⟩
      have hule := UI_le p55 p_11; have hSA3 : SA T0 Vs Sn A49 := SA_bk p_8 (fun q => ((p_7).2.1 q).1) p56; have hBR := BRs_nx (c := T0 21 (n).toNat) (by omega) (by omega) rfl hck.symm (BRs_e (fun r r1 r2 => by rw [eA42, uA_ne (by omega), eA32, uA_ne (by omega)]) iv_9) (p55).2.1 p57; have hUB := UI_ub p55; have hPE := PE_up (i := many + 1) (v := us2_50) sf60
      refine jx_inc (pc_q := 130) (l_q := jSto1 L 2 (.int (i32 ((many + (1)))))) (x := many) rfl gL_2 (by decide) rfl rfl ?_
      obtain ⟨L61, eL61⟩ : ∃ q, q = jSto1 L 2 (.int (i32 ((many + (1))))) := ⟨_, rfl⟩
      rw [← eL61]
      have gL61_0 : jGet L61 0 = some (.ref 66) := eL61 ▸ jg_ne (by decide) gL_0 rfl
      have gL61_1 : jGet L61 1 = some (.int (i32 (n))) := eL61 ▸ jg_ne (by decide) gL_1 rfl
      have gL61_3 : jGet L61 3 = some (.int (i32 (i))) := eL61 ▸ jg_ne (by decide) gL_3 rfl
      have gL61_2 : jGet L61 2 = some (.int (i32 ((many + (1))))) := eL61 ▸ jg_eq
      refine jx_inc (pc_q := 133) (l_q := jSto1 L61 3 (.int (i32 ((i + (1)))))) (x := i) rfl gL61_3 (by decide) rfl rfl ?_
      obtain ⟨L62, eL62⟩ : ∃ q, q = jSto1 L61 3 (.int (i32 ((i + (1))))) := ⟨_, rfl⟩
      rw [← eL62]
      have gL62_0 : jGet L62 0 = some (.ref 66) := eL62 ▸ jg_ne (by decide) gL61_0 rfl
      have gL62_1 : jGet L62 1 = some (.int (i32 (n))) := eL62 ▸ jg_ne (by decide) gL61_1 rfl
      have gL62_2 : jGet L62 2 = some (.int (i32 ((many + (1))))) := eL62 ▸ jg_ne (by decide) gL61_2 rfl
      have gL62_3 : jGet L62 3 = some (.int (i32 ((i + (1))))) := eL62 ▸ jg_eq
      refine jx_go (tg := 70) rfl rfl ?_
      exact ih70 _ (by omega) L62 G48 A49 ((many + (1))) ((i + (1))) (us2_50) ((upf b (many + 1) us2_50)) rfl gL62_0 gL62_1 gL62_2 gL62_3 hW51 hF59 ((e53)) (((hF52.1 67 rfl).trans (fx_67))) (by omega) (by omega) (by omega) (by omega) (by omega) (by omega) (by omega) (by omega) (hUB) (hSA3) (hPE) (hBR)
set_option maxRecDepth 20000 in
set_option maxHeartbeats 4000000 in
theorem c_checkPar_at_25 {X : jX} {d : Nat} {T0 : Nat → Nat → Int} {Sn Bu : Int → Int} {Vs : Nat → Prop} {sb pb : Int} {Fm : Int → Int → Int → Prop} {k : Nat} {c0 c1 : jC} {G : Nat → Int} {A : Nat → Nat → Int} {T : jH} {n : Int} {hi s0 s1 : Int} {wl mk lnn : Int} (hd : 2 * k + 71 ≤ d + 1) (hW : Wk G A) (e_wl : G 67 = wl) (e_mk : A 28 (n).toNat = mk) (e_lnn : A 16 (n).toNat = lnn) (h_n : (-2147483648 : Int) ≤ n ∧ n ≤ 2147483647) (p_0 : TA T0 A) (p_1 : hi ≤ 6999) (p_2 : sb ≤ 202) (p_3 : 0 ≤ s0) (p_4 : s1 ≤ sb) (p_5 : 0 ≤ n) (p_6 : n < hi) (p_7 : KW T0 sb pb k Vs (n) (hi) (s0) (s1)) (p_8 : VB (Vs) (s0)) (p_9 : SA T0 Vs Sn A) (p_10 : BUr T0 Bu pb A) (p_11 : Fbd Fm 7324) (p_12 : (∀ i : Nat, (i : Int) < mny T0 n → vP T0 Bu k (sB T0 Sn n i) (fun s al e _ => Fm s al e) (kid T0 n i))) (p_13 : T0 15 (n).toNat = 28 ∨ T0 15 (n).toNat = 29) (p_14 : 0 ≤ lnn) (p_15 : -1 ≤ wl ∧ wl ≤ 3000) (p_16 : (k : Int) ≤ 18) : ∀ (m : Nat) (L : jL) (Gx : Nat → Int) (Ax : Nat → Nat → Int) (many c us1 : Int) (b : Int → Int), (mny T0 n - many).toNat = m → jGet L 0 = some (.ref 66) → jGet L 1 = some (.int (i32 (n))) → jGet L 2 = some (.int (i32 many)) → jGet L 3 = some (.int (i32 c)) → Wk Gx Ax → Fr [61, 62, 67] [13, 39, 40, 41, 42, 43] G A Gx Ax → Gx 61 = us1 → Gx 67 = wl → ((-2147483648 : Int) ≤ many ∧ many ≤ 2147483647) → ((-2147483648 : Int) ≤ c ∧ c ≤ 2147483647) → (T0 15 (n).toNat = 28) → (many ≤ mny T0 n) → (c = kid T0 n (many).toNat) → (0 ≤ many) → (0 ≤ us1) → (us1 ≤ 7324 * many) → (UB Ax (us1)) → (SA T0 Vs Sn Ax) → (PE 43 (b) (0) (many) Ax) → (BRs T0 Ax Bu Sn k n b (many) (us1)) → wj X d jm334 (25, L, [], rV c0 c1 Gx Ax T) (fun o V_q => ∃ (G_q : Nat → Int) (A_q : Nat → Nat → Int) (wl2 : Int), V_q = rV c0 c1 G_q A_q T ∧ o = .inl none ∧ Wk G_q A_q ∧ Fr [61, 62, 67] [13, 39, 40, 41, 42, 43] G A G_q A_q ∧ G_q 67 = wl2 ∧ (((wl2 = wl) ∧ (SA T0 Vs Sn A_q) ∧ (PKO T0 Bu Sn k (n) (mk))) ∨ ((0 ≤ wl2 ∧ wl2 ≤ 3000) ∧ (SA T0 Vs Sn A_q)))) := by
  have hF0 : Fr [61, 62, 67] [13, 39, 40, 41, 42, 43] G A G A := Fr_rf
  have b_wl : (-2147483648 : Int) ≤ wl ∧ wl ≤ 2147483647 := e_wl ▸ hW.1 67
  have b_mk : (-2147483648 : Int) ≤ mk ∧ mk ≤ 2147483647 := e_mk ▸ hW.2 28 _
  have b_lnn : (-1 : Int) ≤ lnn ∧ lnn ≤ 3000 := e_lnn ▸ hW.2 16 _
  have hWT := TA_w hW p_0
  have hkw := (p_7).1; have hk1 := hkw.1; have hk2 := hkw.2
  intro m
  induction m using Nat.strongRecOn with
  | ind m ih25 =>
    intro L Gx Ax many c us1 b hm gL_0 gL_1 gL_2 gL_3 hWx hFx ex_us1 fx_67 rx_many rx_c iv_0 iv_1 iv_2 iv_3 iv_4 iv_5 iv_6 iv_7 iv_8 iv_9
    have b_us1 : (-2147483648 : Int) ≤ us1 ∧ us1 ≤ 2147483647 := ex_us1 ▸ hWx.1 61
    have hbm := (iv_9).2.1
    refine jx_ld (pc_q := 26) (l_q := L) (st_q := [.int (i32 (c))]) rfl (jl_iloadn gL_3) ?_
    refine jx_if_le (pc_q := 29) (tg := 65) rfl rfl rfl (Int.le_trans (by decide : (-2147483648 : Int) ≤ -2147483648) rx_c.1) (Int.le_trans rx_c.2 (by decide : (2147483647 : Int) ≤ 2147483647)) (fun h63 => ?_) (fun h63 => ?_)
    · have _q := h63
      have hme := (kid_lt p_7 iv_0 iv_1 (by omega) iv_2).2 (by omega)
      refine jx_go (tg := 136) rfl rfl ?_
      have hmn2 : T0 15 (n).toNat = 29 → mny T0 n = T0 20 (n).toNat := (fun q => if_pos q)
      refine jx_ld (pc_q := 137) (l_q := L) (st_q := [.ref 66]) rfl (jl_aloadn gL_0) ?_
      refine jr_get (pc_q := 140) (i := 69) (v := .ref 110) rfl rfl (by decide) rfl rfl ?_
      refine jx_ld (pc_q := 141) (l_q := L) (st_q := [.int (i32 (many)), .ref 110]) rfl (jl_iloadn gL_2) ?_
      refine jx_ld (pc_q := 142) (l_q := L) (st_q := [.ref 66, .int (i32 (many)), .ref 110]) rfl (jl_aloadn gL_0) ?_
      refine jr_get (pc_q := 145) (i := 61) (v := .int (i32 (us1))) rfl rfl (by decide) (rFv_eq (by decide) (show Gx 61 = us1 from (ex_us1))) rfl ?_
      refine jr_st (pc_q := 146) (i := 43) (m := 9) (z := many) (y := us1) rfl (by decide) rfl (by decide) (by omega) (by omega) rfl ?_
      have hW65 : Wk Gx (uA Ax 43 (many).toNat (us1)) := Wk_a hWx (show (-2147483648 : Int) ≤ us1 by omega) (show us1 ≤ (2147483647 : Int) by omega)
      have hF66 := Fr_a (z := us1) (k := 43) (n := (many).toNat) hFx (by decide)
      obtain ⟨A64, eA64⟩ : ∃ q, q = uA Ax 43 (many).toNat (us1) := ⟨_, rfl⟩
      rw [← eA64]
      rw [← eA64] at hW65 hF66
      have q67 : A64 43 (many).toNat = us1 := by rw [eA64]; exact uA_eq
      have sf68 : PE 43 (b) (0) (many + 1) A64 := PE_nx eA64 (by omega) (by omega) rfl (by omega) hbm iv_8
      have _q : True := trivial
      refine jx_ar (pc_q := 147) (st_q := [.int (i32 (0))]) rfl rfl rfl rfl ?_
      refine jx_ld (pc_q := 148) (l_q := jSto1 L 3 (.int (i32 (0)))) (st_q := []) rfl rfl ?_
      obtain ⟨L69, eL69⟩ : ∃ q, q = jSto1 L 3 (.int (i32 (0))) := ⟨_, rfl⟩
      rw [← eL69]
      have gL69_0 : jGet L69 0 = some (.ref 66) := eL69 ▸ jg_ne (by decide) gL_0 rfl
      have gL69_1 : jGet L69 1 = some (.int (i32 (n))) := eL69 ▸ jg_ne (by decide) gL_1 rfl
      have gL69_2 : jGet L69 2 = some (.int (i32 (many))) := eL69 ▸ jg_ne (by decide) gL_2 rfl
      have gL69_3 : jGet L69 3 = some (.int (i32 (0))) := eL69 ▸ jg_eq
      exact c_checkPar_at_148 (X := X) (d := d) (T0 := T0) (Sn := Sn) (Bu := Bu) (Vs := Vs) (sb := sb) (pb := pb) (Fm := Fm) (k := k) (c0 := c0) (c1 := c1) (G := G) (A := A) (T := T) (n := n) (hi := hi) (s0 := s0) (s1 := s1) (wl := wl) (mk := mk) (lnn := lnn) (hd := hd) (hW := hW) (e_wl := e_wl) (e_mk := e_mk) (e_lnn := e_lnn) (h_n := h_n) (p_0 := p_0) (p_1 := p_1) (p_2 := p_2) (p_3 := p_3) (p_4 := p_4) (p_5 := p_5) (p_6 := p_6) (p_7 := p_7) (p_8 := p_8) (p_9 := p_9) (p_10 := p_10) (p_11 := p_11) (p_12 := p_12) (p_13 := p_13) (p_14 := p_14) (p_15 := p_15) (p_16 := p_16) _ L69 Gx A64 (many) (0) (us1) (b) rfl gL69_0 gL69_1 gL69_2 gL69_3 hW65 hF66 ((ex_us1)) ((fx_67)) (by omega) (by omega) (by omega) (by omega) ((NKK_0 (by omega) (by omega))) (by omega) (by omega) (by omega) ((UB_e (fun r r1 r2 => by rw [eA64, uA_ne (by omega)]) iv_6)) ((SA_fr2 (show A64 13 = Ax 13 from ((congrFun eA64 13).trans (uA_ne (by decide)))) iv_7)) (sf68) ((BRs_e (fun r r1 r2 => by rw [eA64, uA_ne (by omega)]) iv_9))
    · have _q := h63
      have hlt0 := (kid_lt p_7 iv_0 iv_1 (by omega) iv_2).1 (by omega)
      refine jx_ld (pc_q := 30) (l_q := L) (st_q := [.ref 66]) rfl (jl_aloadn gL_0) ?_
      refine jr_get (pc_q := 33) (i := 69) (v := .ref 110) rfl rfl (by decide) rfl rfl ?_
      refine jx_ld (pc_q := 34) (l_q := L) (st_q := [.int (i32 (many)), .ref 110]) rfl (jl_iloadn gL_2) ?_
      refine jx_ld (pc_q := 35) (l_q := L) (st_q := [.ref 66, .int (i32 (many)), .ref 110]) rfl (jl_aloadn gL_0) ?_
      refine jr_get (pc_q := 38) (i := 61) (v := .int (i32 (us1))) rfl rfl (by decide) (rFv_eq (by decide) (show Gx 61 = us1 from (ex_us1))) rfl ?_
      refine jr_st (pc_q := 39) (i := 43) (m := 9) (z := many) (y := us1) rfl (by decide) rfl (by decide) (by omega) (by omega) rfl ?_
      have hW71 : Wk Gx (uA Ax 43 (many).toNat (us1)) := Wk_a hWx (show (-2147483648 : Int) ≤ us1 by omega) (show us1 ≤ (2147483647 : Int) by omega)
      have hF72 := Fr_a (z := us1) (k := 43) (n := (many).toNat) hFx (by decide)
      obtain ⟨A70, eA70⟩ : ∃ q, q = uA Ax 43 (many).toNat (us1) := ⟨_, rfl⟩
      rw [← eA70]
      rw [← eA70] at hW71 hF72
      have q73 : A70 43 (many).toNat = us1 := by rw [eA70]; exact uA_eq
      have sf74 : PE 43 (b) (0) (many + 1) A70 := PE_nx eA70 (by omega) (by omega) rfl (by omega) hbm iv_8
      refine jx_ld (pc_q := 40) (l_q := L) (st_q := [.ref 66]) rfl (jl_aloadn gL_0) ?_
      refine jx_ld (pc_q := 41) (l_q := L) (st_q := [.ref 66, .ref 66]) rfl (jl_aloadn gL_0) ?_
      refine jr_get (pc_q := 44) (i := 61) (v := .int (i32 (us1))) rfl rfl (by decide) (rFv_eq (by decide) (show Gx 61 = us1 from (ex_us1))) rfl ?_
      refine jr_put (pc_q := 47) (i := 62) (z := us1) rfl rfl (by decide) rfl rfl rfl rfl rfl rfl ?_
      have hW75 : Wk (uG Gx 62 (us1)) A70 := Wk_g hW71 (show (-2147483648 : Int) ≤ us1 by omega) (show us1 ≤ (2147483647 : Int) by omega)
      have hF76 := Fr_g (z := us1) (i := 62) hF72 (by decide)
      have hlt := (kid_lt p_7 iv_0 iv_1 (by omega) iv_2).1 (by omega); obtain ⟨hk0, ta, tb, tu, tv, t1, t2, t3, t4, t5, t6⟩ := (p_7).2.2.2 (many).toNat (by omega); have hck := iv_2; have htr : wP T0 sb pb k (vB T0 Vs n) c ta tb tu tv := (by rw [hck]; exact t6); have hci := wP_in htr; have hUI : UI Fm A70 us1 us1 := UB_ui (by omega) (UB_e (fun r r1 r2 => by rw [eA70, uA_ne (by omega)]) iv_6); have hSAk : SA T0 (vB T0 Vs n) (sB T0 Sn n (many).toNat) A70 := SA_in iv_0 (SA_fr2 (show A70 13 = Ax 13 from ((congrFun eA70 13).trans (uA_ne (by decide)))) iv_7); have hVBc : VB (vB T0 Vs n) tu := VB_vB p_8 t3 (fun q => by omega); have hzc : vP T0 Bu k (sB T0 Sn n (many).toNat) (fun s al e _ => Fm s al e) c := (by rw [hck]; exact p_12 (many).toNat (by omega))
      refine jx_ld (pc_q := 48) (l_q := L) (st_q := [.ref 66]) rfl (jl_aloadn gL_0) ?_
      refine jx_ld (pc_q := 49) (l_q := L) (st_q := [.int (i32 (c)), .ref 66]) rfl (jl_iloadn gL_3) ?_
      refine jx_vr (pc_q := 52) (as := [.int (i32 (c))]) (st := []) rfl rfl rfl rfl ⟨rfl, rfl, Nat.le_of_ble_eq_true rfl⟩ rfl rfl (UA_all X k (dd := d) (hd := by omega) (hW := hW75) (p := c) (lo := ta) (hi := tb) (s0 := tu) (s1 := tv) (uf := us1) (e_uf := show (uG Gx 62 (us1)) 62 = us1 from rfl) (us := us1) (e_us := show (uG Gx 62 (us1)) 61 = us1 from (ex_us1))  (h_p := ⟨(Int.le_trans (by decide : (-2147483648 : Int) ≤ -2147483648) rx_c.1), (Int.le_trans rx_c.2 (by decide : (2147483647 : Int) ≤ 2147483647))⟩)  (p_0 := (TA_fr hF76 (by decide) p_0)) (p_1 := by omega) (p_2 := by omega) (p_3 := by omega) (p_4 := by omega) (p_5 := by omega) (p_6 := by omega) (p_7 := hUI) (p_8 := p_11) (p_9 := by omega) (p_10 := by omega) (p_11 := htr) (p_12 := hVBc) (p_13 := hSAk) (p_14 := (BU_fr (show A70 11 = A 11 from (((congrFun eA70 11).trans (uA_ne (by decide))).trans (hFx.2 11 rfl))) p_10)) (p_15 := hzc)) (fun o V_q hq => ?_)
      obtain ⟨G77, A78, us2_79, rfl, rfl, hW80, hF81, e82, p83, p84, p85, p86, -⟩ := hq
      have hF88 := Fr_tr hF76 hF81 (Fr_sub (by decide)) (Fr_sub (by decide))
      have sf89 : PE 43 (b) (0) (many + 1) A78 := PE_fr (hF81.2 43 rfl) sf74
      have bus2_79 : (-2147483648 : Int) ≤ us2_79 ∧ us2_79 ≤ 2147483647 := e82 ▸ hW80.1 61
      refine .inl ⟨rfl, ?_⟩
      have hule := UI_le p84 p_11; have hSA3 : SA T0 Vs Sn A78 := SA_bk p_8 (fun q => ((p_7).2.1 q).1) p85; have hBR := BRs_nx (c := c) (by omega) (by omega) rfl hck (BRs_e (fun r r1 r2 => by rw [eA70, uA_ne (by omega)]) iv_9) (p84).2.1 p86; have hUB := UI_ub p84; have hPE := PE_up (i := many + 1) (v := us2_79) sf89
      refine jx_inc (pc_q := 55) (l_q := jSto1 L 2 (.int (i32 ((many + (1)))))) (x := many) rfl gL_2 (by decide) rfl rfl ?_
      obtain ⟨L90, eL90⟩ : ∃ q, q = jSto1 L 2 (.int (i32 ((many + (1))))) := ⟨_, rfl⟩
      rw [← eL90]
      have gL90_0 : jGet L90 0 = some (.ref 66) := eL90 ▸ jg_ne (by decide) gL_0 rfl
      have gL90_1 : jGet L90 1 = some (.int (i32 (n))) := eL90 ▸ jg_ne (by decide) gL_1 rfl
      have gL90_3 : jGet L90 3 = some (.int (i32 (c))) := eL90 ▸ jg_ne (by decide) gL_3 rfl
      have gL90_2 : jGet L90 2 = some (.int (i32 ((many + (1))))) := eL90 ▸ jg_eq
      refine jx_ld (pc_q := 56) (l_q := L90) (st_q := [.ref 66]) rfl (jl_aloadn gL90_0) ?_
      refine jr_get (pc_q := 59) (i := 39) (v := .ref 89) rfl rfl (by decide) rfl rfl ?_
      refine jx_ld (pc_q := 60) (l_q := L90) (st_q := [.int (i32 (c)), .ref 89]) rfl (jl_iloadn gL90_3) ?_
      have b91 : (-2147483648 : Int) ≤ T0 22 (c).toNat ∧ T0 22 (c).toNat ≤ 2147483647 := hWT.2 22 _
      refine jr_ldv (pc_q := 61) (i := 22) (m := 7000) (z := c) (y := T0 22 (c).toNat) rfl (by decide) rfl (by decide) (by omega) (by omega) rfl (show A78 22 (c).toNat = T0 22 (c).toNat from (congrFun ((hF81.2 22 rfl).trans (((congrFun eA70 22).trans (uA_ne (by decide))).trans ((hFx.2 22 rfl).trans (p_0 22 rfl)))) _)) ?_
      refine jx_ld (pc_q := 62) (l_q := jSto1 L90 3 (.int (i32 (T0 22 (c).toNat)))) (st_q := []) rfl rfl ?_
      obtain ⟨L92, eL92⟩ : ∃ q, q = jSto1 L90 3 (.int (i32 (T0 22 (c).toNat))) := ⟨_, rfl⟩
      rw [← eL92]
      have gL92_0 : jGet L92 0 = some (.ref 66) := eL92 ▸ jg_ne (by decide) gL90_0 rfl
      have gL92_1 : jGet L92 1 = some (.int (i32 (n))) := eL92 ▸ jg_ne (by decide) gL90_1 rfl
      have gL92_2 : jGet L92 2 = some (.int (i32 ((many + (1))))) := eL92 ▸ jg_ne (by decide) gL90_2 rfl
      have gL92_3 : jGet L92 3 = some (.int (i32 (T0 22 (c).toNat))) := eL92 ▸ jg_eq
      refine jx_go (tg := 25) rfl rfl ?_
      exact ih25 _ (by omega) L92 G77 A78 ((many + (1))) (T0 22 (c).toNat) (us2_79) ((upf b (many + 1) us2_79)) rfl gL92_0 gL92_1 gL92_2 gL92_3 hW80 hF88 ((e82)) (((hF81.1 67 rfl).trans (fx_67))) (by omega) (by omega) (by omega) (by omega) ((kid_n iv_0 (by omega) hck rfl)) (by omega) (by omega) (by omega) (hUB) (hSA3) (hPE) (hBR)
set_option maxRecDepth 20000 in
set_option maxHeartbeats 4000000 in
theorem c_checkPar {X : jX} {dd : Nat} {T0 : Nat → Nat → Int} {Sn Bu : Int → Int} {Vs : Nat → Prop} {sb pb : Int} {Fm : Int → Int → Int → Prop} {k : Nat} {c0 c1 : jC} {G : Nat → Int} {A : Nat → Nat → Int} {T : jH} {n : Int} {hi s0 s1 : Int} {wl mk lnn : Int} (hd : 2 * k + 71 ≤ dd) (hW : Wk G A) (e_wl : G 67 = wl) (e_mk : A 28 (n).toNat = mk) (e_lnn : A 16 (n).toNat = lnn) (h_n : (-2147483648 : Int) ≤ n ∧ n ≤ 2147483647) (p_0 : TA T0 A) (p_1 : hi ≤ 6999) (p_2 : sb ≤ 202) (p_3 : 0 ≤ s0) (p_4 : s1 ≤ sb) (p_5 : 0 ≤ n) (p_6 : n < hi) (p_7 : KW T0 sb pb k Vs (n) (hi) (s0) (s1)) (p_8 : VB (Vs) (s0)) (p_9 : SA T0 Vs Sn A) (p_10 : BUr T0 Bu pb A) (p_11 : Fbd Fm 7324) (p_12 : (∀ i : Nat, (i : Int) < mny T0 n → vP T0 Bu k (sB T0 Sn n i) (fun s al e _ => Fm s al e) (kid T0 n i))) (p_13 : T0 15 (n).toNat = 28 ∨ T0 15 (n).toNat = 29) (p_14 : 0 ≤ lnn) (p_15 : -1 ≤ wl ∧ wl ≤ 3000) (p_16 : (k : Int) ≤ 18) : wk X dd 334 [.ref 66, .int (i32 n)] (rV c0 c1 G A T) (fun o V_q => ∃ (G_q : Nat → Int) (A_q : Nat → Nat → Int) (wl2 : Int), V_q = rV c0 c1 G_q A_q T ∧ o = .inl none ∧ Wk G_q A_q ∧ Fr [61, 62, 67] [13, 39, 40, 41, 42, 43] G A G_q A_q ∧ G_q 67 = wl2 ∧ (((wl2 = wl) ∧ (SA T0 Vs Sn A_q) ∧ (PKO T0 Bu Sn k (n) (mk))) ∨ ((0 ≤ wl2 ∧ wl2 ≤ 3000) ∧ (SA T0 Vs Sn A_q)))) := by
  obtain ⟨d, rfl⟩ : ∃ d, dd = d + 1 := ⟨dd - 1, by omega⟩
  refine wk_of (e := jm334) rfl (Nat.le_of_ble_eq_true rfl) ?_
  show wj X d jm334 (0, [(0, .ref 66), (1, .int (i32 (n)))], [], rV c0 c1 G A T) _
  have hF0 : Fr [61, 62, 67] [13, 39, 40, 41, 42, 43] G A G A := Fr_rf
  have b_wl : (-2147483648 : Int) ≤ wl ∧ wl ≤ 2147483647 := e_wl ▸ hW.1 67
  have b_mk : (-2147483648 : Int) ≤ mk ∧ mk ≤ 2147483647 := e_mk ▸ hW.2 28 _
  have b_lnn : (-1 : Int) ≤ lnn ∧ lnn ≤ 3000 := e_lnn ▸ hW.2 16 _
  have hWT := TA_w hW p_0
  have hkw := (p_7).1; have hk1 := hkw.1; have hk2 := hkw.2
  refine jx_ld (pc_q := 1) (l_q := [(0, .ref 66), (1, .int (i32 (n)))]) (st_q := [.ref 66]) rfl (jl_aloadn rfl) ?_
  refine jx_ar (pc_q := 2) (st_q := [.int (i32 (0)), .ref 66]) rfl rfl rfl rfl ?_
  refine jr_put (pc_q := 5) (i := 61) (z := 0) rfl rfl (by decide) rfl rfl rfl rfl rfl rfl ?_
  have hW93 : Wk (uG G 61 (0)) A := Wk_g hW (show (-2147483648 : Int) ≤ 0 by omega) (show 0 ≤ (2147483647 : Int) by omega)
  have hF94 := Fr_g (z := 0) (i := 61) hF0 (by decide)
  refine jx_ar (pc_q := 6) (st_q := [.int (i32 (0))]) rfl rfl rfl rfl ?_
  refine jx_ld (pc_q := 7) (l_q := jSto1 [(0, .ref 66), (1, .int (i32 (n)))] 2 (.int (i32 (0)))) (st_q := []) rfl rfl ?_
  obtain ⟨L95, eL95⟩ : ∃ q, q = jSto1 [(0, .ref 66), (1, .int (i32 (n)))] 2 (.int (i32 (0))) := ⟨_, rfl⟩
  rw [← eL95]
  have gL95_0 : jGet L95 0 = some (.ref 66) := eL95 ▸ jg_ne (by decide) (rfl : jGet [(0, .ref 66), (1, .int (i32 (n)))] 0 = some (.ref 66)) rfl
  have gL95_1 : jGet L95 1 = some (.int (i32 (n))) := eL95 ▸ jg_ne (by decide) (rfl : jGet [(0, .ref 66), (1, .int (i32 (n)))] 1 = some (.int (i32 (n)))) rfl
  have gL95_2 : jGet L95 2 = some (.int (i32 (0))) := eL95 ▸ jg_eq
  refine jx_ld (pc_q := 8) (l_q := L95) (st_q := [.ref 66]) rfl (jl_aloadn gL95_0) ?_
  refine jr_get (pc_q := 11) (i := 32) (v := .ref 82) rfl rfl (by decide) rfl rfl ?_
  refine jx_ld (pc_q := 12) (l_q := L95) (st_q := [.int (i32 (n)), .ref 82]) rfl (jl_iloadn gL95_1) ?_
  have b96 : (0 : Int) ≤ T0 15 (n).toNat ∧ T0 15 (n).toNat ≤ 34 := hWT.2 15 _
  refine jr_ldv (pc_q := 13) (i := 15) (m := 7000) (z := n) (y := T0 15 (n).toNat) rfl (by decide) rfl (by decide) (by omega) (by omega) rfl (show A 15 (n).toNat = T0 15 (n).toNat from (congrFun (p_0 15 rfl) _)) ?_
  refine jx_ar (pc_q := 15) (st_q := [.int (i32 (28)), .int (i32 (T0 15 (n).toNat))]) rfl rfl rfl rfl ?_
  refine jx_icmp_ne (pc_q := 18) (tg := 68) rfl rfl rfl (Int.le_trans (by decide : (-2147483648 : Int) ≤ 0) b96.1) (Int.le_trans b96.2 (by decide : (34 : Int) ≤ 2147483647)) (by decide) (by decide) (fun h97 => ?_) (fun h97 => ?_)
  · have _q := h97
    have hkd : T0 15 (n).toNat = 29 := (by omega)
    refine jx_ar (pc_q := 69) (st_q := [.int (i32 (0))]) rfl rfl rfl rfl ?_
    refine jx_ld (pc_q := 70) (l_q := jSto1 L95 3 (.int (i32 (0)))) (st_q := []) rfl rfl ?_
    obtain ⟨L98, eL98⟩ : ∃ q, q = jSto1 L95 3 (.int (i32 (0))) := ⟨_, rfl⟩
    rw [← eL98]
    have gL98_0 : jGet L98 0 = some (.ref 66) := eL98 ▸ jg_ne (by decide) gL95_0 rfl
    have gL98_1 : jGet L98 1 = some (.int (i32 (n))) := eL98 ▸ jg_ne (by decide) gL95_1 rfl
    have gL98_2 : jGet L98 2 = some (.int (i32 (0))) := eL98 ▸ jg_ne (by decide) gL95_2 rfl
    have gL98_3 : jGet L98 3 = some (.int (i32 (0))) := eL98 ▸ jg_eq
    exact c_checkPar_at_70 (X := X) (d := d) (T0 := T0) (Sn := Sn) (Bu := Bu) (Vs := Vs) (sb := sb) (pb := pb) (Fm := Fm) (k := k) (c0 := c0) (c1 := c1) (G := G) (A := A) (T := T) (n := n) (hi := hi) (s0 := s0) (s1 := s1) (wl := wl) (mk := mk) (lnn := lnn) (hd := hd) (hW := hW) (e_wl := e_wl) (e_mk := e_mk) (e_lnn := e_lnn) (h_n := h_n) (p_0 := p_0) (p_1 := p_1) (p_2 := p_2) (p_3 := p_3) (p_4 := p_4) (p_5 := p_5) (p_6 := p_6) (p_7 := p_7) (p_8 := p_8) (p_9 := p_9) (p_10 := p_10) (p_11 := p_11) (p_12 := p_12) (p_13 := p_13) (p_14 := p_14) (p_15 := p_15) (p_16 := p_16) _ L98 (uG G 61 (0)) A (0) (0) (0) ((fun _ => 0)) rfl gL98_0 gL98_1 gL98_2 gL98_3 hW93 hF94 (rfl) ((e_wl)) (by omega) (by omega) (by omega) (by omega) (by omega) (by omega) (by omega) (by omega) ((UB_0 (by omega))) (p_9) ((PE_0 (by omega))) ((BRs_0 (by omega) (by omega)))
  · have _q := h97
    have hkd : T0 15 (n).toNat = 28 := (by omega)
    refine jx_ld (pc_q := 19) (l_q := L95) (st_q := [.ref 66]) rfl (jl_aloadn gL95_0) ?_
    refine jr_get (pc_q := 22) (i := 38) (v := .ref 88) rfl rfl (by decide) rfl rfl ?_
    refine jx_ld (pc_q := 23) (l_q := L95) (st_q := [.int (i32 (n)), .ref 88]) rfl (jl_iloadn gL95_1) ?_
    have b99 : (-2147483648 : Int) ≤ T0 21 (n).toNat ∧ T0 21 (n).toNat ≤ 2147483647 := hWT.2 21 _
    refine jr_ldv (pc_q := 24) (i := 21) (m := 7000) (z := n) (y := T0 21 (n).toNat) rfl (by decide) rfl (by decide) (by omega) (by omega) rfl (show A 21 (n).toNat = T0 21 (n).toNat from (congrFun (p_0 21 rfl) _)) ?_
    refine jx_ld (pc_q := 25) (l_q := jSto1 L95 3 (.int (i32 (T0 21 (n).toNat)))) (st_q := []) rfl rfl ?_
    obtain ⟨L100, eL100⟩ : ∃ q, q = jSto1 L95 3 (.int (i32 (T0 21 (n).toNat))) := ⟨_, rfl⟩
    rw [← eL100]
    have gL100_0 : jGet L100 0 = some (.ref 66) := eL100 ▸ jg_ne (by decide) gL95_0 rfl
    have gL100_1 : jGet L100 1 = some (.int (i32 (n))) := eL100 ▸ jg_ne (by decide) gL95_1 rfl
    have gL100_2 : jGet L100 2 = some (.int (i32 (0))) := eL100 ▸ jg_ne (by decide) gL95_2 rfl
    have gL100_3 : jGet L100 3 = some (.int (i32 (T0 21 (n).toNat))) := eL100 ▸ jg_eq
    exact c_checkPar_at_25 (X := X) (d := d) (T0 := T0) (Sn := Sn) (Bu := Bu) (Vs := Vs) (sb := sb) (pb := pb) (Fm := Fm) (k := k) (c0 := c0) (c1 := c1) (G := G) (A := A) (T := T) (n := n) (hi := hi) (s0 := s0) (s1 := s1) (wl := wl) (mk := mk) (lnn := lnn) (hd := hd) (hW := hW) (e_wl := e_wl) (e_mk := e_mk) (e_lnn := e_lnn) (h_n := h_n) (p_0 := p_0) (p_1 := p_1) (p_2 := p_2) (p_3 := p_3) (p_4 := p_4) (p_5 := p_5) (p_6 := p_6) (p_7 := p_7) (p_8 := p_8) (p_9 := p_9) (p_10 := p_10) (p_11 := p_11) (p_12 := p_12) (p_13 := p_13) (p_14 := p_14) (p_15 := p_15) (p_16 := p_16) _ L100 (uG G 61 (0)) A (0) (T0 21 (n).toNat) (0) ((fun _ => 0)) rfl gL100_0 gL100_1 gL100_2 gL100_3 hW93 hF94 (rfl) ((e_wl)) (by omega) (by omega) (by omega) (by omega) ((kid_28 (j := 0) hkd).symm) (by omega) (by omega) (by omega) ((UB_0 (by omega))) (p_9) ((PE_0 (by omega))) ((BRs_0 (by omega) (by omega)))
