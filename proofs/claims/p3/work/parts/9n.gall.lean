/-! the code of every process keeps the rules -/
theorem Eg_x {T : Nat → Nat → Int} {F : Int → Int} {nw : Int} {V V_q : Nat → Prop} {U : Us} {z f f_q : Int} (h : Eg T F nw V U z f) (hf : f ≤ f_q) (hV : ∀ s, V_q s → V s ∨ T 7 s = 9) : Eg T F nw V_q U z f_q := by
  obtain ⟨g1, g2, g3, g4⟩ := h
  have v : ∀ s, V_q s → T 7 s ≠ 9 → V s := fun s hs k => by
    rcases hV s hs with w | w
    · exact w
    · exact absurd w k
  refine ⟨fun s s_q hs hs_q ne k k_q => g1 s s_q (v s hs (by omega)) (v s_q hs_q (by omega)) ne k k_q, fun s hs k => ?_, fun s s_q hs hs_q ne us us' k1 k2 k3 k4 => g3 s s_q (v s hs (by omega)) (v s_q hs_q (by omega)) ne us us' k1 k2 k3 k4, ?_⟩
  · obtain ⟨x1, x2, x3, x4⟩ := g2 s (v s hs (by omega)) k
    exact ⟨x1, x2, x3, fun q => by rcases x4 q with x4 | x4; exact Or.inl (by omega); exact Or.inr x4⟩
  · rcases g4 with g4 | g4
    · exact Or.inl (fun s hs k => g4 s (v s hs (by omega)) k)
    · refine Or.inr (fun s al e b hs hu => ?_)
      by_cases k9 : T 7 s = 9
      · exact Or.inl (by omega)
      · exact g4 s al e b (v s hs k9) hu
theorem En_x {T : Nat → Nat → Int} {F : Int → Int} {nw : Int} {V V_q : Nat → Prop} {U : Us} {c : Cx} {f f_q : Int} (h : En T F nw V U c f) (hf : f ≤ f_q) (hV : ∀ s : Nat, V_q s → V s ∨ (T 7 s = 9 ∧ 0 ≤ wd T F nw (s : Int) ∧ wd T F nw (s : Int) ≤ 4000)) : En T F nw V_q U c f_q := by
  obtain ⟨e1, e2, e3, e4, e5, e6, e7, e8⟩ := h
  have v : ∀ s, V_q s → T 7 s ≠ 9 → V s := fun s hs k => by
    rcases hV s hs with w | w
    · exact w
    · exact absurd w.1 k
  refine ⟨fun s hs => ⟨fun k => (e1 s (v s hs (by omega))).1 k, fun k => (e1 s (v s hs (by omega))).2 k⟩, fun s al e b hs hu => ⟨fun k => (e2 s al e b (v s hs (by omega)) hu).1 k, fun k => (e2 s al e b (v s hs (by omega)) hu).2.1 k, fun k => (e2 s al e b (v s hs (by omega)) hu).2.2.1 k, fun k => (e2 s al e b (v s hs (by omega)) hu).2.2.2.1 k, fun k k_q => (e2 s al e b (v s hs (by omega)) hu).2.2.2.2 k k_q⟩, Bf_m e3 hf, by omega, e5, e6, ⟨e7.1, fun s hs k => ?_⟩, fun s hs k => e8 s (v s hs (by omega)) k⟩
  rcases hV s hs with w | w
  · exact e7.2 s w k
  · have := e7.1
    omega
theorem Eg_d {T : Nat → Nat → Int} {F : Int → Int} {nw s0 z f : Int} {V : Nat → Prop} {U : Us} {m : Nat} (h : Eg T F nw V U z f) (hs0 : 0 ≤ s0) (hf : 1 ≤ f) (hV : ∀ s : Nat, V s → (s : Int) < s0) (hd : ∀ j : Nat, j < m → T 9 (s0 + (j : Int)).toNat = f + zS T s0 j ∧ T 10 (s0 + (j : Int)).toNat = nw) (hw : wD T s0 (s0 + (m : Int))) (hz : f + zS T s0 m ≤ z) : Eg T F nw (Vd V s0 (s0 + (m : Int))) (Ud U s0 (s0 + (m : Int))) z (f + zS T s0 m) := by
  obtain ⟨g1, g2, g3, g4⟩ := h
  have pos : ∀ j : Nat, j < m → 1 ≤ T 8 (s0 + (j : Int)).toNat := fun j hj => (hw (s0 + (j : Int)).toNat (by omega) (by omega)).2.2.1
  have mono : ∀ {j k : Nat}, j ≤ k → k ≤ m → 0 ≤ zS T s0 j ∧ zS T s0 j ≤ zS T s0 k := fun {j k} h1 h2 => zS_le (fun i hi => by have := pos i (by omega); omega) h1
  -- a new name: which, its words
  have new : ∀ s : Nat, s0 ≤ (s : Int) → (s : Int) < s0 + (m : Int) → ∃ j : Nat, j < m ∧ (s : Int) = s0 + (j : Int) ∧ wd T F nw (s : Int) = f + zS T s0 j ∧ T 8 s = zS T s0 (j + 1) - zS T s0 j ∧ 1 ≤ T 7 s ∧ T 7 s ≤ 4 ∧ 1 ≤ T 8 s ∧ (T 7 s = 3 → T 8 s = 1) := fun s h1 h2 => by
    have es : (s0 + (((s : Int) - s0).toNat : Int)).toNat = s := by omega
    have d := hd ((s : Int) - s0).toNat (by omega)
    rw [es] at d
    have w := hw s h1 h2
    refine ⟨((s : Int) - s0).toNat, by omega, by omega, ?_, ?_, w.1, w.2.1, w.2.2.1, fun k => w.2.2.2.2 (Or.inr k)⟩
    · unfold wd
      have es2 : ((s : Int)).toNat = s := by omega
      rw [es2, d.1, d.2]
      omega
    · show T 8 s = zS T s0 ((s : Int) - s0).toNat + T 8 (s0 + (((s : Int) - s0).toNat : Int)).toNat - zS T s0 ((s : Int) - s0).toNat
      rw [es]
      omega
  have mm := mono (Nat.zero_le m) (Nat.le_refl m)
  have m0 : zS T s0 0 = 0 := rfl
  have oldnew : ∀ s s_q : Nat, V s → s0 ≤ (s_q : Int) → (s_q : Int) < s0 + (m : Int) → (T 7 s = 3 ∨ T 7 s = 4 ∨ T 7 s = 8) → ¬ Ov (wd T F nw (s : Int)) (T 8 s) (wd T F nw (s_q : Int)) (T 8 s_q) := fun s s_q hs h1 h2 k v => by
    obtain ⟨j, hj, _, w1, w2, _⟩ := new s_q h1 h2
    obtain ⟨x1, x2, x3, x4⟩ := g2 s hs (by omega)
    have x4 := x4 k
    have a := mono (Nat.zero_le j) (by omega : j ≤ m)
    have b := mono (Nat.le_refl (j + 1)) (by omega : j + 1 ≤ m)
    have b2 := mono (by omega : j + 1 ≤ m) (Nat.le_refl m)
    unfold Ov at v
    omega
  refine ⟨fun s s_q hs hs_q ne k k_q => ?_, fun s hs k => ?_, fun s s_q hs hs_q ne us us' k1 k2 k3 k4 => ?_, ?_⟩
  · rcases hs with hs | hs <;> rcases hs_q with hs_q | hs_q
    · exact g1 s s_q hs hs_q ne k k_q
    · exact oldnew s s_q hs hs_q.1 hs_q.2 k
    · intro v
      refine oldnew s_q s hs_q hs.1 hs.2 k_q ?_
      unfold Ov at v ⊢
      omega
    · obtain ⟨j, hj, ej, w1, w2, _⟩ := new s hs.1 hs.2
      obtain ⟨j_q, hj', ej', w1', w2', _⟩ := new s_q hs_q.1 hs_q.2
      intro v
      unfold Ov at v
      by_cases lt : j < j_q
      · have := mono (by omega : j + 1 ≤ j_q) (by omega : j_q ≤ m)
        omega
      · have := mono (by omega : j_q + 1 ≤ j) (by omega : j ≤ m)
        omega
  · rcases hs with hs | hs
    · obtain ⟨x1, x2, x3, x4⟩ := g2 s hs k
      exact ⟨x1, x2, x3, fun q => by rcases x4 q with x4 | x4; exact Or.inl (by omega); exact Or.inr x4⟩
    · obtain ⟨j, hj, _, w1, w2, w3, w4, w5, w6⟩ := new s hs.1 hs.2
      have a := mono (Nat.zero_le j) (by omega : j ≤ m)
      have b := mono (by omega : j + 1 ≤ m) (Nat.le_refl m)
      refine ⟨by omega, w5, fun q => ?_, fun _ => Or.inl (by omega)⟩
      rcases q with q | q
      · exact w6 q
      · omega
  · rcases hs with hs | hs
    · rcases hs_q with hs_q | hs_q
      · have old : ∀ x : Nat, V x → (∃ al e b, Ud U s0 (s0 + (m : Int)) (x : Int) al e b) → ∃ al e b, U (x : Int) al e b := fun x hx ⟨al, e, b, y⟩ => by
          rcases y with y | y
          · exact ⟨al, e, b, y⟩
          · have := hV x hx
            omega
        exact g3 s s_q hs hs_q ne (old s hs us) (old s_q hs_q us') k1 k2 k3 k4
      · obtain ⟨j, hj, _, w1, w2, w3, w4, _⟩ := new s_q hs_q.1 hs_q.2
        omega
    · obtain ⟨j, hj, _, w1, w2, w3, w4, _⟩ := new s hs.1 hs.2
      omega
  · rcases g4 with g4 | g4
    · refine Or.inl (fun s hs k => ?_)
      rcases hs with hs | hs
      · exact g4 s hs k
      · obtain ⟨j, hj, _, w1, w2, w3, w4, _⟩ := new s hs.1 hs.2
        omega
    · refine Or.inr (fun s al e b hs hu => ?_)
      rcases hs with hs | hs
      · rcases hu with hu | hu
        · exact g4 s al e b hs hu
        · have := hV s hs
          omega
      · obtain ⟨j, hj, _, w1, w2, w3, w4, _⟩ := new s hs.1 hs.2
        exact Or.inl (by omega)
theorem wSt_22 {T : Nat → Nat → Int} {sb pb : Int} {R : (Nat → Prop) → Int → Int → Int → Int → Int → Prop} {V : Nat → Prop} {p lo hi t0 s1 : Int} (h : wSt T sb pb R V p lo hi t0 s1) (k : T 15 p.toNat = 22) : wR T V sb 20 0 (T 17 p.toNat) lo p ∧ wE T V sb 20 (T 18 p.toNat) (p + 1) hi := by
  rcases h with q | q | q | q | q | q | q | q | q | q | q | q
  · have := q.1
    omega
  · exact q.2.2
  · have := q.1
    omega
  · have := q.1
    omega
  · have := q.1
    omega
  · have := q.1
    omega
  · have := q.1
    omega
  · have := q.1
    omega
  · have := q.1
    omega
  · have := q.1
    omega
  · have := q.1
    omega
  · have := q.1
    omega
theorem wSt_23 {T : Nat → Nat → Int} {sb pb : Int} {R : (Nat → Prop) → Int → Int → Int → Int → Int → Prop} {V : Nat → Prop} {p lo hi t0 s1 : Int} (h : wSt T sb pb R V p lo hi t0 s1) (k : T 15 p.toNat = 23) : wR T V sb 20 1 (T 17 p.toNat) lo p ∧ wE T V sb 20 (T 18 p.toNat) (p + 1) hi := by
  rcases h with q | q | q | q | q | q | q | q | q | q | q | q
  · have := q.1
    omega
  · have := q.1
    omega
  · exact q.2.2
  · have := q.1
    omega
  · have := q.1
    omega
  · have := q.1
    omega
  · have := q.1
    omega
  · have := q.1
    omega
  · have := q.1
    omega
  · have := q.1
    omega
  · have := q.1
    omega
  · have := q.1
    omega
theorem wSt_24 {T : Nat → Nat → Int} {sb pb : Int} {R : (Nat → Prop) → Int → Int → Int → Int → Int → Prop} {V : Nat → Prop} {p lo hi t0 s1 : Int} (h : wSt T sb pb R V p lo hi t0 s1) (k : T 15 p.toNat = 24) : wR T V sb 20 1 (T 17 p.toNat) lo p ∧ wR T V sb 20 0 (T 18 p.toNat) (p + 1) hi := by
  rcases h with q | q | q | q | q | q | q | q | q | q | q | q
  · have := q.1
    omega
  · have := q.1
    omega
  · have := q.1
    omega
  · exact q.2.2
  · have := q.1
    omega
  · have := q.1
    omega
  · have := q.1
    omega
  · have := q.1
    omega
  · have := q.1
    omega
  · have := q.1
    omega
  · have := q.1
    omega
  · have := q.1
    omega
theorem wSt_25 {T : Nat → Nat → Int} {sb pb : Int} {R : (Nat → Prop) → Int → Int → Int → Int → Int → Prop} {V : Nat → Prop} {p lo hi t0 s1 : Int} (h : wSt T sb pb R V p lo hi t0 s1) (k : T 15 p.toNat = 25) : 0 ≤ T 17 p.toNat ∧ T 17 p.toNat < pb ∧ ∃ l, CH T (T 21 p.toNat) l ∧ (l.length : Int) = T 30 (T 17 p.toNat).toNat ∧ wAs T V sb (T 29 (T 17 p.toNat).toNat) l (p + 1) hi := by
  rcases h with q | q | q | q | q | q | q | q | q | q | q | q
  · have := q.1
    omega
  · have := q.1
    omega
  · have := q.1
    omega
  · have := q.1
    omega
  · exact q.2.2
  · have := q.1
    omega
  · have := q.1
    omega
  · have := q.1
    omega
  · have := q.1
    omega
  · have := q.1
    omega
  · have := q.1
    omega
  · have := q.1
    omega
theorem wSt_26 {T : Nat → Nat → Int} {sb pb : Int} {R : (Nat → Prop) → Int → Int → Int → Int → Int → Prop} {V : Nat → Prop} {p lo hi t0 s1 : Int} (h : wSt T sb pb R V p lo hi t0 s1) (k : T 15 p.toNat = 26) : ∃ l, CH T (T 21 p.toNat) l ∧ wCs (R V) l (p + 1) hi t0 s1 := by
  rcases h with q | q | q | q | q | q | q | q | q | q | q | q
  · have := q.1
    omega
  · have := q.1
    omega
  · have := q.1
    omega
  · have := q.1
    omega
  · have := q.1
    omega
  · exact q.2
  · have := q.1
    omega
  · have := q.1
    omega
  · have := q.1
    omega
  · have := q.1
    omega
  · have := q.1
    omega
  · have := q.1
    omega
theorem wSt_27 {T : Nat → Nat → Int} {sb pb : Int} {R : (Nat → Prop) → Int → Int → Int → Int → Int → Prop} {V : Nat → Prop} {p lo hi t0 s1 : Int} (h : wSt T sb pb R V p lo hi t0 s1) (k : T 15 p.toNat = 27) : T 17 p.toNat = t0 ∧ t0 < s1 ∧ T 7 t0.toNat = 9 ∧ ∃ a b, p + 1 ≤ a ∧ a ≤ b ∧ b ≤ hi ∧ wE T V sb 20 (T 19 p.toNat) (p + 1) a ∧ wE T V sb 20 (T 20 p.toNat) a b ∧ R (Vu V t0) (T 21 p.toNat) b hi (t0 + 1) s1 := by
  rcases h with q | q | q | q | q | q | q | q | q | q | q | q
  · have := q.1
    omega
  · have := q.1
    omega
  · have := q.1
    omega
  · have := q.1
    omega
  · have := q.1
    omega
  · have := q.1
    omega
  · exact q.2
  · have := q.1
    omega
  · have := q.1
    omega
  · have := q.1
    omega
  · have := q.1
    omega
  · have := q.1
    omega
theorem wSt_28 {T : Nat → Nat → Int} {sb pb : Int} {R : (Nat → Prop) → Int → Int → Int → Int → Int → Prop} {V : Nat → Prop} {p lo hi t0 s1 : Int} (h : wSt T sb pb R V p lo hi t0 s1) (k : T 15 p.toNat = 28) : 2 ≤ T 18 p.toNat := by
  rcases h with q | q | q | q | q | q | q | q | q | q | q | q
  · have := q.1
    omega
  · have := q.1
    omega
  · have := q.1
    omega
  · have := q.1
    omega
  · have := q.1
    omega
  · have := q.1
    omega
  · have := q.1
    omega
  · exact q.2.1
  · have := q.1
    omega
  · have := q.1
    omega
  · have := q.1
    omega
  · have := q.1
    omega
theorem wSt_30 {T : Nat → Nat → Int} {sb pb : Int} {R : (Nat → Prop) → Int → Int → Int → Int → Int → Prop} {V : Nat → Prop} {p lo hi t0 s1 : Int} (h : wSt T sb pb R V p lo hi t0 s1) (k : T 15 p.toNat = 30) : ∃ l, l ≠ [] ∧ CH T (T 21 p.toNat) l ∧ wCs (wI T V sb (R V)) l (p + 1) hi t0 s1 := by
  rcases h with q | q | q | q | q | q | q | q | q | q | q | q
  · have := q.1
    omega
  · have := q.1
    omega
  · have := q.1
    omega
  · have := q.1
    omega
  · have := q.1
    omega
  · have := q.1
    omega
  · have := q.1
    omega
  · have := q.1
    omega
  · have := q.1
    omega
  · exact q.2
  · have := q.1
    omega
  · have := q.1
    omega
theorem wSt_31 {T : Nat → Nat → Int} {sb pb : Int} {R : (Nat → Prop) → Int → Int → Int → Int → Int → Prop} {V : Nat → Prop} {p lo hi t0 s1 : Int} (h : wSt T sb pb R V p lo hi t0 s1) (k : T 15 p.toNat = 31) : ∃ a, p + 1 ≤ a ∧ a ≤ hi ∧ wE T V sb 20 (T 17 p.toNat) (p + 1) a ∧ R V (T 21 p.toNat) a hi t0 s1 := by
  rcases h with q | q | q | q | q | q | q | q | q | q | q | q
  · have := q.1
    omega
  · have := q.1
    omega
  · have := q.1
    omega
  · have := q.1
    omega
  · have := q.1
    omega
  · have := q.1
    omega
  · have := q.1
    omega
  · have := q.1
    omega
  · have := q.1
    omega
  · have := q.1
    omega
  · exact q.2
  · have := q.1
    omega
theorem wSt_32 {T : Nat → Nat → Int} {sb pb : Int} {R : (Nat → Prop) → Int → Int → Int → Int → Int → Prop} {V : Nat → Prop} {p lo hi t0 s1 : Int} (h : wSt T sb pb R V p lo hi t0 s1) (k : T 15 p.toNat = 32) : 1 ≤ T 18 p.toNat ∧ T 18 p.toNat ≤ 8 ∧ ∃ l, CH T (T 21 p.toNat) l ∧ (l.length : Int) = T 18 p.toNat ∧ wCs (wG T V sb (R V)) l (p + 1) hi t0 s1 := by
  rcases h with q | q | q | q | q | q | q | q | q | q | q | q
  · have := q.1
    omega
  · have := q.1
    omega
  · have := q.1
    omega
  · have := q.1
    omega
  · have := q.1
    omega
  · have := q.1
    omega
  · have := q.1
    omega
  · have := q.1
    omega
  · have := q.1
    omega
  · have := q.1
    omega
  · have := q.1
    omega
  · exact q.2
/-- a process: from its end on to its begin -/
theorem gP_g {T C : Nat → Nat → Int} {Q Bu : Int → Int} {N sb pb : Int} (hM : ∀ i j : Int, 0 ≤ i → i ≤ j → j ≤ N → C 49 i.toNat ≤ C 49 j.toNat) (hQ : ∀ q : Int, 0 ≤ q → q < pb → (0 < Q q ∧ ∀ P, Gd (Kc C) N P (C 50 (Q q).toNat) (pcx T Bu q)) ∧ 1 + T 30 q.toNat ≤ T 32 q.toNat ∧ 0 ≤ T 33 q.toNat ∧ wM T (T 29 q.toNat) (T 30 q.toNat) ∧ ∀ j : Int, 0 ≤ j → j < T 30 q.toNat → T 9 (T 29 q.toNat + j).toNat = 1 + j) :
    ∀ {n : Nat} {F S : Int → Int} {nw : Int} {V : Nat → Prop} {U : Us} {c : Cx} {f p k k_q l0 l1 lo hi s0 s1 : Int} {P : Int → Cx → Prop}, gP T C Q n F S nw p k k_q l0 l1 → wP T sb pb n V p lo hi s0 s1 → lP T n p f nw (cZ c) (cD c) → uP T Bu n S U p → En T F nw V U c f → Eg T F nw V U (cZ c) f → Abv c → (∀ q ∈ cCp c, 1 ≤ qN q) → cZ c ≤ 4000 → cD c ≤ 4000 → (∀ s : Nat, V s → (s : Int) < s0) → (∀ s : Nat, V s → T 7 s ≤ 9 → T 10 s ≤ nw) → 1 ≤ lo → nw + (n : Int) ≤ 100 → k_q ≤ N → Gd (Kc C) N P k_q c → Gd (Kc C) N P k c
  | 0, _, _, _, _, _, _, _, _, _, _, _, _, _, _, _, _, _, h, _, _, _, _, _, _, _, _, _, _, _, _, _, _, _ => h.elim
  | n + 1, F, S, nw, V, U, c, f, p, k, k_q, l0, l1, lo, hi, s0, s1, P, h, w, l, u, hE, hG, ab, hN, hz, hD, hV, hVW, hlo, hnw, hk, g => by
    obtain ⟨h0, a, hn, hs⟩ := h
    obtain ⟨w1, w2, w3, w4, w5, w6, w7, w8⟩ := w
    obtain ⟨l1', l2, l3⟩ := l
    have u : uS T Bu (uP T Bu n) S (Ud U (T 23 p.toNat) (T 23 p.toNat + T 24 p.toNat)) p := u
    rw [w4] at hn l1' l2 l3 u
    have em : ((T 24 p.toNat).toNat : Int) = T 24 p.toNat := by omega
    have lea := gS_le (fun _ _ _ _ _ _ _ _ w => gP_le w) hs
    obtain ⟨ra, rb, rd, md0, dw0, bf0, ff0⟩ := En_r hE
    refine gN_g hE w3 hz hn (fun j hj => l1' j hj) (by rw [em]; exact w7) l2 (by omega) (fun l hEl sub inc => ?_)
    rw [em] at hEl
    have hG1 : Eg T F nw (Vd V s0 (s0 + T 24 p.toNat)) (Ud U s0 (s0 + T 24 p.toNat)) (cZ c) (f + zS T s0 (T 24 p.toNat).toNat) := by
      have := Eg_d (m := (T 24 p.toNat).toNat) hG w3 ff0 hV (fun j hj => l1' j hj) (by rw [em]; exact w7) l2
      rw [em] at this
      exact this
    have hV1 : ∀ s : Nat, Vd V s0 (s0 + T 24 p.toNat) s → (s : Int) < s0 + T 24 p.toNat := fun s hs => by
      rcases hs with q | q
      · have := hV s q
        omega
      · exact q.2
    have hVW1 : ∀ s : Nat, Vd V s0 (s0 + T 24 p.toNat) s → T 7 s ≤ 9 → T 10 s ≤ nw := fun s hs k9 => by
      rcases hs with q | q
      · exact hVW s q k9
      · have := (l1' ((s : Int) - s0).toNat (by omega)).2
        rw [show (s0 + (((s : Int) - s0).toNat : Int)).toNat = s by omega] at this
        omega
    have ab1 : Abv (sC c l) := fun q hq => by
      rcases inc q hq with y | y
      · exact ab q y
      · exact ⟨by omega, by omega, fun _ => y.2.1⟩
    have nm : cMd c ≠ 1 := by omega
    have g1 : Gd (Kc C) N P k_q (sC c l) := Gd_w (e := c) ⟨rfl, Or.inr ⟨sub, fun q hq => ⟨(ab q hq).1, (ab q hq).2.1, fun k3 => (ab q hq).2.2 (by omega)⟩⟩, Or.inl rfl, Or.inl rfl, Or.inl rfl, rfl, by rw [ra]; exact (fun q => absurd q (by decide)), by rw [rb]; exact (fun q => absurd q (by decide)), by rw [rd]; exact (fun q => absurd q (by decide)), fun _ _ q => absurd q nm⟩ g
    have hN1 : ∀ q ∈ cCp (sC c l), 1 ≤ qN q := fun q hq => by
      rcases inc q hq with y | y
      · exact hN q y
      · exact y.2.2
    have ec : sR (sC c l) r0 r0 r0 = sC c l := (En_i hEl).symm
    obtain ⟨ra1, rb1, rd1, md1, dw1, bf1, ff1⟩ := En_r hEl
    have wf1 := En_w hEl
    have ih := @gP_g T C Q Bu N sb pb hM hQ n
    -- a process in it that sees the same names
    have one : ∀ {P : Int → Cx → Prop} {e x y u_q v' a_q b_q u0 v0 : Int}, gP T C Q n F S nw e x y u_q v' → wP T sb pb n (Vd V s0 (s0 + T 24 p.toNat)) e a_q b_q u0 v0 → p + 1 ≤ a_q → s0 + T 24 p.toNat ≤ u0 → lP T n e (f + zS T s0 (T 24 p.toNat).toNat) nw (cZ c) (cD c) → uP T Bu n S (Ud U s0 (s0 + T 24 p.toNat)) e → y ≤ N → Gd (Kc C) N P y (sC c l) → Gd (Kc C) N P x (sC c l) := fun {P e x y u_q v' a_q b_q u0 v0} q1 q2 q3 q4 q5 q6 q7 q8 => ih q1 q2 q5 q6 hEl hG1 ab1 hN1 hz hD (fun s hs => by have := hV1 s hs; omega) hVW1 (by omega) (by omega) q7 q8
    have gle : ∀ e a b u v, gP T C Q n F S nw e a b u v → a ≤ b := fun _ _ _ _ _ w => gP_le w
    obtain ⟨y1, y2, y3, y4, y5, y6, y7, y8, y9, y10⟩ := l3
    obtain ⟨u1, u2, u3, u4, u5, u6, u7, u8⟩ := u
    clear hN ab hVW hV hE hG g
    rcases hs with h | h | h | h | h | h | h | h | h | h | h | h
    · rw [← h.2]
      exact g1
    · obtain ⟨i1, i2, i3, i4⟩ := ST_k h.2
      exact Gs_d (Gs_stp i2 (by omega) wf1 i3 (Or.inl i4) md1)
    · obtain ⟨k22, x, m, _, _, q1, q2⟩ := h
      have le2 := gT_le q2
      obtain ⟨z1, z2⟩ := y1 (Or.inl k22)
      have wr := (wSt_22 w8 k22).1
      have := wr.1
      exact Gs_d (gE_0 hEl (by omega) q1 z2 (Int.le_refl _) (by omega) (Gs_d (gT_g hEl q2 wr z1 (by omega) hk g1)))
    · obtain ⟨k23, x, y, m, _, _, q1, q2, q3⟩ := h
      have le2 := gD_le q2
      have le3 := ST_le q3
      obtain ⟨z1, z2⟩ := y1 (Or.inr k23)
      have wr := (wSt_23 w8 k23).1
      have := wr.1
      exact Gs_d (gE_0 hEl (by omega) q1 z2 (Int.le_refl _) (by omega) (Gs_d (gOut_g hEl q2 q3 wr (by omega) z1 (by omega) hk (u1 k23) g1)))
    · obtain ⟨k24, x, y, m, _, _, q1, q2, q3⟩ := h
      obtain ⟨z1, z2⟩ := y2 k24
      obtain ⟨wr, wr2⟩ := wSt_24 w8 k24
      have := wr.1
      have := wr2.1
      exact Gs_d (gIn_g hEl q1 q2 q3 wr2 wr (by omega) z2 (by omega) z1 (by omega) hk (u2 k24) g1)
    · obtain ⟨k25, q1⟩ := h
      obtain ⟨z1, z2, ls, z3, z4, z5⟩ := wSt_25 w8 k25
      obtain ⟨x1, x2⟩ := y3 k25
      obtain ⟨v1, v2⟩ := u3 k25 ls z3
      obtain ⟨⟨r1, r2⟩, r3, r4, r5, r6⟩ := hQ (T 17 p.toNat) z1 z2
      exact gCl_g hEl hG1 ab1 q1 z3 z4 z5 (by omega) r3 r4 (x2 (by omega)) (x1 ls z3) r5 r6 v1 v2 r1 rfl hk (r2 P) g1
    · obtain ⟨k26, q1⟩ := h
      obtain ⟨ls, z1, z2⟩ := wSt_26 w8 k26
      refine gLs_g gle (gQ_l q1 z1) hk (fun e he x y u_q v' r1 r2 r3 => ?_) g1
      obtain ⟨a_q, b_q, u0, v0, x1, x2, x3, x4, x5⟩ := wCs_mem z2 he
      exact one r1 x5 x1 x3 (y4 k26 ls z1 e he) (u4 k26 ls z1 e he) (by omega) r3
    · obtain ⟨k27, q1⟩ := h
      obtain ⟨z1, z2, z3, x, y, z4, z5, z6, z7, z8, z9⟩ := wSt_27 w8 k27
      obtain ⟨x1, x2, x3, x4, x5, x6⟩ := y5 k27
      have vu : ∀ s : Nat, Vu (Vd V s0 (s0 + T 24 p.toNat)) (s0 + T 24 p.toNat) s → Vd V s0 (s0 + T 24 p.toNat) s ∨ (T 7 s = 9 ∧ 0 ≤ wd T F nw (s : Int) ∧ wd T F nw (s : Int) ≤ 4000 ∧ T 10 s = nw) := fun s hs => by
        rcases hs with q | q
        · exact Or.inl q
        · have es : s = (s0 + T 24 p.toNat).toNat := by omega
          have e1 : T 7 s = 9 := by rw [es]; exact z3
          have e2 : T 9 s = f + zS T s0 (T 24 p.toNat).toNat := by
            rw [es, ← z1]
            exact x1
          have e3 : T 10 s = nw := by
            rw [es, ← z1]
            exact x2
          have e4 : wd T F nw (s : Int) = f + zS T s0 (T 24 p.toNat).toNat := by
            unfold wd
            rw [show ((s : Int)).toNat = s by omega, e2, e3]
            omega
          exact Or.inr ⟨e1, by omega, by omega, e3⟩
      refine gFo_g hEl q1 x1 x3 x4 x5 hk gle (fun P x' y' u_q v' r1 r2 r3 => ?_) g1
      refine ih r1 z9 x6 (u5 (Or.inl k27)) (En_x hEl (show f + zS T s0 (T 24 p.toNat).toNat ≤ f + zS T s0 (T 24 p.toNat).toNat + 2 by omega) (fun s hs => ?_)) (Eg_x hG1 (by omega) (fun s hs => ?_)) ab1 hN1 hz hD (fun s hs => ?_) (fun s hs k9 => ?_) (by omega) (by omega) r2 r3
      · rcases vu s hs with q | q
        · exact Or.inl q
        · exact Or.inr ⟨q.1, q.2.1, q.2.2.1⟩
      · rcases vu s hs with q | q
        · exact Or.inl q
        · exact Or.inr q.1
      · rcases hs with q | q
        · have := hV1 s q
          omega
        · omega
      · rcases vu s hs with q | q
        · exact hVW1 s q k9
        · omega
    · obtain ⟨k289, q1⟩ := h
      obtain ⟨L, v1, v2⟩ := u8 k289
      rw [w4] at v1 v2
      have lS : lSt T (lP T n) p (f + zS T s0 (T 24 p.toNat).toNat) nw (cZ c) (cD c) := ⟨y1, y2, y3, y4, y5, y6, y7, y8, y9, y10⟩
      have kd : KD T sb pb n (Vd V s0 (s0 + T 24 p.toNat)) p hi (s0 + T 24 p.toNat) s1 nw (cD c) := by
        rcases k289 with k28 | k29
        · exact KD_28 k28 w8 lS (by omega)
        · exact KD_29 k29 (by omega) (by omega) w8 lS (by omega)
      obtain ⟨c1, c2, c3, c4⟩ := kd
      have ww : T 25 p.toNat = f + zS T s0 (T 24 p.toNat).toNat ∧ f + zS T s0 (T 24 p.toNat).toNat + 3 ≤ cZ c := by
        rcases k289 with k28 | k29
        · exact ⟨(y6 k28).1, (y6 k28).2.1⟩
        · exact ⟨(y7 k29).1, (y7 k29).2.1⟩
      have m2 : T 15 p.toNat ≠ 29 → 2 ≤ mny T p := fun q => by
        rcases k289 with k28 | k29
        · have z := wSt_28 w8 k28
          unfold mny
          rw [if_neg q]
          exact z
        · exact absurd k29 q
      refine gPa_g (mk := s0 + T 24 p.toNat) (L := L) hEl hG1 ab1 hN1 ww.1 ww.2 hD (by omega) c1 m2 h0 (fun j hj => ?_) (fun k29 => ?_) hV1 hVW1 (fun i hi u0 hu => (v1 i hi).2 u0 hu) v2 q1 hk (fun _ _ _ _ _ _ _ _ w => gP_le w) (fun j hj ci e1 e2 e3 e4 e5 e6 x y u_q v' r1 r2 r3 => ?_) g1
      · obtain ⟨_, _, _, x1, x2, x3, x4⟩ := c4 j hj
        exact ⟨x1, x2, x3, x4⟩
      · obtain ⟨x1, x2, x3, x4⟩ := c3 k29
        rw [x1]
        exact x4
      · obtain ⟨_, ⟨a_q, b_q, u0, v0, x1, x2, x3, x4, x5, x6⟩, x7, x8, x9, x10, x11⟩ := c4 j hj
        refine ih r1 x6 (by rw [e5, e6]; exact x7) (v1 j hj).1 e1 e2 e3 e4 (by omega) (by omega) (fun s hs => ?_) (fun s hs k9 => ?_) (by omega) (by omega) r2 r3
        · rcases hs with q | q
          · have := hV1 s q
            omega
          · have := c3 q.1
            have := x4 q.1
            omega
        · rcases hs with q | q
          · have := hVW1 s q k9
            omega
          · obtain ⟨y1', _, _, y4'⟩ := c3 q.1
            exfalso
            have : s = (s0 + T 24 p.toNat).toNat := by omega
            rw [← this] at y4'
            omega
    · obtain ⟨k30, q1⟩ := h
      obtain ⟨ls, _, z1, z2⟩ := wSt_30 w8 k30
      refine gIf_g hEl q1 z1 (fun e he => (y8 k30 ls z1 e he).1) hk gle (fun e he x y u_q v' r1 r2 r3 => ?_) g1
      obtain ⟨a_q, b_q, u0, v0, x1, x2, x3, x4, x5⟩ := wCs_mem z2 he
      obtain ⟨p1, p2, mm, p3, p4, p5, p6⟩ := x5
      exact one r1 p6 (by omega) x3 (y8 k30 ls z1 e he).2 (u6 k30 ls z1 e he) r2 r3
    · obtain ⟨k31, q1⟩ := h
      obtain ⟨x, z1, z2, z3, z4⟩ := wSt_31 w8 k31
      obtain ⟨x1, x2⟩ := y9 k31
      exact gWh_g hEl q1 x1 hk gle (fun P x' y' u_q v' r1 r2 r3 => one r1 z4 z1 (Int.le_refl _) x2 (u5 (Or.inr k31)) r2 r3) g1
    · obtain ⟨k32, q1⟩ := h
      obtain ⟨z1, z2, ls, z3, z4, z5⟩ := wSt_32 w8 k32
      obtain ⟨x1, x2, x3⟩ := y10 k32
      refine gAl_g (sb := sb) hEl ab1 x1 z1 rfl x2 h0 q1 hk hM gle (fun j hj => ?_) g1
      obtain ⟨m1, m2⟩ := CH_nx (j := j) z3 (by omega)
      obtain ⟨a_q, b_q, u0, v0, n1, n2, n3, n4, n5⟩ := wCs_mem z5 m1
      obtain ⟨p1, p2, mm, p3, p4, p5, p6⟩ := n5
      obtain ⟨t1, t2, t3, t4⟩ := x3 ls z3 _ m1
      obtain ⟨v1, v2⟩ := u7 k32 ls z3 _ m1
      refine ⟨⟨t1, fun k18 => ?_⟩, fun x y u_q v' r1 r2 r3 => ?_⟩
      · rcases p6 with ⟨_, a2, q1', q2', q3', q4'⟩ | ⟨q1', _⟩ | ⟨a2, b2, q1', q2', q3', _, q4', q5'⟩
        · have := q4'.1
          exact ⟨⟨_, _, by omega, q3'⟩, t2, v1 k18, ⟨_, _, q4'⟩, t3, by omega⟩
        · omega
        · have := q5'.1
          exact ⟨⟨_, _, by omega, q4'⟩, t2, v1 k18, ⟨_, _, q5'⟩, t3, by omega⟩
      · refine ih r1 p5 ?_ v2 (En_x hEl (show f + zS T s0 (T 24 p.toNat).toNat ≤ f + zS T s0 (T 24 p.toNat).toNat + 2 * T 18 p.toNat by omega) (fun s hs => Or.inl hs)) (Eg_x hG1 (by omega) (fun s hs => Or.inl hs)) ab1 hN1 hz hD (fun s hs => by have := hV1 s hs; omega) hVW1 (by omega) (by omega) r2 r3
        exact t4
