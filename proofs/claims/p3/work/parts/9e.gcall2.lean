/-! CALL: the arguments, the step -/
theorem Dtr_s {l l_q : List Cp} {t : Rt} {n : Int} (h : Dtr l t n) (sub : ∀ q ∈ l, q ∈ l_q) : Dtr l_q t n := by
  obtain ⟨q, hq, a⟩ := h
  exact ⟨q, sub q hq, a⟩
/-- the rights of the arguments that stand already (the first i ones) -/
def AcO (T : Nat → Nat → Int) (F S : Int → Int) (nw : Int) (V : Nat → Prop) (sb : Int) (Bu : Int → Int) (c : Cx) (ls : List Int) (pa z2 i : Int) (acc : List Cp) : Prop :=
  (∀ q ∈ acc, ∃ j : Int, 0 ≤ j ∧ j < i ∧ qO q = j - 6 - z2 ∧ ((qK q = 3 ∧ qN q = T 8 (pa + j).toNat ∧ 1 ≤ qN q ∧ Dtr (cCp c) (qR q) (qN q)) ∨ (qK q = 9 ∧ qN q = 1 ∧ qU q = Bu (pa + j) ∧ T 7 (pa + j).toNat = 8 ∧ Bu (pa + j) ≠ 0 ∧ Chr (cCp c) (qR q) (qU q) ∧ ∃ a ∈ ls, T 18 a.toNat = pa + j ∧ (∃ lo hi, wR T V sb 20 1 (T 17 a.toNat) lo hi) ∧ CrT T F S nw (T 17 a.toNat) (qR q)))) ∧
  ∀ j : Int, 0 ≤ j → j < i → (T 7 (pa + j).toNat = 6 ∨ T 7 (pa + j).toNat = 7 → ∃ q ∈ acc, qK q = 3 ∧ qO q = j - 6 - z2) ∧ (T 7 (pa + j).toNat = 8 → Bu (pa + j) ≠ 0 → ∃ q ∈ acc, qK q = 9 ∧ qO q = j - 6 - z2)
theorem AcO_n {T : Nat → Nat → Int} {F S : Int → Int} {nw : Int} {V : Nat → Prop} {sb : Int} {Bu : Int → Int} {c : Cx} {ls : List Int} {pa z2 i : Int} {acc : List Cp} (h : AcO T F S nw V sb Bu c ls pa z2 i acc) (hk : ¬ (T 7 (pa + i).toNat = 6 ∨ T 7 (pa + i).toNat = 7) ∧ (T 7 (pa + i).toNat = 8 → Bu (pa + i) = 0)) : AcO T F S nw V sb Bu c ls pa z2 (i + 1) acc := by
  refine ⟨fun q hq => ?_, fun j j0 j1 => ?_⟩
  · obtain ⟨j, a, b, r⟩ := h.1 q hq
    exact ⟨j, a, by omega, r⟩
  · by_cases e : j = i
    · subst e
      exact ⟨fun w => absurd w hk.1, fun w1 w2 => absurd (hk.2 w1) w2⟩
    · exact h.2 j j0 (by omega)
theorem AcO_c {T : Nat → Nat → Int} {F S : Int → Int} {nw : Int} {V : Nat → Prop} {sb : Int} {Bu : Int → Int} {c : Cx} {ls : List Int} {pa z2 i : Int} {acc : List Cp} {q0 : Cp} (h : AcO T F S nw V sb Bu c ls pa z2 i acc) (i0 : 0 ≤ i) (ho : qO q0 = i - 6 - z2) (hk : (qK q0 = 3 ∧ (T 7 (pa + i).toNat = 6 ∨ T 7 (pa + i).toNat = 7) ∧ qN q0 = T 8 (pa + i).toNat ∧ 1 ≤ qN q0 ∧ Dtr (cCp c) (qR q0) (qN q0)) ∨ (qK q0 = 9 ∧ qN q0 = 1 ∧ qU q0 = Bu (pa + i) ∧ T 7 (pa + i).toNat = 8 ∧ Bu (pa + i) ≠ 0 ∧ Chr (cCp c) (qR q0) (qU q0) ∧ ∃ a ∈ ls, T 18 a.toNat = pa + i ∧ (∃ lo hi, wR T V sb 20 1 (T 17 a.toNat) lo hi) ∧ CrT T F S nw (T 17 a.toNat) (qR q0))) : AcO T F S nw V sb Bu c ls pa z2 (i + 1) (q0 :: acc) := by
  refine ⟨fun q hq => ?_, fun j j0 j1 => ?_⟩
  · rcases List.mem_cons.mp hq with e | hq
    · subst e
      refine ⟨i, i0, by omega, ho, ?_⟩
      rcases hk with k | k
      · exact Or.inl ⟨k.1, k.2.2⟩
      · exact Or.inr k
    · obtain ⟨j, a, b, r⟩ := h.1 q hq
      exact ⟨j, a, by omega, r⟩
  · by_cases e : j = i
    · subst e
      refine ⟨fun w => ?_, fun w1 w2 => ?_⟩
      · rcases hk with k | k
        · exact ⟨q0, List.mem_cons_self, k.1, ho⟩
        · have := k.2.2.2.1
          omega
      · rcases hk with k | k
        · have := k.2.1
          omega
        · exact ⟨q0, List.mem_cons_self, k.1, ho⟩
    · obtain ⟨r1, r2⟩ := h.2 j j0 (by omega)
      refine ⟨fun w => ?_, fun w1 w2 => ?_⟩
      · obtain ⟨q, hq, r⟩ := r1 w
        exact ⟨q, List.mem_cons_of_mem _ hq, r⟩
      · obtain ⟨q, hq, r⟩ := r2 w1 w2
        exact ⟨q, List.mem_cons_of_mem _ hq, r⟩
theorem AcO_f {T : Nat → Nat → Int} {F S : Int → Int} {nw : Int} {V : Nat → Prop} {sb : Int} {Bu : Int → Int} {c : Cx} {ls : List Int} {pa z2 i : Int} {acc : List Cp} (h : AcO T F S nw V sb Bu c ls pa z2 i acc) (ab : Abv c) (hi : i ≤ z2) (i0 : 0 ≤ i) (hz : 1 ≤ z2) (hD : 7 + z2 ≤ cD c) {a b d : Rt} : Fre (sR (sC c (acc ++ cCp c)) a b d) (i - 6 - z2) 1 := by
  refine ⟨Or.inr ⟨by omega, by show -3 - cD c ≤ _; omega⟩, fun q hq => ?_⟩
  rcases List.mem_append.mp hq with hq | hq
  · obtain ⟨j, j0, j1, j2, r⟩ := h.1 q hq
    refine Or.inr (fun w => ?_)
    have : wN q = 1 := by
      unfold wN
      rcases r with r | r
      · rw [if_neg (by omega), if_neg (by omega)]
      · rw [if_neg (by omega), if_neg (by omega)]
    unfold Ov at w
    omega
  · obtain ⟨r1, r2, r3⟩ := ab q hq
    by_cases k5 : qK q = 5
    · exact Or.inl k5
    · have := r3 k5
      refine Or.inr (fun w => ?_)
      unfold Ov at w
      omega
/-- the arguments, one behind the other -/
theorem gAs_g {T C : Nat → Nat → Int} {F S : Int → Int} {nw N : Int} {V : Nat → Prop} {U : Us} {sb : Int} {Bu : Int → Int} {P : Int → Cx → Prop} {c : Cx} {f q pa : Int} {ls : List Int} (hE : En T F nw V U c f) (ab : Abv c) (hz : 1 ≤ T 32 q.toNat) (hD : 7 + T 32 q.toNat ≤ cD c) (hu : ∀ a ∈ ls, T 7 (T 18 a.toNat).toNat = 8 → Bu (T 18 a.toNat) ≠ 0 → uC T S U (T 17 a.toNat) (Bu (T 18 a.toNat))) (hl : ∀ a ∈ ls, lE T 22 (T 17 a.toNat) f (cZ c)) (hm : ∀ s : Int, pa ≤ s → s < pa + (ls.length : Int) → MP T s) :
    ∀ {l : List Int} {i k k_q l0 l1 lo hi : Int} {acc : List Cp}, gLs (gAr T C F S nw q) l k k_q l0 l1 → wAs T V sb (pa + i) l lo hi → 0 ≤ lo → 0 ≤ i → i + (l.length : Int) ≤ (ls.length : Int) → (ls.length : Int) < T 32 q.toNat → (∀ e ∈ l, e ∈ ls) → (∀ j : Int, i ≤ j → j < i + (l.length : Int) → T 9 (pa + j).toNat = 1 + j) → AcO T F S nw V sb Bu c ls pa (T 32 q.toNat) i acc → k_q ≤ N → (∀ acc', AcO T F S nw V sb Bu c ls pa (T 32 q.toNat) (i + (l.length : Int)) acc' → Gd (Kc C) N P k_q (sC c (acc' ++ cCp c))) → Gd (Kc C) N P k (sC c (acc ++ cCp c))
  | [], i, k, k_q, l0, l1, lo, hi, acc, h, _, _, _, _, _, _, _, ha, _, g => by
    have h : k_q = k := h.1
    subst h
    refine g acc ?_
    show AcO T F S nw V sb Bu c ls pa (T 32 q.toNat) (i + ((0 : Nat) : Int)) acc
    rw [show i + ((0 : Nat) : Int) = i by omega]
    exact ha
  | e :: l, i, k, k_q, l0, l1, lo, hi, acc, h, w, hlo, i0, hi1, hi2, sub, h9, ha, hk, g => by
    have len : ((e :: l).length : Int) = (l.length : Int) + 1 := by
      rw [List.length_cons]
      omega
    rw [len] at hi1 h9 g
    obtain ⟨a, m, _, _, ⟨b, hb, hs⟩, h4⟩ := h
    obtain ⟨mm, _, _, w1, w2⟩ := w
    obtain ⟨w3, w4, w5, w6, w7, w8, w9⟩ := w1
    have he := sub e List.mem_cons_self
    obtain ⟨i1, i2, i3, i4⟩ := ST_k hs
    rw [w6] at i4 hb
    have e9 := h9 i (Int.le_refl _) (by omega)
    have mp := hm (pa + i) (by omega) (by omega)
    have eo : kV (Kc C) b = i - 6 - T 32 q.toNat := by omega
    have hEa : En T F nw V U (sC c (acc ++ cCp c)) f := En_add hE (fun q hq => List.mem_append.mpr (Or.inr hq)) (fun q hq => by
      rcases List.mem_append.mp hq with w | w
      · obtain ⟨j, j0, j1, j2, r⟩ := ha.1 q w
        have : wN q = 1 := by
          unfold wN
          rcases r with r | r
          · rw [if_neg (by omega), if_neg (by omega)]
          · rw [if_neg (by omega), if_neg (by omega)]
        have := hE.2.2.2.1
        exact Or.inr (by omega)
      · exact Or.inl w)
    have leR : ∀ e a b u v, gAr T C F S nw q e a b u v → a ≤ b := fun e a b u v r => by
      obtain ⟨x, r1, r2⟩ := r
      have := ST_le r2
      rcases r1 with r1 | r1
      · have := gE_le r1.2
        omega
      · have := gD_le r1.2
        omega
    have le4 := gLs_le leR h4
    obtain ⟨ra, rb, rd, md, dw, bf, f1⟩ := En_r hEa
    have nm : cMd (sC c (acc ++ cCp c)) ≠ 1 := by omega
    have ec := En_i hEa
    have fr : ∀ {x y z : Rt}, Fre (sR (sC c (acc ++ cCp c)) x y z) (kV (Kc C) b) 1 := fun {x y z} => by
      rw [eo]
      exact AcO_f ha ab (by omega) i0 hz hD
    have rest : ∀ acc', AcO T F S nw V sb Bu c ls pa (T 32 q.toNat) (i + 1) acc' → Gd (Kc C) N P a (sC c (acc' ++ cCp c)) := fun acc' ha' => gAs_g hE ab hz hD hu hl hm h4 (by rw [show pa + (i + 1) = pa + i + 1 by omega]; exact w2) (by omega) (by omega) (by omega) hi2 (fun e_q he' => sub e_q (List.mem_cons_of_mem _ he')) (fun j j1 j2 => h9 j (by omega) (by omega)) ha' hk (fun acc'' q => g acc'' (by rw [show i + ((l.length : Int) + 1) = i + 1 + (l.length : Int) by omega]; exact q))
    -- with a right, without one
    have back : ∀ (acc' : List Cp) {x y z : Rt}, AcO T F S nw V sb Bu c ls pa (T 32 q.toNat) (i + 1) acc' → Gd (Kc C) N P a (sR (sC c (acc' ++ cCp c)) x y z) := fun acc' {x y z} ha' => by
      have := rest acc' ha'
      have e0 : sC c (acc' ++ cCp c) = sR (sC c (acc' ++ cCp c)) r0 r0 r0 := by
        obtain ⟨xa, xb, xc, _⟩ := En_r hE
        show (c.1, acc' ++ cCp c, (cA c, cB c, cC c), c.2.2.2) = _
        rw [xa, xb, xc]
        rfl
      rw [e0] at this
      exact Gd_r nm this
    have store0 : ∀ {x y z : Rt}, Sup (acc ++ cCp c) x → Sup (acc ++ cCp c) y → Sup (acc ++ cCp c) z → AcO T F S nw V sb Bu c ls pa (T 32 q.toNat) (i + 1) acc → Gd (Kc C) N P b (sR (sC c (acc ++ cCp c)) x y z) := fun {x y z} s1 s2 s3 ha' => Gs_d (Gs_stl (l := acc ++ cCp c) i2 i1 (by omega) (Wf_m s1 s2 s3 nm) i3 dw md (Or.inr ⟨fr, Or.inl rfl⟩) (back acc ha'))
    have subc : ∀ q ∈ cCp c, q ∈ acc ++ cCp c := fun q hq => List.mem_append.mpr (Or.inr hq)
    rcases hb with ⟨k5, hb⟩ | ⟨k5, hb⟩
    · refine Gs_d (gE_0 hEa (by omega) hb (hl e he) (Int.le_refl _) (by omega) ?_)
      rw [ec]
      exact store0 s0 s0 s0 (AcO_n ha ⟨by omega, fun w => by omega⟩)
    · have hle3 : T 15 (T 17 e.toNat).toNat = 3 → lE T 20 (T 18 (T 17 e.toNat).toNat) f (cZ c) := fun k3 => lE_sz (n := 21) (m := 20) (by decide) (Int.le_refl _) ((hl e he).1 k3)
      rcases w9 with w9 | w9 | w9 | w9
      · omega
      · -- a variable
        have z1 : T 8 (pa + i).toNat = 1 := mp.2.2.2.2 (by omega)
        refine Gs_d (gD_d (c0 := c) hE subc bf dw md (by rw [ra]; exact s0) hb (Or.inl ⟨rfl, w9.2⟩) hle3 (by omega) (fun t dt st => Gs_d (Gs_stl (l := (3, kV (Kc C) b, 1, 0, t) :: (acc ++ cCp c)) i2 i1 (by omega) (Wf_m st (by rw [ra]; exact s0) s0 nm) i3 dw md (Or.inr ⟨fr, Or.inr (Or.inl ⟨1, by omega, by omega, Dtr_s dt subc, rfl⟩)⟩) ?_)))
        exact back ((3, kV (Kc C) b, 1, 0, t) :: acc) (AcO_c ha i0 eo (Or.inl ⟨rfl, Or.inl w9.1, z1.symm, (by show (1 : Int) ≤ 1; omega), dt⟩))
      · by_cases b0 : Bu (pa + i) = 0
        · refine Gs_d (gAd_g (t := r0) (fun {e_q a_q d} y1 y2 y3 y4 y5 y6 => ?_) hb (by omega) dw md (by rw [ra]; exact s0) (Or.inl rfl) (store0 s0 (by rw [ra]; exact s0) s0 (AcO_n ha ⟨by omega, fun _ => b0⟩)))
          subst y4 y5
          exact gE_g (by omega) y1 (hle3 y3) y2 bf f1 dw md (by rw [ra]; exact s0) y6
        · have uc := hu e he (by rw [w6]; exact w9.1) (by rw [w6]; exact b0)
          rw [w6] at uc
          have hcu := ChU_e hE w9.2 uc
          refine Gs_d (gD_c (V := V) (sb_q := sb) (lo := lo) (hi := T 17 e.toNat) (f := f) hb (fun k3 => ?_) hlo hle3 (by omega) bf f1 dw md (by rw [ra]; exact s0) (ChU_e hEa w9.2 uc) (fun t ct st cr => Gs_d (Gs_stl (l := (9, kV (Kc C) b, 1, Bu (pa + i), t) :: (acc ++ cCp c)) i2 i1 (by omega) (Wf_m st (by rw [ra]; exact s0) s0 nm) i3 dw md (Or.inr ⟨fr, Or.inr (Or.inr (Or.inr (Or.inl ⟨Bu (pa + i), by omega, ct, st, rfl⟩)))⟩) ?_)))
          · obtain ⟨_, _, w3 | w3⟩ := w9.2
            · omega
            · exact w3.2.2.2
          · exact back ((9, kV (Kc C) b, 1, Bu (pa + i), t) :: acc) (AcO_c ha i0 eo (Or.inr ⟨rfl, rfl, rfl, w9.1, b0, Chr_u hcu cr, e, he, w6, ⟨lo, e, w9.2⟩, cr⟩))
      · refine Gs_d (gD_d (c0 := c) hE subc bf dw md (by rw [ra]; exact s0) hb (Or.inr w9.2) hle3 (by omega) (fun t dt st => Gs_d (Gs_stl (l := (3, kV (Kc C) b, T 8 (pa + i).toNat, 0, t) :: (acc ++ cCp c)) i2 i1 (by omega) (Wf_m st (by rw [ra]; exact s0) s0 nm) i3 dw md (Or.inr ⟨fr, Or.inr (Or.inl ⟨T 8 (pa + i).toNat, by omega, mp.2.2.1, Dtr_s dt subc, rfl⟩)⟩) ?_)))
        exact back ((3, kV (Kc C) b, T 8 (pa + i).toNat, 0, t) :: acc) (AcO_c ha i0 eo (Or.inl ⟨rfl, Or.inr w9.1, rfl, mp.2.2.1, dt⟩))
