/-! CALL: the step; what a PROC may do -/
def pcp (T : Nat → Nat → Int) (Bu : Int → Int) (pa : Int) : Nat → List Cp
  | 0 => []
  | i + 1 => pcp T Bu pa i ++ (if T 7 (pa + (i : Int)).toNat = 6 ∨ T 7 (pa + (i : Int)).toNat = 7 then [(3, 1 + (i : Int), T 8 (pa + (i : Int)).toNat, 0, r0)] else if T 7 (pa + (i : Int)).toNat = 8 ∧ Bu (pa + (i : Int)) ≠ 0 then [(4, 1 + (i : Int), 1, Bu (pa + (i : Int)), r0)] else [])
theorem pcp_m {T : Nat → Nat → Int} {Bu : Int → Int} {pa : Int} : ∀ {n : Nat} {q : Cp}, q ∈ pcp T Bu pa n → ∃ i : Nat, i < n ∧ (((T 7 (pa + (i : Int)).toNat = 6 ∨ T 7 (pa + (i : Int)).toNat = 7) ∧ q = (3, 1 + (i : Int), T 8 (pa + (i : Int)).toNat, 0, r0)) ∨ (T 7 (pa + (i : Int)).toNat = 8 ∧ Bu (pa + (i : Int)) ≠ 0 ∧ q = (4, 1 + (i : Int), 1, Bu (pa + (i : Int)), r0)))
  | 0, q, h => absurd h List.not_mem_nil
  | n + 1, q, h => by
    rcases List.mem_append.mp h with h | h
    · obtain ⟨i, hi, r⟩ := pcp_m h
      exact ⟨i, by omega, r⟩
    · split at h
      · rename_i k
        exact ⟨n, by omega, Or.inl ⟨k, List.mem_singleton.mp h⟩⟩
      · split at h
        · rename_i k
          exact ⟨n, by omega, Or.inr ⟨k.1, k.2, List.mem_singleton.mp h⟩⟩
        · exact absurd h List.not_mem_nil
theorem pcp_i {T : Nat → Nat → Int} {Bu : Int → Int} {pa : Int} : ∀ {n i : Nat}, i < n → (T 7 (pa + (i : Int)).toNat = 6 ∨ T 7 (pa + (i : Int)).toNat = 7 → (3, 1 + (i : Int), T 8 (pa + (i : Int)).toNat, 0, r0) ∈ pcp T Bu pa n) ∧ (T 7 (pa + (i : Int)).toNat = 8 → Bu (pa + (i : Int)) ≠ 0 → (4, 1 + (i : Int), 1, Bu (pa + (i : Int)), r0) ∈ pcp T Bu pa n)
  | 0, i, h => absurd h (by omega)
  | n + 1, i, h => by
    by_cases e : i = n
    · subst e
      refine ⟨fun k => List.mem_append.mpr (Or.inr ?_), fun k b => List.mem_append.mpr (Or.inr ?_)⟩
      · rw [if_pos k]
        exact List.mem_singleton.mpr rfl
      · rw [if_neg (by omega), if_pos ⟨k, b⟩]
        exact List.mem_singleton.mpr rfl
    · obtain ⟨r1, r2⟩ := pcp_i (T := T) (Bu := Bu) (pa := pa) (n := n) (i := i) (by omega)
      exact ⟨fun k => List.mem_append.mpr (Or.inl (r1 k)), fun k b => List.mem_append.mpr (Or.inl (r2 k b))⟩
/-- what a PROC may do when it begins -/
def pcx (T : Nat → Nat → Int) (Bu : Int → Int) (q : Int) : Cx := ((1, 0, T 32 q.toNat, T 33 q.toNat, T 32 q.toNat + 3), pcp T Bu (T 29 q.toNat) (T 30 q.toNat).toNat, (r0, r0, r0), (0, [], []))
theorem gCl_g {T C : Nat → Nat → Int} {Q F S : Int → Int} {nw N : Int} {V : Nat → Prop} {U : Us} {sb : Int} {Bu : Int → Int} {P : Int → Cx → Prop} {c : Cx} {f p k k_q l0 l1 hi tq : Int} {ls : List Int} (hE : En T F nw V U c f) (hG : Eg T F nw V U (cZ c) f) (ab : Abv c) (h : gCl T C Q F S nw p k k_q l0 l1) (hc : CH T (T 21 p.toNat) ls) (hlen : (ls.length : Int) = T 30 (T 17 p.toNat).toNat) (w : wAs T V sb (T 29 (T 17 p.toNat).toNat) ls (p + 1) hi) (hp : 0 ≤ p)
    (hz : 1 + T 30 (T 17 p.toNat).toNat ≤ T 32 (T 17 p.toNat).toNat) (hD0 : 0 ≤ T 33 (T 17 p.toNat).toNat) (hD : 7 + T 32 (T 17 p.toNat).toNat + T 33 (T 17 p.toNat).toNat ≤ cD c) (hl : ∀ a ∈ ls, lE T 22 (T 17 a.toNat) f (cZ c)) (hm : wM T (T 29 (T 17 p.toNat).toNat) (T 30 (T 17 p.toNat).toNat)) (h9 : ∀ j : Int, 0 ≤ j → j < T 30 (T 17 p.toNat).toNat → T 9 (T 29 (T 17 p.toNat).toNat + j).toNat = 1 + j)
    (hu : ∀ a ∈ ls, T 7 (T 18 a.toNat).toNat = 8 → Bu (T 18 a.toNat) ≠ 0 → uC T S U (T 17 a.toNat) (Bu (T 18 a.toNat))) (hs : ∀ a ∈ ls, ∀ b ∈ ls, a ≠ b → T 7 (T 18 a.toNat).toNat = 8 → T 7 (T 18 b.toNat).toNat = 8 → Bu (T 18 a.toNat) ≠ 0 → Bu (T 18 b.toNat) ≠ 0 → NMt T (Rf S) (T 17 a.toNat) (T 17 b.toNat))
    (hq : 0 < Q (T 17 p.toNat)) (ht : C 50 (Q (T 17 p.toNat)).toNat = tq) (hk : k_q ≤ N) (gq : Gd (Kc C) N P tq (pcx T Bu (T 17 p.toNat))) (g : Gd (Kc C) N P k_q c) : Gd (Kc C) N P k c := by
  obtain ⟨a, h1, h2⟩ := h
  obtain ⟨i1, i2, i3, i4⟩ := WY_k h2 hq ht
  have gl := gQ_l h1 hc
  obtain ⟨ra, rb, rd, md, dw, bf, f1⟩ := En_r hE
  have e0 : sC c ([] ++ cCp c) = c := rfl
  rw [← e0]
  refine gAs_g (S := S) (U := U) (sb := sb) (Bu := Bu) (f := f) (q := T 17 p.toNat) (pa := T 29 (T 17 p.toNat).toNat) (ls := ls) hE ab (by omega) (by omega) hu hl (fun s s1 s2 => hm s s1 (by omega)) gl (i := 0) (by rw [show T 29 (T 17 p.toNat).toNat + 0 = T 29 (T 17 p.toNat).toNat by omega]; exact w) (by omega) (by omega) (by omega) (by omega) (fun e he => he) (fun j j1 j2 => h9 j j1 (by omega)) ⟨fun q hq => absurd hq List.not_mem_nil, fun j j0 j1 => by omega⟩ (by omega) (fun acc ac => Gs_d ?_)
  rw [show (0 : Int) + (ls.length : Int) = T 30 (T 17 p.toNat).toNat by omega] at ac
  have nm : cMd c ≠ 1 := by omega
  have wf : Wf (sC c (acc ++ cCp c)) := Wf_m (by show Sup _ (cA c); rw [ra]; exact s0) (by show Sup _ (cB c); rw [rb]; exact s0) (by show Sup _ (cC c); rw [rd]; exact s0) nm
  have wk : Wkr c (a0 (sC c (acc ++ cCp c))) := ⟨rfl, Or.inr ⟨fun q hq => List.mem_append.mpr (Or.inr hq), fun q hq => ⟨(ab q hq).1, (ab q hq).2.1, fun k3 => (ab q hq).2.2 (by omega)⟩⟩, Or.inr ra, Or.inr rb, Or.inr rd, rfl, by rw [ra]; exact s0, by rw [rb]; exact s0, by rw [rd]; exact s0, fun _ _ q => absurd q nm⟩
  have cal : Cal (sC c (acc ++ cCp c)) c (pcx T Bu (T 17 p.toNat)) := by
    refine ⟨fun q hq => ?_, fun q hq q_q hq_q k9 k9' no => ?_⟩
    · obtain ⟨i, hi_q, r | r⟩ := pcp_m hq
      · rw [r.2]
        obtain ⟨q0, hq0, k3, o3⟩ := (ac.2 (i : Int) (by omega) (by omega)).1 r.1
        obtain ⟨j, j0, j1, j2, u | u⟩ := ac.1 q0 hq0
        · have ej : j = (i : Int) := by omega
          subst ej
          have m8 := (hm (T 29 (T 17 p.toNat).toNat + (i : Int)) (by omega) (by omega)).2.2.1
          refine ⟨by show 1 ≤ 1 + (i : Int); omega, by show 1 + (i : Int) < T 32 (T 17 p.toNat).toNat; omega, m8, Or.inl ⟨rfl, q0, List.mem_append.mpr (Or.inl hq0), k3, ?_, u.2.1, ?_⟩⟩
          · show qO q0 = 1 + (i : Int) - 7 - T 32 (T 17 p.toNat).toNat
            omega
          · have := u.2.2.2
            rw [u.2.1] at this
            exact this
        · omega
      · rw [r.2.2]
        obtain ⟨q0, hq0, k3, o3⟩ := (ac.2 (i : Int) (by omega) (by omega)).2 r.1 r.2.1
        obtain ⟨j, j0, j1, j2, u | u⟩ := ac.1 q0 hq0
        · omega
        · have ej : j = (i : Int) := by omega
          subst ej
          refine ⟨by show 1 ≤ 1 + (i : Int); omega, by show 1 + (i : Int) < T 32 (T 17 p.toNat).toNat; omega, by show (1 : Int) ≤ 1; omega, Or.inr ⟨rfl, q0, List.mem_append.mpr (Or.inl hq0), k3, ?_, ?_⟩⟩
          · show qO q0 = 1 + (i : Int) - 7 - T 32 (T 17 p.toNat).toNat
            omega
          · have := u.2.2.2.2.2.1
            rw [u.2.2.1] at this
            exact this
    · have mem : ∀ q ∈ acc ++ cCp c, qK q = 9 → q ∈ acc := fun q hq k => by
        rcases List.mem_append.mp hq with y | y
        · exact y
        · exact absurd k (ab q y).2.1
      obtain ⟨j, j0, j1, j2, u | u⟩ := ac.1 q (mem q hq k9)
      · omega
      · obtain ⟨j_q, j0', j1', j2', u_q | u_q⟩ := ac.1 q_q (mem q_q hq_q k9')
        · omega
        · obtain ⟨_, _, u3, u4, u5, u6, e, he, e18, ⟨lo, hi_q, wr1⟩, cr⟩ := u
          obtain ⟨_, _, u3', u4', u5', u6', e_q, he', e18', ⟨lo_q, hi'', wr1'⟩, cr'⟩ := u_q
          have ne : e ≠ e_q := fun y => by
            subst y
            omega
          exact Sep_e hG wr1 wr1' (hu e he (by rw [e18]; exact u4) (by rw [e18]; exact u5)) (hu e_q he' (by rw [e18']; exact u4') (by rw [e18']; exact u5')) cr cr' (by rw [e18, ← u3]; exact u6) (by rw [e18', ← u3']; exact u6') (hs e he e_q he' ne (by rw [e18]; exact u4) (by rw [e18']; exact u4') (by rw [e18]; exact u5) (by rw [e18']; exact u5')) ab
  subst i1
  refine ⟨i2, by omega, sC c (acc ++ cCp c), [(a + 1, c), (tq, pcx T Bu (T 17 p.toNat))], Wkr_r wf, Or.inr (Or.inr (Or.inr (Or.inr (Or.inr (Or.inr (Or.inr (Or.inr (Or.inr (Or.inr (Or.inr (Or.inr (Or.inl (⟨i3, dw, md, tq, c, pcx T Bu (T 17 p.toNat), i4, wk, ab, cal, rfl, rfl, by show 1 ≤ T 32 (T 17 p.toNat).toNat; omega, hD0, hD, rfl, rfl⟩))))))))))))), fun s hs_q => ?_⟩
  rcases List.mem_cons.mp hs_q with e | hs_q
  · rw [e]
    exact g
  · rw [List.mem_singleton.mp hs_q]
    exact gq
