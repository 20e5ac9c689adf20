/-! ALT keeps the rules -/
/-- the rights to the words of the guards before the i-th -/
def gcp (T : Nat → Nat → Int) (n f : Int) : Nat → List Cp
  | 0 => []
  | i + 1 => (if 0 < T 18 (nx T (T 21 n.toNat) i).toNat then [(8, f + 2 * (i : Int) + 1, 1, 8, r0)] else []) ++ ((6, f + 2 * (i : Int), 1, 0, r0) :: gcp T n f i)
theorem gcp_m {T : Nat → Nat → Int} {n f : Int} : ∀ {i : Nat} {q : Cp}, q ∈ gcp T n f i → ∃ j : Nat, j < i ∧ (q = (6, f + 2 * (j : Int), 1, 0, r0) ∨ (0 < T 18 (nx T (T 21 n.toNat) j).toNat ∧ q = (8, f + 2 * (j : Int) + 1, 1, 8, r0)))
  | 0, q, h => absurd h List.not_mem_nil
  | i + 1, q, h => by
    rcases List.mem_append.mp h with h | h
    · split at h
      · rename_i k
        exact ⟨i, by omega, Or.inr ⟨k, List.mem_singleton.mp h⟩⟩
      · exact absurd h List.not_mem_nil
    · rcases List.mem_cons.mp h with h | h
      · exact ⟨i, by omega, Or.inl h⟩
      · obtain ⟨j, hj, r⟩ := gcp_m h
        exact ⟨j, by omega, r⟩
theorem gcp_6 {T : Nat → Nat → Int} {n f : Int} : ∀ {i j : Nat}, j < i → (6, f + 2 * (j : Int), 1, 0, r0) ∈ gcp T n f i ∧ (0 < T 18 (nx T (T 21 n.toNat) j).toNat → (8, f + 2 * (j : Int) + 1, 1, 8, r0) ∈ gcp T n f i)
  | 0, j, h => absurd h (by omega)
  | i + 1, j, h => by
    by_cases e : j = i
    · subst e
      refine ⟨List.mem_append.mpr (Or.inr List.mem_cons_self), fun k => List.mem_append.mpr (Or.inl ?_)⟩
      rw [if_pos k]
      exact List.mem_singleton.mpr rfl
    · obtain ⟨r1, r2⟩ := gcp_6 (T := T) (n := n) (f := f) (i := i) (j := j) (by omega)
      exact ⟨List.mem_append.mpr (Or.inr (List.mem_cons_of_mem _ r1)), fun k => List.mem_append.mpr (Or.inr (List.mem_cons_of_mem _ (r2 k)))⟩
theorem wN_6 {o n u : Int} {r : Rt} : wN (6, o, n, u, r) = 1 := by
  unfold wN
  rw [if_neg (show ¬ ((6 : Int) = 1 ∨ (6 : Int) = 2) by decide), if_neg (show ¬ (6 : Int) = 5 by decide)]
theorem wN_8 {o n u : Int} {r : Rt} : wN (8, o, n, u, r) = 1 := by
  unfold wN
  rw [if_neg (show ¬ ((8 : Int) = 1 ∨ (8 : Int) = 2) by decide), if_neg (show ¬ (8 : Int) = 5 by decide)]
theorem En_g {T : Nat → Nat → Int} {F : Int → Int} {nw : Int} {V : Nat → Prop} {U : Us} {c : Cx} {n f : Int} (hE : En T F nw V U c f) (i : Nat) : En T F nw V U (sC c (gcp T n f i ++ cCp c)) (f + 2 * (i : Int)) := by
  have h2 : En T F nw V U c (f + 2 * (i : Int)) := by
    obtain ⟨e1, e2, e3, e4, e5⟩ := hE
    exact ⟨e1, e2, Bf_m e3 (by omega), by omega, e5⟩
  refine En_add h2 (fun q hq => List.mem_append.mpr (Or.inr hq)) (fun q hq => ?_)
  rcases List.mem_append.mp hq with w | w
  · obtain ⟨j, hj, r | r⟩ := gcp_m w
    · rw [r]
      refine Or.inr ?_
      show f + 2 * (j : Int) + wN (6, f + 2 * (j : Int), 1, 0, r0) ≤ _
      rw [wN_6]
      omega
    · rw [r.2]
      refine Or.inr ?_
      show f + 2 * (j : Int) + 1 + wN (8, f + 2 * (j : Int) + 1, 1, 8, r0) ≤ _
      rw [wN_8]
      omega
  · exact Or.inl w
/-- what is known of a guard's tree -/
def GdT (T : Nat → Nat → Int) (V : Nat → Prop) (S : Int → Int) (U : Us) (sb z fm : Int) (g : Int) : Prop := (0 < T 17 g.toNat → lE T 22 (T 17 g.toNat) fm z) ∧ (0 < T 18 g.toNat → (∃ lo hi, 0 ≤ lo ∧ wR T V sb 20 1 (T 18 g.toNat) lo hi) ∧ lR T (T 18 g.toNat) fm z ∧ uC T S U (T 18 g.toNat) 8 ∧ (∃ lo hi, wR T V sb 20 0 (T 19 g.toNat) lo hi) ∧ lR T (T 19 g.toNat) fm z ∧ 0 < T 19 g.toNat)
/-- the guards' first steps -/
theorem gA1_g {T C : Nat → Nat → Int} {La F S : Int → Int} {nw N : Int} {V : Nat → Prop} {U : Us} {sb : Int} {P : Int → Cx → Prop} {c : Cx} {n f fm : Int} (hE : En T F nw V U c f) (hn : T 25 n.toNat = f) (hz : fm ≤ cZ c) : ∀ {i : Nat} {k k_q l0 l1 : Int}, gA1 T C La F S nw n i k k_q l0 l1 → f + 2 * (i : Int) ≤ fm → (∀ j : Nat, j < i → GdT T V S U sb (cZ c) fm (nx T (T 21 n.toNat) j)) → k_q ≤ N → Gd (Kc C) N P k_q (sC c (gcp T n f i ++ cCp c)) → Gd (Kc C) N P k c
  | 0, k, k_q, l0, l1, h, _, _, _, g => by
    have h : k_q = k := h.1
    subst h
    exact g
  | i + 1, k, k_q, l0, l1, h, hi, ht, hk, g => by
    obtain ⟨a, m, _, _, _, h1, x, b, m2, _, _, hx, hs, hc⟩ := h
    have gt := ht i (by omega)
    have hEi := En_g (n := n) hE i
    obtain ⟨ra, rb, rd, md, dw, bf, f1⟩ := En_r hEi
    have nm : cMd (sC c (gcp T n f i ++ cCp c)) ≠ 1 := by omega
    have ec := En_i hEi
    rw [hn] at hs hc
    obtain ⟨i1, i2, i3, i4⟩ := ST_k hs
    have bk : b ≤ k_q := by
      rcases hc with ⟨_, y, q1, q2⟩ | q
      · have := gD_le q1
        have := ST_le q2
        omega
      · omega
    have xb : x ≤ N := by omega
    refine gA1_g hE hn hz h1 (by omega) (fun j hj => ht j (by omega)) ?_ ?_
    · rcases hx with q | q
      · have := gE_le q.2
        omega
      · have := ST_le q.2
        omega
    -- the value of the guard is there
    · have rest : ∀ {y1 y2 y3 : Rt}, Sup (gcp T n f i ++ cCp c) y1 → Sup (gcp T n f i ++ cCp c) y2 → Sup (gcp T n f i ++ cCp c) y3 → Gd (Kc C) N P x (sR (sC c (gcp T n f i ++ cCp c)) y1 y2 y3) := fun {y1 y2 y3} s1 s2 s3 => by
        refine Gs_d (Gs_stl (l := (6, f + 2 * (i : Int), 1, 0, r0) :: (gcp T n f i ++ cCp c)) i2 i1 (by omega) (Wf_m s1 s2 s3 nm) i3 dw md (Or.inr ⟨?_, Or.inr (Or.inr (Or.inr (Or.inr (Or.inl (by rw [i4]; rfl)))))⟩) ?_)
        · rw [i4]
          exact Bf_f (c := sR (sC c (gcp T n f i ++ cCp c)) y1 y2 y3) bf f1 (Int.le_refl _) (by show f + 2 * (i : Int) + 1 ≤ cZ c; omega) (by omega)
        · -- the word g is kept; now the channel
          have hE6 : En T F nw V U (sC c ((6, f + 2 * (i : Int), 1, 0, r0) :: (gcp T n f i ++ cCp c))) (f + 2 * (i : Int) + 1) := by
            have h2 : En T F nw V U (sC c (gcp T n f i ++ cCp c)) (f + 2 * (i : Int) + 1) := by
              obtain ⟨e1, e2, e3, e4, e5⟩ := hEi
              exact ⟨e1, e2, Bf_m e3 (by omega), by omega, e5⟩
            refine En_add (c := sC c (gcp T n f i ++ cCp c)) h2 (fun q hq => List.mem_cons_of_mem _ hq) (fun q hq => ?_)
            rcases List.mem_cons.mp hq with e | hq
            · rw [e]
              refine Or.inr ?_
              show f + 2 * (i : Int) + wN (6, f + 2 * (i : Int), 1, 0, r0) ≤ _
              rw [wN_6]
              omega
            · exact Or.inl hq
          obtain ⟨ra6, rb6, rd6, md6, dw6, bf6, f16⟩ := En_r hE6
          have ec6 := En_i hE6
          have nm6 : cMd (sC c ((6, f + 2 * (i : Int), 1, 0, r0) :: (gcp T n f i ++ cCp c))) ≠ 1 := by omega
          have tgt : Gd (Kc C) N P b (sR (sC c ((6, f + 2 * (i : Int), 1, 0, r0) :: (gcp T n f i ++ cCp c))) r0 r0 r0) → Gd (Kc C) N P b (sC (sR (sR (sC c (gcp T n f i ++ cCp c)) y1 y2 y3) y2 y3 y3) ((6, f + 2 * (i : Int), 1, 0, r0) :: (gcp T n f i ++ cCp c))) := fun q => Gd_r (c := sC c ((6, f + 2 * (i : Int), 1, 0, r0) :: (gcp T n f i ++ cCp c))) nm6 q
          refine tgt ?_
          rw [← ec6]
          rcases hc with ⟨k18, y, q1, q2⟩ | ⟨k18, q1⟩
          · obtain ⟨j1, j2, j3, j4⟩ := ST_k q2
            obtain ⟨⟨lo, hi_q, hlo, wr1⟩, lr1, uc1, _⟩ := gt.2 k18
            have gnew : gcp T n f (i + 1) ++ cCp c = (8, f + 2 * (i : Int) + 1, 1, 8, r0) :: (6, f + 2 * (i : Int), 1, 0, r0) :: (gcp T n f i ++ cCp c) := by
              show (if 0 < T 18 (nx T (T 21 n.toNat) i).toNat then [(8, f + 2 * (i : Int) + 1, 1, 8, r0)] else []) ++ ((6, f + 2 * (i : Int), 1, 0, r0) :: gcp T n f i) ++ cCp c = _
              rw [if_pos k18]
              rfl
            rw [gnew] at g
            refine Gs_d (gD_c (V := V) (sb_q := sb) (lo := lo) (hi := T 18 (nx T (T 21 n.toNat) i).toNat) (f := fm) q1 (fun k3 => ?_) hlo (fun k3 => lE_sz (by omega) (Int.le_refl _) (lr1 (by omega) k3)) (by omega) (Bf_m bf6 (by omega)) (by omega) dw6 md6 (by rw [ra6]; exact s0) (ChU_e hE6 wr1 uc1) (fun t ct st _ => Gs_d (Gs_stl (l := (8, f + 2 * (i : Int) + 1, 1, 8, r0) :: (6, f + 2 * (i : Int), 1, 0, r0) :: (gcp T n f i ++ cCp c)) j2 j1 hk (Wf_m st (by rw [ra6]; exact s0) s0 nm6) j3 dw6 md6 (Or.inr ⟨?_, Or.inr (Or.inr (Or.inl ⟨8, by omega, ct, by rw [j4]; rfl⟩))⟩) ?_)))
            · obtain ⟨_, _, w3 | w3⟩ := wr1
              · omega
              · exact w3.2.2.2
            · rw [j4]
              exact Bf_f (c := sR (sC c ((6, f + 2 * (i : Int), 1, 0, r0) :: (gcp T n f i ++ cCp c))) t _ _) bf6 f16 (Int.le_refl _) (by show f + 2 * (i : Int) + 1 + 1 ≤ cZ c; omega) (by omega)
            · have e8 : sC c ((8, f + 2 * (i : Int) + 1, 1, 8, r0) :: (6, f + 2 * (i : Int), 1, 0, r0) :: (gcp T n f i ++ cCp c)) = sR (sC c ((8, f + 2 * (i : Int) + 1, 1, 8, r0) :: (6, f + 2 * (i : Int), 1, 0, r0) :: (gcp T n f i ++ cCp c))) r0 r0 r0 := by
                obtain ⟨xa, xb, xc, _⟩ := En_r hE
                show (c.1, _, (cA c, cB c, cC c), c.2.2.2) = _
                rw [xa, xb, xc]
                rfl
              rw [e8] at g
              exact Gd_r (c := sC c ((8, f + 2 * (i : Int) + 1, 1, 8, r0) :: (6, f + 2 * (i : Int), 1, 0, r0) :: (gcp T n f i ++ cCp c))) nm6 g
          · subst q1
            have gnew : gcp T n f (i + 1) ++ cCp c = (6, f + 2 * (i : Int), 1, 0, r0) :: (gcp T n f i ++ cCp c) := by
              show (if 0 < T 18 (nx T (T 21 n.toNat) i).toNat then [(8, f + 2 * (i : Int) + 1, 1, 8, r0)] else []) ++ ((6, f + 2 * (i : Int), 1, 0, r0) :: gcp T n f i) ++ cCp c = _
              rw [if_neg (by omega)]
              rfl
            rw [gnew] at g
            exact g
      rcases hx with ⟨k17, q⟩ | ⟨k17, q⟩
      · refine Gs_d (gE_0 hEi (by omega) q (gt.1 k17) (by omega) (by omega) ?_)
        rw [ec]
        exact rest s0 s0 s0
      · obtain ⟨j1, j2, j3, j4⟩ := ST_k q
        rw [ec]
        exact Gs_d (Gs_psh (t := r0) j2 j1 xb (Wf_m s0 s0 s0 nm) (Or.inl ⟨j3, Or.inr rfl⟩) (rest s0 s0 s0))
