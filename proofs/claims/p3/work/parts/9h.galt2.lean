/-! ALT: guards put up and taken down, its processes -/
/-- the context within an ALT: nothing known of the registers, all guards' words -/
def alX (T : Nat → Nat → Int) (c : Cx) (n f : Int) (m : Nat) : Cx := sR (sC c (gcp T n f m ++ cCp c)) r0 r0 r0
def pnd (T : Nat → Nat → Int) (n f : Int) : Nat → List (Int × Int)
  | 0 => []
  | i + 1 => (if 0 < T 18 (nx T (T 21 n.toNat) i).toNat then [(f + 2 * (i : Int), f + 2 * (i : Int) + 1)] else []) ++ pnd T n f i
theorem pnd_m {T : Nat → Nat → Int} {n f : Int} : ∀ {i : Nat} {e : Int × Int}, e ∈ pnd T n f i → ∃ j : Nat, j < i ∧ 0 < T 18 (nx T (T 21 n.toNat) j).toNat ∧ e = (f + 2 * (j : Int), f + 2 * (j : Int) + 1)
  | 0, e, h => absurd h List.not_mem_nil
  | i + 1, e, h => by
    rcases List.mem_append.mp h with h | h
    · split at h
      · rename_i k
        exact ⟨i, by omega, k, List.mem_singleton.mp h⟩
      · exact absurd h List.not_mem_nil
    · obtain ⟨j, hj, r⟩ := pnd_m h
      exact ⟨j, by omega, r⟩
theorem alX_w {T : Nat → Nat → Int} {c : Cx} {n f : Int} {m : Nat} {pe : List (Int × Int)} {wy : List Int} {a b d : Rt} (hp : ∀ e ∈ pe, e ∈ pnd T n f m) (s1 : Sup (gcp T n f m ++ cCp c) a) (s2 : Sup (gcp T n f m ++ cCp c) b) (s3 : Sup (gcp T n f m ++ cCp c) d) : Wf (sR (sM (alX T c n f m) (1, pe, wy)) a b d) := ⟨s1, s2, s3, fun e he _ => by
  obtain ⟨j, hj, k, r⟩ := pnd_m (hp e he)
  obtain ⟨r1, r2⟩ := gcp_6 (T := T) (n := n) (f := f) (i := m) (j := j) hj
  rw [r]
  exact ⟨⟨_, List.mem_append.mpr (Or.inl (r2 k)), rfl, rfl, (by show (8 : Int) / 8 % 2 = 1; decide)⟩, ⟨_, List.mem_append.mpr (Or.inl r1), rfl, rfl⟩⟩⟩
theorem alX_6 {T : Nat → Nat → Int} {c : Cx} {n f : Int} {m j : Nat} (hj : j < m) : Kpt (gcp T n f m ++ cCp c) (f + 2 * (j : Int)) ∧ (0 < T 18 (nx T (T 21 n.toNat) j).toNat → Kpt (gcp T n f m ++ cCp c) (f + 2 * (j : Int) + 1)) := by
  obtain ⟨r1, r2⟩ := gcp_6 (T := T) (n := n) (f := f) (i := m) (j := j) hj
  exact ⟨⟨_, List.mem_append.mpr (Or.inl r1), rfl, Or.inr (Or.inr (Or.inl rfl))⟩, fun k => ⟨_, List.mem_append.mpr (Or.inl (r2 k)), rfl, Or.inr (Or.inr (Or.inr rfl))⟩⟩
theorem gA2_g {T C : Nat → Nat → Int} {N : Int} {P : Int → Cx → Prop} {c : Cx} {n f : Int} {m : Nat} (hn : T 25 n.toNat = f) (dw : cDw c = 0) : ∀ {i : Nat} {k k_q : Int}, gA2 T C n i k k_q → i ≤ m → k_q ≤ N → (∀ j, ∀ e ∈ pnd T n f j, j ≤ m → e ∈ pnd T n f m) → Gd (Kc C) N P k_q (sM (alX T c n f m) (1, pnd T n f i, [])) → Gd (Kc C) N P k (sM (alX T c n f m) (1, [], []))
  | 0, k, k_q, h, _, _, _, g => by
    have h : k_q = k := h
    subst h
    exact g
  | i + 1, k, k_q, h, hi, hk, sub, g => by
    obtain ⟨a, h1, h2⟩ := h
    have le2 := SQ_le h2
    refine gA2_g hn dw h1 (by omega) (by omega) sub ?_
    obtain ⟨k6, k8⟩ := alX_6 (T := T) (c := c) (n := n) (f := f) (m := m) (j := i) (by omega)
    obtain ⟨c6, c8⟩ := gcp_6 (T := T) (n := n) (f := f) (i := m) (j := i) (by omega)
    have hp := fun e he => sub i e he (by omega)
    have w0 : ∀ {a b d : Rt}, Sup (gcp T n f m ++ cCp c) a → Sup (gcp T n f m ++ cCp c) b → Sup (gcp T n f m ++ cCp c) d → Wf (sR (sM (alX T c n f m) (1, pnd T n f i, [])) a b d) := fun s1 s2 s3 => alX_w hp s1 s2 s3
    unfold al2 at h2
    by_cases k18 : 0 < T 18 (nx T (T 21 n.toNat) i).toNat
    · rw [if_pos k18, hn] at h2
      obtain ⟨x, q1, y, q2, z, q3, q4⟩ := h2
      have q4 : k_q = z := q4
      subst q4
      obtain ⟨i1, i2, i3, i4⟩ := ST_k q1
      obtain ⟨j1, j2, j3, j4⟩ := ST_k q2
      obtain ⟨m1, m2, m3, m4⟩ := ST_k q3
      have ep : pnd T n f (i + 1) = (f + 2 * (i : Int), f + 2 * (i : Int) + 1) :: pnd T n f i := by
        show (if 0 < T 18 (nx T (T 21 n.toNat) i).toNat then [(f + 2 * (i : Int), f + 2 * (i : Int) + 1)] else []) ++ pnd T n f i = _
        rw [if_pos k18]
        rfl
      rw [ep] at g
      exact Gs_d (Gs_psh (c := sR (sM (alX T c n f m) (1, pnd T n f i, [])) r0 r0 r0) (t := (3, f + 2 * (i : Int), 1)) i2 i1 (by omega) (w0 s0 s0 s0) (Or.inr (Or.inr (Or.inl ⟨i3, dw, Or.inl ⟨by rw [i4], by rw [i4]; exact k6⟩⟩))) (Gs_d (Gs_psh (t := (3, f + 2 * (i : Int) + 1, 1)) j2 j1 (by omega) (w0 (fun _ => k6) s0 s0) (Or.inr (Or.inr (Or.inl ⟨j3, dw, Or.inl ⟨by rw [j4], by rw [j4]; exact k8 k18⟩⟩))) (Gs_d (Gs_enc m2 m1 hk (w0 (fun _ => k8 k18) (fun _ => k6) s0) m3 m4 dw rfl (List.mem_append.mpr (Or.inl (c8 k18))) rfl rfl (by show (8 : Int) / 8 % 2 = 1; decide) (List.mem_append.mpr (Or.inl c6)) rfl rfl rfl rfl g)))))
    · rw [if_neg k18, hn] at h2
      obtain ⟨x, q1, y, q2, q4⟩ := h2
      have q4 : k_q = y := q4
      subst q4
      obtain ⟨i1, i2, i3, i4⟩ := ST_k q1
      obtain ⟨j1, j2, j3, j4⟩ := ST_k q2
      have ep : pnd T n f (i + 1) = pnd T n f i := by
        show (if 0 < T 18 (nx T (T 21 n.toNat) i).toNat then [(f + 2 * (i : Int), f + 2 * (i : Int) + 1)] else []) ++ pnd T n f i = _
        rw [if_neg k18]
        rfl
      rw [ep] at g
      exact Gs_d (Gs_psh (c := sR (sM (alX T c n f m) (1, pnd T n f i, [])) r0 r0 r0) (t := (3, f + 2 * (i : Int), 1)) i2 i1 (by omega) (w0 s0 s0 s0) (Or.inr (Or.inr (Or.inl ⟨i3, dw, Or.inl ⟨by rw [i4], by rw [i4]; exact k6⟩⟩))) (Gs_d (Gs_ens j2 j1 hk (w0 (fun _ => k6) s0 s0) j3 j4 dw rfl g)))
def wsl (C : Nat → Nat → Int) (La : Int → Int) (lf : Int) : Nat → List Int
  | 0 => []
  | i + 1 => (C 49 (C 50 (La (i : Int)).toNat).toNat - C 49 (C 50 lf.toNat).toNat) :: wsl C La lf i
theorem wsl_m {C : Nat → Nat → Int} {La : Int → Int} {lf : Int} : ∀ {i : Nat} {x : Int}, x ∈ wsl C La lf i → ∃ j : Nat, j < i ∧ x = C 49 (C 50 (La (j : Int)).toNat).toNat - C 49 (C 50 lf.toNat).toNat
  | 0, x, h => absurd h List.not_mem_nil
  | i + 1, x, h => by
    rcases List.mem_cons.mp h with h | h
    · exact ⟨i, by omega, h⟩
    · obtain ⟨j, hj, r⟩ := wsl_m h
      exact ⟨j, by omega, r⟩
/-- the guards that are still up -/
def rem (T : Nat → Nat → Int) (n f : Int) (m : Nat) (i : Int) : List (Int × Int) := (pnd T n f m).filter (fun e => decide (f + 2 * i ≤ e.1))
theorem gA3_g {T C : Nat → Nat → Int} {La : Int → Int} {lf N : Int} {P : Int → Cx → Prop} {c : Cx} {n f : Int} {m : Nat} (hn : T 25 n.toNat = f) (dw : cDw c = 0) (hlf : 0 < lf) (hLa : ∀ j : Nat, j < m → 0 < La (j : Int) ∧ C 49 (C 50 lf.toNat).toNat ≤ C 49 (C 50 (La (j : Int)).toNat).toNat) : ∀ {i : Nat} {k k_q : Int}, gA3 T C La lf n i k k_q → i ≤ m → k_q ≤ N → Gd (Kc C) N P k_q (sM (alX T c n f m) (1, rem T n f m (i : Int), wsl C La lf i)) → Gd (Kc C) N P k (sM (alX T c n f m) (1, rem T n f m 0, []))
  | 0, k, k_q, h, _, _, g => by
    have h : k_q = k := h
    subst h
    exact g
  | i + 1, k, k_q, h, hi, hk, g => by
    obtain ⟨a, b, h1, h0, h2⟩ := h
    have le2 := SQ_le h2
    have le0 := h0.1
    refine gA3_g hn dw hlf hLa h1 (by omega) (by omega) ?_
    obtain ⟨k6, k8⟩ := alX_6 (T := T) (c := c) (n := n) (f := f) (m := m) (j := i) (by omega)
    obtain ⟨c6, c8⟩ := gcp_6 (T := T) (n := n) (f := f) (i := m) (j := i) (by omega)
    obtain ⟨la1, la2⟩ := hLa i (by omega)
    have hp : ∀ e ∈ rem T n f m (i : Int), e ∈ pnd T n f m := fun e he => (List.mem_filter.mp he).1
    have w0 : ∀ {a b d : Rt}, Sup (gcp T n f m ++ cCp c) a → Sup (gcp T n f m ++ cCp c) b → Sup (gcp T n f m ++ cCp c) d → Wf (sR (sM (alX T c n f m) (1, rem T n f m (i : Int), wsl C La lf i)) a b d) := fun s1 s2 s3 => alX_w hp s1 s2 s3
    have n5 : ∀ (l : List Cp) (z w : Int), Sup l (5, z, w) := fun l z w q => absurd q (by show ¬ (5 : Int) = 3; decide)
    obtain ⟨y1, y2, y3, y4, y5⟩ := h0
    have kv : kV (Kc C) a = C 49 (C 50 (La (i : Int)).toNat).toNat - C 49 (C 50 lf.toNat).toNat := by
      have e : kV (Kc C) a = wy C a := vl_w (by omega)
      rw [e]
      unfold wy
      rw [if_neg (by omega), y4, y5]
    unfold al3 at h2
    by_cases k18 : 0 < T 18 (nx T (T 21 n.toNat) i).toNat
    · rw [if_pos k18, hn] at h2
      obtain ⟨x, q1, y, q2, z, q3, q4⟩ := h2
      have q4 : k_q = z := q4
      subst q4
      obtain ⟨i1, i2, i3, i4⟩ := ST_k q1
      obtain ⟨j1, j2, j3, j4⟩ := ST_k q2
      obtain ⟨m1, m2, m3, m4⟩ := ST_k q3
      refine Gs_d (Gs_psh (c := sR (sM (alX T c n f m) (1, rem T n f m (i : Int), wsl C La lf i)) r0 r0 r0) (t := (5, kV (Kc C) a, 0)) y2 y1 (by omega) (w0 s0 s0 s0) (Or.inl ⟨y3, Or.inl rfl⟩) (Gs_d (Gs_psh (t := (3, f + 2 * (i : Int), 1)) i2 i1 (by omega) (w0 (n5 _ _ _) s0 s0) (Or.inr (Or.inr (Or.inl ⟨i3, dw, Or.inl ⟨by rw [i4], by rw [i4]; exact k6⟩⟩))) (Gs_d (Gs_psh (t := (3, f + 2 * (i : Int) + 1, 1)) j2 j1 (by omega) (w0 (fun _ => k6) (n5 _ _ _) s0) (Or.inr (Or.inr (Or.inl ⟨j3, dw, Or.inl ⟨by rw [j4], by rw [j4]; exact k8 k18⟩⟩))) (Gs_d (Gs_dsc (l := rem T n f m ((i + 1 : Nat) : Int)) m2 m1 hk (w0 (fun _ => k8 k18) (fun _ => k6) (n5 _ _ _)) m3 m4 dw rfl rfl rfl rfl (by rw [kv]; omega) ⟨_, List.mem_append.mpr (Or.inl (c8 k18)), rfl, rfl, by show (8 : Int) / 8 % 2 = 1; decide⟩ (fun e he => ?_) (fun e he => ?_) ?_)))))))
      · obtain ⟨e1, e2⟩ := List.mem_filter.mp he
        have e2 := of_decide_eq_true e2
        obtain ⟨j, hj, kj, r⟩ := pnd_m e1
        by_cases ej : j = i
        · subst ej
          exact Or.inl r
        · refine Or.inr (List.mem_filter.mpr ⟨e1, decide_eq_true ?_⟩)
          rw [r] at e2 ⊢
          show f + 2 * ((i + 1 : Nat) : Int) ≤ f + 2 * (j : Int)
          have : f + 2 * (i : Int) ≤ f + 2 * (j : Int) := e2
          omega
      · obtain ⟨e1, e2⟩ := List.mem_filter.mp he
        have e2 := of_decide_eq_true e2
        exact List.mem_filter.mpr ⟨e1, decide_eq_true (by omega)⟩
      · have ew : wsl C La lf (i + 1) = kV (Kc C) a :: wsl C La lf i := by
          rw [kv]
          rfl
        rw [ew] at g
        exact g
    · rw [if_neg k18, hn] at h2
      obtain ⟨x, q1, y, q2, q4⟩ := h2
      have q4 : k_q = y := q4
      subst q4
      obtain ⟨i1, i2, i3, i4⟩ := ST_k q1
      obtain ⟨j1, j2, j3, j4⟩ := ST_k q2
      have er : rem T n f m ((i + 1 : Nat) : Int) = rem T n f m (i : Int) := by
        unfold rem
        refine List.filter_congr (fun e he => ?_)
        obtain ⟨j, hj, kj, r⟩ := pnd_m he
        have ej : j ≠ i := fun q => by
          subst q
          exact k18 kj
        rw [r]
        show decide (f + 2 * ((i + 1 : Nat) : Int) ≤ f + 2 * (j : Int)) = decide (f + 2 * (i : Int) ≤ f + 2 * (j : Int))
        by_cases q : f + 2 * (i : Int) ≤ f + 2 * (j : Int)
        · rw [decide_eq_true q, decide_eq_true (by omega)]
        · rw [decide_eq_false q, decide_eq_false (by omega)]
      have ew : wsl C La lf (i + 1) = kV (Kc C) a :: wsl C La lf i := by
        rw [kv]
        rfl
      rw [er, ew] at g
      exact Gs_d (Gs_psh (c := sR (sM (alX T c n f m) (1, rem T n f m (i : Int), wsl C La lf i)) r0 r0 r0) (t := (5, kV (Kc C) a, 0)) y2 y1 (by omega) (w0 s0 s0 s0) (Or.inl ⟨y3, Or.inl rfl⟩) (Gs_d (Gs_psh (t := (3, f + 2 * (i : Int), 1)) i2 i1 (by omega) (w0 (n5 _ _ _) s0 s0) (Or.inr (Or.inr (Or.inl ⟨i3, dw, Or.inl ⟨by rw [i4], by rw [i4]; exact k6⟩⟩))) (Gs_d (Gs_dss j2 j1 hk (w0 (fun _ => k6) (n5 _ _ _) s0) j3 j4 dw rfl rfl (by rw [kv]; omega) g)))))
