/-! ALT: its processes, the whole -/
theorem gG4_g {T C : Nat → Nat → Int} {F S : Int → Int} {nw N : Int} {V : Nat → Prop} {U : Us} {sb : Int} {P : Int → Cx → Prop} {R : Int → Int → Int → Int → Int → Prop} {c : Cx} {n f fm le k k_q l0 l1 t : Int} {m i : Nat} (hE : En T F nw V U c f) (ab : Abv c) (hn : T 25 n.toNat = f) (hi : i < m) (hfm : f + 2 * (m : Int) ≤ fm) (h : gG4 T C F S nw n R le (nx T (T 21 n.toNat) i) (i : Int) k k_q l0 l1) (gt : GdT T V S U sb (cZ c) fm (nx T (T 21 n.toNat) i)) (hk : k_q ≤ N) (hle : ∀ e a b u v, R e a b u v → a ≤ b) (hR : ∀ a b u v, R (T 21 (nx T (T 21 n.toNat) i).toNat) a b u v → b ≤ N → Gd (Kc C) N P b c → Gd (Kc C) N P a c) (hp : 0 < le) (ht : C 50 le.toNat = t) (g : Gd (Kc C) N P t c) : Gd (Kc C) N P k (alX T c n f m) := by
  obtain ⟨b, d, m2, _, _, h1, h2, h3⟩ := h
  obtain ⟨j1, j2, j3, j4⟩ := WY_k h3 hp ht
  have le2 := hle _ _ _ _ _ h2
  obtain ⟨ra, rb, rd, md, dw, bf, f1⟩ := En_r hE
  have nm : cMd c ≠ 1 := by omega
  have ec : sR c r0 r0 r0 = c := (En_i hE).symm
  have gb : Gd (Kc C) N P b c := by
    refine hR _ _ _ _ h2 (by omega) (Gs_d (Gs_j j2 (by omega) (En_w hE) j3 md j4 ?_))
    have : a0 c = c := ec
    rw [this]
    exact g
  have wk : Wkr c (alX T c n f m) := ⟨rfl, Or.inr ⟨fun q hq => List.mem_append.mpr (Or.inr hq), fun q hq => ⟨(ab q hq).1, (ab q hq).2.1, fun k3 => (ab q hq).2.2 (by omega)⟩⟩, Or.inr ra, Or.inr rb, Or.inr rd, rfl, by rw [ra]; exact s0, by rw [rb]; exact s0, by rw [rd]; exact s0, fun _ _ q => absurd q nm⟩
  rcases h1 with ⟨k18, x, q1, y, q2, z, q3, q4⟩ | ⟨k18, q1⟩
  · have q4 : b = z := q4
    subst q4
    rw [hn] at q2
    obtain ⟨i1, i2, i3, i4⟩ := ST_k q2
    obtain ⟨m1, m2, m3, m4⟩ := ST_k q3
    obtain ⟨_, _, _, ⟨lo, hi_q, wr1⟩, lr1, x19⟩ := gt.2 k18
    have hEm := En_g (n := n) hE m
    obtain ⟨_, _, _, _, _, bfm, _⟩ := En_r hEm
    have bfx : Bf (alX T c n f m) fm := Bf_m (c := sC c (gcp T n f m ++ cCp c)) bfm hfm
    have hE2 : En T F nw V U c fm := by
      obtain ⟨e1, e2, e3, e4, e5⟩ := hE
      exact ⟨e1, e2, Bf_m e3 (by omega), by omega, e5⟩
    obtain ⟨k6, k8⟩ := alX_6 (T := T) (c := c) (n := n) (f := f) (m := m) (j := i) hi
    obtain ⟨c6, c8⟩ := gcp_6 (T := T) (n := n) (f := f) (i := m) (j := i) hi
    have subc : ∀ q ∈ cCp c, q ∈ cCp (alX T c n f m) := fun q hq => List.mem_append.mpr (Or.inr hq)
    refine Gs_d (gD_d (c := alX T c n f m) (c0 := c) hE2 subc bfx dw md s0 q1 (Or.inl ⟨rfl, wr1⟩) (fun k3 => lE_sz (by omega) (Int.le_refl _) (lr1 x19 k3)) (by omega) (fun t dt st => ?_))
    refine Gs_d (Gs_psh (t := (3, f + 2 * (i : Int) + 1, 1)) i2 i1 (by omega) (Wf_m st s0 s0 nm) (Or.inr (Or.inr (Or.inl ⟨i3, dw, Or.inl ⟨by rw [i4], by rw [i4]; exact k8 k18⟩⟩))) (Gs_d (Gs_in m2 m1 (by omega) (Wf_m (fun _ => k8 k18) st s0 nm) m3 m4 dw md ⟨_, List.mem_append.mpr (Or.inl (c8 k18)), sbt_r, Or.inr (Or.inr ⟨rfl, rfl, Or.inr rfl, rfl⟩)⟩ (Dtr_s dt subc) ?_)))
    exact Gd_w (e := c) wk gb
  · subst q1
    exact Gd_w wk gb
/-- each process of an ALT -/
theorem gA4_g {T C : Nat → Nat → Int} {La F S : Int → Int} {nw N : Int} {V : Nat → Prop} {U : Us} {sb : Int} {P : Int → Cx → Prop} {R : Int → Int → Int → Int → Int → Prop} {c : Cx} {n f fm le t : Int} {m : Nat} (hE : En T F nw V U c f) (ab : Abv c) (hn : T 25 n.toNat = f) (hfm : f + 2 * (m : Int) ≤ fm) (hle : ∀ e a b u v, R e a b u v → a ≤ b) (hp : 0 < le) (ht : C 50 le.toNat = t) (g : Gd (Kc C) N P t c) : ∀ {i : Nat} {k k_q l0 l1 : Int}, gA4 T C La F S nw n R le i k k_q l0 l1 → i ≤ m → k_q ≤ N → (∀ j : Nat, j < i → GdT T V S U sb (cZ c) fm (nx T (T 21 n.toNat) j) ∧ ∀ a b u v, R (T 21 (nx T (T 21 n.toNat) j).toNat) a b u v → b ≤ N → Gd (Kc C) N P b c → Gd (Kc C) N P a c) → (∀ j : Nat, j < i → Gd (Kc C) N P (C 50 (La (j : Int)).toNat) (alX T c n f m) ∧ k ≤ C 50 (La (j : Int)).toNat ∧ C 50 (La (j : Int)).toNat ≤ k_q) ∧ (0 < i → C 50 (La 0).toNat = k)
  | 0, k, k_q, l0, l1, h, _, _, _ => ⟨fun j hj => by omega, fun hj => by omega⟩
  | i + 1, k, k_q, l0, l1, h, hi, hk, hj => by
    obtain ⟨a, m2, _, _, h1, h2, h3⟩ := h
    have le3 := gG4_le hle h3
    have le1 := (gA4_le hle h1).1
    obtain ⟨r1, r2⟩ := gA4_g hE ab hn hfm hle hp ht g h1 (by omega) (by omega) (fun j q => hj j (by omega))
    have one := gG4_g hE ab hn (show i < m by omega) hfm h3 (hj i (by omega)).1 hk hle (hj i (by omega)).2 hp ht g
    refine ⟨fun j q => ?_, fun _ => ?_⟩
    · by_cases e : j = i
      · subst e
        rw [h2]
        exact ⟨one, le1, le3⟩
      · have := r1 j (by omega)
        exact ⟨this.1, this.2.1, by omega⟩
    · by_cases e : i = 0
      · subst e
        have h1 : a = k := h1.1
        rw [← h1]
        exact h2
      · exact r2 (by omega)
theorem gAl_g {T C : Nat → Nat → Int} {F S : Int → Int} {nw N : Int} {V : Nat → Prop} {U : Us} {sb : Int} {P : Int → Cx → Prop} {R : Int → Int → Int → Int → Int → Prop} {c : Cx} {p f fm k k_q l0 l1 : Int} (hE : En T F nw V U c f) (ab : Abv c) (hn : T 25 p.toNat = f) (m1 : 1 ≤ T 18 p.toNat) (hfm : fm = f + 2 * T 18 p.toNat) (hz : fm ≤ cZ c) (h0 : 0 ≤ l0) (h : gAl T C F S nw R p k k_q l0 l1) (hk : k_q ≤ N) (hM : ∀ i j : Int, 0 ≤ i → i ≤ j → j ≤ N → C 49 i.toNat ≤ C 49 j.toNat) (hle : ∀ e a b u v, R e a b u v → a ≤ b) (hj : ∀ j : Nat, (j : Int) < T 18 p.toNat → GdT T V S U sb (cZ c) fm (nx T (T 21 p.toNat) j) ∧ ∀ a b u v, R (T 21 (nx T (T 21 p.toNat) j).toNat) a b u v → b ≤ N → Gd (Kc C) N P b c → Gd (Kc C) N P a c) (g : Gd (Kc C) N P k_q c) : Gd (Kc C) N P k c := by
  obtain ⟨La, le, lf, a, n1, n2, _, _, _, ⟨p0, _, _, p1⟩, ⟨f0, _, _, f1⟩, ⟨b, d, e, x, y, h1, h2, h3, h4, h5, h6⟩, h7⟩ := h
  generalize hm : (T 18 p.toNat).toNat = m at h1 h3 h5 h7
  have em : (m : Int) = T 18 p.toNat := by omega
  obtain ⟨i1, i2, i3, i4⟩ := ST_k h2
  obtain ⟨j1, j2, j3, j4⟩ := ST_k h4
  obtain ⟨o1, o2, o3, o4⟩ := ST_k h6
  have l1' := (gA1_le h1).1
  have l3 := gA2_le h3
  have l5 := gA3_le h5
  have l7 := (gA4_le hle h7).1
  have La0 := gA1_La h1
  obtain ⟨ra, rb, rd, md, dw, bf, ff⟩ := En_r hE
  have nm : cMd c ≠ 1 := by omega
  obtain ⟨br, b0⟩ := gA4_g hE ab hn (show f + 2 * (m : Int) ≤ fm by omega) hle p0 p1 g h7 (Nat.le_refl _) hk (fun j q => hj j (by omega))
  have sub : ∀ j, ∀ q ∈ pnd T p f j, j ≤ m → q ∈ pnd T p f m := fun j q hq jm => by
    clear h1 h3 h5 h7 br b0 La0 hm em
    induction m with
    | zero =>
      have : j = 0 := by omega
      subst this
      exact hq
    | succ m ih =>
      by_cases e : j = m + 1
      · subst e
        exact hq
      · exact List.mem_append.mpr (Or.inr (ih (by omega)))
  have eX : sC c (gcp T p f m ++ cCp c) = alX T c p f m := by
    unfold alX
    show (c.1, _, (cA c, cB c, cC c), c.2.2.2) = _
    rw [ra, rb, rd]
    rfl
  have r0' : rem T p f m 0 = pnd T p f m := by
    unfold rem
    refine List.filter_eq_self.mpr (fun q hq => ?_)
    obtain ⟨j, hj', _, r⟩ := pnd_m hq
    rw [r]
    exact decide_eq_true (show f + 2 * 0 ≤ f + 2 * (j : Int) by omega)
  have rm : rem T p f m (m : Int) = [] := by
    unfold rem
    refine List.filter_eq_nil_iff.mpr (fun q hq => ?_)
    obtain ⟨j, hj', _, r⟩ := pnd_m hq
    rw [r]
    exact fun w => by
      have := of_decide_eq_true w
      have : f + 2 * (m : Int) ≤ f + 2 * (j : Int) := this
      omega
  refine gA1_g (sb := sb) (fm := fm) hE hn hz h1 (by omega) (fun j q => (hj j (by omega)).1) (by omega) ?_
  rw [eX]
  refine Gs_d (Gs_alt (c := alX T c p f m) i2 i1 (by omega) (Wf_m s0 s0 s0 nm) i3 i4 dw md ?_)
  refine gA2_g (c := c) hn dw h3 (Nat.le_refl _) (by omega) sub ?_
  refine Gs_d (Gs_awt (c := sM (alX T c p f m) (1, pnd T p f m, [])) j2 j1 (by omega) (alX_w (a := r0) (b := r0) (d := r0) (fun q hq => hq) s0 s0 s0) j3 j4 dw rfl ?_)
  have step3 := gA3_g (P := P) (N := N) (c := c) (lf := lf) (La := La) (m := m) hn dw f0 (fun j q => by
    have br' := br j q
    have la := La0 j q
    refine ⟨by omega, ?_⟩
    rw [f1]
    exact hM a (C 50 (La (j : Int)).toNat) (by omega) br'.2.1 (by omega)) h5 (Nat.le_refl _) (by omega) ?_
  · rw [r0'] at step3
    exact step3
  · rw [rm]
    refine Gs_d (Gs_aen (c := sM (alX T c p f m) (1, [], wsl C La lf m)) o2 (by omega) (alX_w (a := r0) (b := r0) (d := r0) (fun q hq => absurd hq List.not_mem_nil) s0 s0 s0) o3 o4 dw rfl rfl ?_ (fun w hw => ?_))
    · have := (br 0 (by omega)).1
      rw [show ((0 : Nat) : Int) = 0 from rfl, b0 (by omega)] at this
      rw [← o1]
      have e1 : sM (a0 (sM (alX T c p f m) (1, [], wsl C La lf m))) (0, [], []) = alX T c p f m := by
        have e6 := hE.2.2.2.2.2.1
        have eM : c.2.2.2 = (0, [], []) := congrArg (fun t : (Rt × Rt × Rt) × Mo => t.2) e6
        show (c.1, _, (r0, r0, r0), (0, [], [])) = (c.1, _, (r0, r0, r0), c.2.2.2)
        rw [eM]
        rfl
      rw [e1]
      exact this
    · obtain ⟨j, hj', r⟩ := wsl_m hw
      refine ⟨C 50 (La (j : Int)).toNat, ?_, ?_⟩
      · rw [← o1, r, f1]
        show C 49 (C 50 (La (j : Int)).toNat).toNat = C 49 a.toNat + _
        omega
      · have e1 : sM (a0 (sM (alX T c p f m) (1, [], wsl C La lf m))) (0, [], []) = alX T c p f m := by
          have e6 := hE.2.2.2.2.2.1
          have eM : c.2.2.2 = (0, [], []) := congrArg (fun t : (Rt × Rt × Rt) × Mo => t.2) e6
          show (c.1, _, (r0, r0, r0), (0, [], [])) = (c.1, _, (r0, r0, r0), c.2.2.2)
          rw [eM]
          rfl
        rw [e1]
        exact (br j hj').1
