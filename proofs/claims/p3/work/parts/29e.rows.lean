/-! more names; rows of processes that grow at their end -/
theorem wE_sb {A : Nat → Nat → Int} {V : Nat → Prop} {sb sb_q e lo hi : Int} {n : Nat} (hs : sb ≤ sb_q) (h : wE A V sb n e lo hi) : wE A V sb_q n e lo hi := wE_env (fun _ q => q) hs n n e lo hi lo hi (Nat.le_refl _) (Int.le_refl _) (Int.le_refl _) h
theorem wR_sb {A : Nat → Nat → Int} {V : Nat → Prop} {sb sb_q ch e lo hi : Int} {n : Nat} (hs : sb ≤ sb_q) (h : wR A V sb n ch e lo hi) : wR A V sb_q n ch e lo hi := by
  obtain ⟨h1, h2, h3⟩ := h
  refine ⟨h1, h2, ?_⟩
  rcases h3 with h3 | h3
  · exact .inl ⟨h3.1, SY_mono (fun _ q => q) hs h3.2.1, h3.2.2⟩
  · exact .inr ⟨h3.1, SY_mono (fun _ q => q) hs h3.2.1, h3.2.2.1, wE_sb hs h3.2.2.2⟩
theorem wA_sb {A : Nat → Nat → Int} {V : Nat → Prop} {sb sb_q pa e lo hi : Int} (hs : sb ≤ sb_q) (h : wA A V sb pa e lo hi) : wA A V sb_q pa e lo hi := by
  obtain ⟨h1, h2, h3, h4, h5, h6, h7⟩ := h
  refine ⟨h1, h2, h3, h4, h5, by omega, ?_⟩
  rcases h7 with h7 | h7 | h7 | h7
  · exact .inl ⟨h7.1, wE_sb hs h7.2⟩
  · exact .inr (.inl ⟨h7.1, wR_sb hs h7.2⟩)
  · exact .inr (.inr (.inl ⟨h7.1, wR_sb hs h7.2⟩))
  · obtain ⟨g1, g2, g3, g4, g5, g6⟩ := h7.2
    exact .inr (.inr (.inr ⟨h7.1, g1, g2, g3, SY_mono (fun _ q => q) hs g4, g5, g6⟩))
theorem wAs_sb {A : Nat → Nat → Int} {V : Nat → Prop} {sb sb_q : Int} (hs : sb ≤ sb_q) : ∀ {l : List Int} {pa lo hi : Int}, wAs A V sb pa l lo hi → wAs A V sb_q pa l lo hi
  | [], _, _, _, h => h
  | e :: l, pa, lo, hi, h => by
    obtain ⟨m, h1, h2, h3, h4⟩ := h
    exact ⟨m, h1, h2, wA_sb hs h3, wAs_sb hs h4⟩
theorem wI_sb {A : Nat → Nat → Int} {V : Nat → Prop} {sb sb_q : Int} {R R_q : Int → Int → Int → Int → Int → Prop} {e lo hi s0 s1 : Int} (hs : sb ≤ sb_q) (hR : ∀ c a, R c a hi s0 s1 → R_q c a hi s0 s1) (h : wI A V sb R e lo hi s0 s1) : wI A V sb_q R_q e lo hi s0 s1 := by
  obtain ⟨h1, h2, m, h3, h4, h5, h6⟩ := h
  exact ⟨h1, h2, m, h3, h4, wE_sb hs h5, hR _ _ h6⟩
theorem wG_sb {A : Nat → Nat → Int} {V : Nat → Prop} {sb sb_q : Int} {R R_q : Int → Int → Int → Int → Int → Prop} {e lo hi s0 s1 : Int} (hs : sb ≤ sb_q) (hR : ∀ c a, R c a hi s0 s1 → R_q c a hi s0 s1) (h : wG A V sb R e lo hi s0 s1) : wG A V sb_q R_q e lo hi s0 s1 := by
  obtain ⟨h1, h2, m, h3, h4, h5, h6⟩ := h
  refine ⟨h1, h2, m, h3, h4, hR _ _ h5, ?_⟩
  rcases h6 with ⟨g1, a, g2, g3, g4, g5⟩ | ⟨g1, g2⟩ | ⟨a, b, g1, g2, g3, g4, g5, g6⟩
  · exact .inl ⟨g1, a, g2, g3, wR_sb hs g4, wR_sb hs g5⟩
  · exact .inr (.inl ⟨g1, wE_sb hs g2⟩)
  · exact .inr (.inr ⟨a, b, g1, g2, g3, wE_sb hs g4, wR_sb hs g5, wR_sb hs g6⟩)
theorem wCs_id {R R_q : Int → Int → Int → Int → Int → Prop} (hR : ∀ e a b u v, R e a b u v → R_q e a b u v) {l : List Int} {lo hi s0 s1 : Int} (h : wCs R l lo hi s0 s1) : wCs R_q l lo hi s0 s1 := wCs_im (fun e a b u v _ _ _ _ w => hR e a b u v w) (Int.le_refl _) (Int.le_refl _) h
theorem wSt_sb {A : Nat → Nat → Int} {sb sb_q pb : Int} {R R_q : (Nat → Prop) → Int → Int → Int → Int → Int → Prop} {V : Nat → Prop} {p lo hi t0 s1 : Int} (hs : sb ≤ sb_q) (hR : ∀ V e a b u v, R V e a b u v → R_q V e a b u v) (h : wSt A sb pb R V p lo hi t0 s1) : wSt A sb_q pb R_q V p lo hi t0 s1 := by
  unfold wSt at h ⊢
  rcases h with h | h | h | h | h | h | h | h | h | h | h | h
  · exact .inl h
  · exact .inr (.inl ⟨h.1, h.2.1, wR_sb hs h.2.2.1, wE_sb hs h.2.2.2⟩)
  · exact .inr (.inr (.inl ⟨h.1, h.2.1, wR_sb hs h.2.2.1, wE_sb hs h.2.2.2⟩))
  · exact .inr (.inr (.inr (.inl ⟨h.1, h.2.1, wR_sb hs h.2.2.1, wR_sb hs h.2.2.2⟩)))
  · obtain ⟨h1, h2, h3, h4, l, h5, h6, h7⟩ := h
    exact .inr (.inr (.inr (.inr (.inl ⟨h1, h2, h3, h4, l, h5, h6, wAs_sb hs h7⟩))))
  · obtain ⟨h1, l, h5, h7⟩ := h
    exact .inr (.inr (.inr (.inr (.inr (.inl ⟨h1, l, h5, wCs_id (hR V) h7⟩)))))
  · obtain ⟨h1, h2, h3, h4, a, b, g1, g2, g3, g4, g5, g6⟩ := h
    exact .inr (.inr (.inr (.inr (.inr (.inr (.inl ⟨h1, h2, h3, h4, a, b, g1, g2, g3, wE_sb hs g4, wE_sb hs g5, hR _ _ _ _ _ _ g6⟩))))))
  · obtain ⟨h1, h2, h3, h4, l, h5, h6, h7⟩ := h
    exact .inr (.inr (.inr (.inr (.inr (.inr (.inr (.inl ⟨h1, h2, h3, h4, l, h5, h6, wCs_id (hR V) h7⟩)))))))
  · obtain ⟨h1, h2, h3, h4, h5, h6, h7, h8, h9⟩ := h
    exact .inr (.inr (.inr (.inr (.inr (.inr (.inr (.inr (.inl ⟨h1, h2, h3, h4, h5, h6, h7, h8, hR _ _ _ _ _ _ h9⟩))))))))
  · obtain ⟨h1, l, h4, h5, h7⟩ := h
    exact .inr (.inr (.inr (.inr (.inr (.inr (.inr (.inr (.inr (.inl ⟨h1, l, h4, h5, wCs_id (fun e a b u v w => wI_sb hs (fun c a_q => hR V c a_q b u v) w) h7⟩)))))))))
  · obtain ⟨h1, a, g1, g2, g3, g4⟩ := h
    exact .inr (.inr (.inr (.inr (.inr (.inr (.inr (.inr (.inr (.inr (.inl ⟨h1, a, g1, g2, wE_sb hs g3, hR _ _ _ _ _ _ g4⟩))))))))))
  · obtain ⟨h1, h2, h3, l, h5, h6, h7⟩ := h
    exact .inr (.inr (.inr (.inr (.inr (.inr (.inr (.inr (.inr (.inr (.inr ⟨h1, h2, h3, l, h5, h6, wCs_id (fun e a b u v w => wG_sb hs (fun c a_q => hR V c a_q b u v) w) h7⟩))))))))))
theorem wP_sb {A : Nat → Nat → Int} {sb sb_q pb : Int} (hs : sb ≤ sb_q) : ∀ {n m : Nat} {V : Nat → Prop} {p lo hi s0 s1 : Int}, n ≤ m → wP A sb pb n V p lo hi s0 s1 → wP A sb_q pb m V p lo hi s0 s1
  | 0, _, _, _, _, _, _, _, _, h => h.elim
  | n + 1, 0, _, _, _, _, _, _, hn, _ => absurd hn (by omega)
  | n + 1, m + 1, V, p, lo, hi, s0, s1, hn, h => by
    unfold wP at h ⊢
    obtain ⟨h1, h2, h3, h4, h5, h6, h7, h8⟩ := h
    exact ⟨h1, h2, h3, h4, h5, h6, h7, wSt_sb hs (fun V_q e a b u v w => wP_sb hs (by omega) w) h8⟩
/-- what stands in a row: processes, choices, guards -/
def RQ (t : Nat) (A : Nat → Nat → Int) (sb pb : Int) (n : Nat) (V : Nat → Prop) (e a b u v : Int) : Prop :=
  match t with
  | 0 => wP A sb pb n V e a b u v
  | 1 => wI A V sb (wP A sb pb n V) e a b u v
  | _ => wG A V sb (wP A sb pb n V) e a b u v
theorem RQ_in {t : Nat} {A : Nat → Nat → Int} {sb pb : Int} {n : Nat} {V : Nat → Prop} {e a b u v : Int} (h : RQ t A sb pb n V e a b u v) : a ≤ e ∧ e < b := by
  match t, h with
  | 0, h => exact wP_in h
  | 1, h =>
    obtain ⟨w1, _, m, w2, w3, _⟩ := h
    omega
  | t + 2, h =>
    obtain ⟨w1, _, m, w2, w3, _⟩ := h
    omega
theorem RQ_sb {t : Nat} {A : Nat → Nat → Int} {sb sb_q pb : Int} {n m : Nat} {V : Nat → Prop} {e a b u v : Int} (hs : sb ≤ sb_q) (hn : n ≤ m) (h : RQ t A sb pb n V e a b u v) : RQ t A sb_q pb m V e a b u v := by
  match t, h with
  | 0, h => exact wP_sb hs hn h
  | 1, h => exact wI_sb hs (fun c a_q w => wP_sb hs hn w) h
  | t + 2, h => exact wG_sb hs (fun c a_q w => wP_sb hs hn w) h
theorem RQ_ag {t : Nat} {A A_q : Nat → Nat → Int} {sb pb : Int} {n : Nat} {V : Nat → Prop} {e a b u v : Int} (sg : Sg sb A A_q) (qg : Qg pb A A_q) (h0 : 0 ≤ a) (hv : v ≤ sb) (ax : Ax e a b A A_q) (h : RQ t A sb pb n V e a b u v) : RQ t A_q sb pb n V e a b u v := by
  match t, h with
  | 0, h => exact wP_ag sg qg h0 hv ax h
  | 1, h =>
    have q := h.1
    exact wI_ag h0 sg ax (fun c a_q w1 w2 => wP_ag sg qg (by omega) hv (Ax_ag (Ag_ax ax (by omega) (Int.le_refl _) (.inl (by omega)))) w2) h
  | t + 2, h =>
    have q := h.1
    exact wG_ag h0 sg ax (fun c a_q w1 w2 => wP_ag sg qg (by omega) hv (Ax_ag (Ag_ax ax (by omega) (Int.le_refl _) (.inl (by omega)))) w2) h
theorem wCs_inc {R : Int → Int → Int → Int → Int → Prop} (hR : ∀ e a b u v, R e a b u v → a ≤ e ∧ e < b) : ∀ {l : List Int} {lo hi s0 s1 : Int}, wCs R l lo hi s0 s1 → inc lo l
  | [], _, _, _, _, _ => trivial
  | e :: l, lo, hi, s0, s1, h => by
    obtain ⟨m, t, h1, h2, h3, h4, h5, h6⟩ := h
    have := hR _ _ _ _ _ h5
    exact ⟨this.1, inc_le (by omega) (wCs_inc hR h6)⟩
theorem RQs_ag {t : Nat} {A A_q : Nat → Nat → Int} {sb pb : Int} {n : Nat} {V : Nat → Prop} (sg : Sg sb A A_q) (qg : Qg pb A A_q) {l : List Int} {lo hi s0 s1 : Int} (h0 : 0 ≤ lo) (hv : s1 ≤ sb) (ag : Ag lo hi A A_q) (h : wCs (RQ t A sb pb n V) l lo hi s0 s1) : wCs (RQ t A_q sb pb n V) l lo hi s0 s1 :=
  wCs_im (fun e a b u v g1 g2 g3 g4 w => RQ_ag sg qg (by omega) (by omega) (Ax_ag (Ag_su ag g1 g2)) w) (Int.le_refl _) (Int.le_refl _) h
theorem RQs_nx {t : Nat} {A A_q : Nat → Nat → Int} {sb pb : Int} {n : Nat} {V : Nat → Prop} {z y : Int} (e0 : A_q = uA A 22 z.toNat y) (hz : 0 ≤ z) : ∀ {l : List Int} {lo hi s0 s1 : Int}, 0 ≤ lo → s1 ≤ sb → (z ∈ l ∨ z < lo ∨ hi ≤ z) → wCs (RQ t A sb pb n V) l lo hi s0 s1 → wCs (RQ t A_q sb pb n V) l lo hi s0 s1
  | [], _, _, _, _, _, _, _, h => h
  | e :: l, lo, hi, s0, s1, h0, hv, hm, h => by
    obtain ⟨m, u, h1, h2, h3, h4, h5, h6⟩ := h
    have sg : Sg sb A A_q := Sg_ne e0 rfl
    have qg : Qg pb A A_q := Qg_ne e0 rfl
    have g := RQ_in h5
    by_cases hze : z = e
    · subst hze
      exact ⟨m, u, h1, h2, h3, h4, RQ_ag sg qg h0 (by omega) (Ax_nx e0 hz) h5, RQs_nx e0 hz (by omega) hv (.inr (.inl g.2)) h6⟩
    · have hm' : z ∈ l ∨ z < lo ∨ hi ≤ z := by
        rcases hm with hm | hm
        · rcases List.mem_cons.mp hm with hm | hm
          · exact absurd hm hze
          · exact .inl hm
        · exact .inr hm
      have out : z < lo ∨ m ≤ z := by
        rcases hm' with hm' | hm'
        · exact .inr (wCs_in (fun _ _ _ _ _ w => RQ_in w) h6 z hm').1
        · omega
      refine ⟨m, u, h1, h2, h3, h4, RQ_ag sg qg h0 (by omega) (Ax_ag (Ag_st e0 hz out)) h5, RQs_nx e0 hz (by omega) hv ?_ h6⟩
      rcases hm' with hm' | hm'
      · exact .inl hm'
      · exact .inr (by omega)
/-- the row so far: the first at node n, the last one, how many -/
def CL (t : Nat) (A : Nat → Nat → Int) (sb pb : Int) (k : Nat) (V : Nat → Prop) (n last many lo hi s0 s1 : Int) : Prop := ∃ l : List Int, CH A (A 21 n.toNat) l ∧ wCs (RQ t A sb pb k V) l lo hi s0 s1 ∧ (l.length : Int) = many ∧ l.getLastD 0 = last
theorem CL_nil {t : Nat} {A : Nat → Nat → Int} {sb pb : Int} {k : Nat} {V : Nat → Prop} {n lo s0 : Int} (h : A 21 n.toNat = 0) : CL t A sb pb k V n 0 0 lo lo s0 s0 := ⟨[], h, ⟨rfl, rfl⟩, rfl, rfl⟩
theorem CL_sb {t : Nat} {A : Nat → Nat → Int} {sb sb_q pb : Int} {k : Nat} {V : Nat → Prop} {n last many lo hi s0 s1 : Int} (hs : sb ≤ sb_q) (h : CL t A sb pb k V n last many lo hi s0 s1) : CL t A sb_q pb k V n last many lo hi s0 s1 := by
  obtain ⟨l, h1, h2, h3, h4⟩ := h
  exact ⟨l, h1, wCs_id (fun e a b u v w => RQ_sb hs (Nat.le_refl _) w) h2, h3, h4⟩
theorem CL_eq {t : Nat} {A : Nat → Nat → Int} {sb pb : Int} {k : Nat} {V : Nat → Prop} {n last many lo hi s0 s1 last' many' lo_q hi_q s0' s1' : Int} (h : CL t A sb pb k V n last many lo hi s0 s1) (h1 : last = last') (h2 : many = many') (h3 : lo = lo_q) (h4 : hi = hi_q) (h5 : s0 = s0') (h6 : s1 = s1') : CL t A sb pb k V n last' many' lo_q hi_q s0' s1' := by
  subst h1 h2 h3 h4 h5 h6
  exact h
theorem CL_ag {t : Nat} {A A_q : Nat → Nat → Int} {sb pb : Int} {k : Nat} {V : Nat → Prop} {n last many lo hi s0 s1 : Int} (h0 : 0 ≤ lo) (hv : s1 ≤ sb) (sg : Sg sb A A_q) (qg : Qg pb A A_q) (ag : Ag lo hi A A_q) (hn : A_q 21 n.toNat = A 21 n.toNat) (h : CL t A sb pb k V n last many lo hi s0 s1) : CL t A_q sb pb k V n last many lo hi s0 s1 := by
  obtain ⟨l, h1, h2, h3, h4⟩ := h
  refine ⟨l, ?_, RQs_ag sg qg h0 hv ag h2, h3, h4⟩
  rw [hn]
  exact CH_ag (fun e he => ag 22 e.toNat rfl (by have := wCs_in (fun _ _ _ _ _ w => RQ_in w) h2 e he; omega) (by have := wCs_in (fun _ _ _ _ _ w => RQ_in w) h2 e he; omega)) h1
theorem CL_one {t : Nat} {A A_q : Nat → Nat → Int} {sb pb : Int} {k : Nat} {V : Nat → Prop} {n last many lo hi hi2 s0 s1 s2 y : Int} (e0 : A_q = uA A 21 n.toNat y) (hl : last = 0) (h0 : 0 ≤ n) (hn : n < lo) (hh : hi ≤ hi2) (hs : s1 ≤ s2) (hv : s2 ≤ sb) (hy : RQ t A sb pb k V y hi hi2 s1 s2) (hx : NX A y) (h : CL t A sb pb k V n last many lo hi s0 s1) : CL t A_q sb pb k V n y (many + 1) lo hi2 s0 s2 := by
  obtain ⟨l, h1, h2, h3, h4⟩ := h
  have hl' := CH_z h1 (h4.trans hl)
  subst hl'
  obtain ⟨q1, q2⟩ := h2
  subst q1 q2
  have sg : Sg sb A A_q := Sg_ne e0 rfl
  have qg : Qg pb A A_q := Qg_ne e0 rfl
  have hy1 := (RQ_in hy).1
  have r22 : A_q 22 y.toNat = A 22 y.toNat := by
    rw [e0]
    exact congrFun (uA_ne (by decide)) _
  have hm : many = 0 := by simpa using h3.symm
  refine ⟨[y], ?_, ⟨hi2, s2, hh, Int.le_refl _, hs, Int.le_refl _, RQ_ag sg qg (by omega) hv (Ax_ag (Ag_st e0 h0 (.inl (by omega)))) hy, rfl, rfl⟩, by simp [hm], rfl⟩
  rw [e0, uA_eq, ← e0]
  exact ⟨rfl, by omega, by rw [r22]; exact hx⟩
theorem CL_two {t : Nat} {A A_q : Nat → Nat → Int} {sb pb : Int} {k : Nat} {V : Nat → Prop} {n last many lo hi hi2 s0 s1 s2 y : Int} (e0 : A_q = uA A 22 last.toNat y) (hl : 0 < last) (h0 : 0 ≤ lo) (hh : hi ≤ hi2) (hs : s1 ≤ s2) (hv : s2 ≤ sb) (hy : RQ t A sb pb k V y hi hi2 s1 s2) (hx : NX A y) (h : CL t A sb pb k V n last many lo hi s0 s1) : CL t A_q sb pb k V n y (many + 1) lo hi2 s0 s2 := by
  obtain ⟨l, h1, h2, h3, h4⟩ := h
  have hR : ∀ e a b u v, RQ t A sb pb k V e a b u v → a ≤ e ∧ e < b := fun _ _ _ _ _ w => RQ_in w
  have hne : l ≠ [] := fun q => by
    subst q
    have h4 : (0 : Int) = last := h4
    omega
  have hin := last_in hne
  rw [h4] at hin
  have hlt := wCs_in hR h2 last hin
  have hy1 := (RQ_in hy).1
  have sg : Sg sb A A_q := Sg_ne e0 rfl
  have qg : Qg pb A A_q := Qg_ne e0 rfl
  refine ⟨l ++ [y], ?_, ?_, by simp; omega, by simp⟩
  · rw [show A_q 21 n.toNat = A 21 n.toNat by rw [e0]; exact congrFun (uA_ne (by decide)) _]
    refine CH_add (by omega) ?_ hne (fun e he => ?_) ?_ h1
    · rw [e0, uA_ni (by omega)]
      exact hx
    · have := inc_last (wCs_inc hR h2) e he
      have := CH_pos h1 e (List.dropLast_subset l he)
      rw [h4] at *
      rw [e0, uA_ni (by omega)]
    · rw [h4, e0]
      exact uA_eq
  · exact wCs_add hh hs (RQ_ag sg qg (by omega) hv (Ax_ag (Ag_st e0 (by omega) (.inl (by omega)))) hy) (RQs_nx e0 (by omega) h0 (by omega) (.inl hin) h2)
