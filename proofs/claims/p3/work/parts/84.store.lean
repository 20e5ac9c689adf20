/-! what a register leads to -/
theorem Dtr_d {m ty : Int → Int} {W b lo hi z : Int} {l : List Cp} {r : Rt} {n v : Int} (h : Dtr l r n) (k : Cok m ty W b lo hi z l) (a : Rok m W b r v) {x : Int} (h1 : v ≤ x) (h2 : x < v + n) : Cl m W l 1 x 0 ∧ (lo ≤ x → x < hi → ∃ s ∈ l, qK s = 1 ∧ W + qO s ≤ x ∧ x < W + qO s + qN s) := by
  obtain ⟨q, hq, c | c⟩ := h
  · obtain ⟨c1, c2, c3, c4⟩ := c
    have n1 := (k.2.1 q hq).1.1
    have b1 := (k.1 1 (W + qO q) 0 ⟨q, hq, Or.inl ⟨c2, rfl, by omega, by omega⟩⟩).2.1
    have b2 := (k.1 1 (W + qO q + qN q - 1) 0 ⟨q, hq, Or.inl ⟨c2, rfl, by omega, by omega⟩⟩).2.2.1
    have := a.2.1 c1 (by omega) (by omega)
    exact ⟨⟨q, hq, Or.inl ⟨c2, rfl, by omega, by omega⟩⟩, fun _ _ => ⟨q, hq, c2, by omega, by omega⟩⟩
  · obtain ⟨c1, c2, c3, c4⟩ := c
    have n1 := (k.2.1 q hq).1.1
    have b1 := (k.1 1 (m (W + qO q)) 0 ⟨q, hq, Or.inr (Or.inr (Or.inr (Or.inl ⟨c2, rfl, by omega, by omega⟩)))⟩).2.1
    have b2 := (k.1 1 (m (W + qO q) + qN q - 1) 0 ⟨q, hq, Or.inr (Or.inr (Or.inr (Or.inl ⟨c2, rfl, by omega, by omega⟩)))⟩).2.2.1
    have := a.2.2.1 c1 (Or.inr ⟨by rw [← c3]; omega, by rw [← c3]; omega⟩)
    rw [← c3] at this
    refine ⟨⟨q, hq, Or.inr (Or.inr (Or.inr (Or.inl ⟨c2, rfl, by omega, by omega⟩)))⟩, fun x1 x2 => ?_⟩
    obtain ⟨_, d⟩ := (k.2.1 q hq).2.2.1.1 c2 x (by omega) (by omega) x1 x2
    exact d
theorem Chr_b {m ty : Int → Int} {W b lo hi z : Int} {l : List Cp} {r : Rt} {u : Int} (h : Chr l r u) (k : Cok m ty W b lo hi z l) (h1 : r.1 = 2) : 0 ≤ W + r.2.1 ∧ W + r.2.1 + r.2.2 ≤ 4016 := by
  obtain ⟨q, hq, _, c | c | c⟩ := h
  · have := c.1
    omega
  · obtain ⟨c1, c2, c3, c4⟩ := c
    have n1 := (k.2.1 q hq).1.1
    have b1 := (k.1 2 (W + qO q) (qU q) ⟨q, hq, Or.inr (Or.inl ⟨c2, rfl, by omega, by omega, rfl⟩)⟩).2.1
    have b2 := (k.1 2 (W + qO q + qN q - 1) (qU q) ⟨q, hq, Or.inr (Or.inl ⟨c2, rfl, by omega, by omega, rfl⟩)⟩).2.2.1
    omega
  · have := c.1
    omega
theorem Chr_d {m ty : Int → Int} {W b lo hi z : Int} {l : List Cp} {r : Rt} {u v : Int} (h : Chr l r u) (k : Cok m ty W b lo hi z l) (hl : 16 ≤ lo) (a : Rok m W b r v) : (∃ w, sbt w u ∧ Cl m W l 2 v w) ∧ (lo ≤ v → v < hi → ∃ s ∈ l, qK s = 2 ∧ W + qO s ≤ v ∧ v < W + qO s + qN s) := by
  obtain ⟨q, hq, hs, c | c | c⟩ := h
  · obtain ⟨c1, c2, c3⟩ := c
    have e := a.2.2.2.1 c1
    have := (k.2.1 q hq).2.2.2.2.2 c2
    exact ⟨⟨qU q, hs, q, hq, Or.inr (Or.inr (Or.inr (Or.inr (Or.inr (Or.inr (Or.inl ⟨c2, rfl, by omega, rfl⟩))))))⟩, fun x1 x2 => by omega⟩
  · obtain ⟨c1, c2, c3, c4⟩ := c
    have b := Chr_b ⟨q, hq, hs, Or.inr (Or.inl ⟨c1, c2, c3, c4⟩)⟩ k c1
    have := a.2.1 c1 (by omega) (by omega)
    exact ⟨⟨qU q, hs, q, hq, Or.inr (Or.inl ⟨c2, rfl, by omega, by omega, rfl⟩)⟩, fun _ _ => ⟨q, hq, c2, by omega, by omega⟩⟩
  · obtain ⟨c1, c2, c3, c4⟩ := c
    have := a.2.2.1 c1 (Or.inl c2)
    rw [← c4, c2] at this
    have ev : v = m (W + qO q) := by omega
    refine ⟨⟨qU q, hs, q, hq, Or.inr (Or.inr (Or.inr (Or.inr (Or.inr (Or.inl ⟨by rcases c3 with c3 | c3 <;> omega, rfl, ev, rfl⟩)))))⟩, fun x1 x2 => ?_⟩
    have t := (k.2.1 q hq).2.2.1
    rcases c3 with c3 | c3
    · have := t.2.1 c3
      omega
    · rw [ev]
      exact t.2.2 (Or.inl c3) (by omega) (by omega)
theorem Sup_c {l : List Cp} {q0 : Cp} {r : Rt} (h : Sup l r) : Sup (q0 :: l) r := fun q => by
  obtain ⟨p, hp, p1, p2⟩ := h q
  exact ⟨p, List.mem_cons_of_mem _ hp, p1, p2⟩
theorem Kpt_o {m : Int → Int} {W y o : Int} {l : List Cp} (old : ∀ t x u, Cl m W l t x u → x ≠ y) (k : Kpt l o) : W + o ≠ y := by
  obtain ⟨p, hp, p1, p2⟩ := k
  subst p1
  rcases p2 with p2 | p2 | p2 | p2
  · exact old _ _ _ (Cl_p hp (Or.inl p2))
  · exact old _ _ _ (Cl_p hp (Or.inr (Or.inl p2)))
  · exact old _ _ _ (Cl_k hp (Or.inl p2))
  · exact old _ _ _ (Cl_p hp (Or.inr (Or.inr (Or.inl p2))))
/-- a pointer to a channel is written -/
theorem MI_ptc {K : Kd} {N : Int} {m ty : Int → Int} {g : Int → Fm} {r j o v u kk : Int} {R : Rt} {e : Cx} (h : MI K N m ty g) (hr : fOn (g r) = 1) (hu : fSu (g r) = 0) (hx : fSx (g r) = 0) (hd : cMd (fCx (g r)) = 0)
    (hf : Fre (fCx (g r)) o 1) (hk : kk = 8 ∨ kk = 9) (hc : Chr (cCp (fCx (g r))) (cA (fCx (g r))) u) (hR : kk = 9 → R = cA (fCx (g r)) ∧ o ≤ -4) (hv : Rok m r (fPb (g r)) (cA (fCx (g r))) v) (sA : Sup (cCp (fCx (g r))) (cA (fCx (g r))))
    (o1 : Gd K N (fun _ _ => False) j e) (o2 : e.1 = (fCx (g r)).1) (o7 : e.2.2.2 = (fCx (g r)).2.2.2) (o8 : Sup (cCp e) (cA e) ∧ Sup (cCp e) (cB e) ∧ Sup (cCp e) (cC e)) (he : cCp e = (kk, o, 1, u, R) :: cCp (fCx (g r))) : MI K N (um m (r + o) v) (ut ty (r + o) 1 3) (ug g r (mv (g r) j e)) := by
  obtain ⟨a1, a2, a3, a4, a5, a6⟩ := h.1 r hr
  have hf0 : fQ (g r) = cCp (fCx (g r)) := if_neg (by omega)
  rw [hf0] at a3
  obtain ⟨f1, f2, f3, f4⟩ := Fre_r hf a1 (by omega)
  have hm : ∀ x, ¬ (r + o ≤ x ∧ x < r + o + 1) → um m (r + o) v x = m x := fun x q => um_n (by omega)
  have L1 := a1.1
  have L4 := a1.2.2.2.1
  have vv : um m (r + o) v (r + o) = v := um_e
  have old : ∀ {t x u : Int}, Cl m r (cCp (fCx (g r))) t x u → x ≠ r + o := fun {t x u} c e => Cl_f hf a3 f1 f2 L1 c (by omega)
  obtain ⟨w, w1, w2⟩ := (Chr_d hc a3 L1 hv).1
  have d := a3.1 _ _ _ w2
  have d' := old w2
  have n1 : ¬ kk = 1 := by omega
  have n2 : ¬ kk = 2 := by omega
  have n3 : ¬ kk = 3 := by omega
  have n4 : ¬ kk = 4 := by omega
  have n5 : ¬ kk = 5 := by omega
  have n6 : ¬ (kk = 6 ∨ kk = 7) := by omega
  have cw : ∀ k x t, Cw (um m (r + o) v) r (kk, o, 1, u, R) k x t → (k = 3 ∧ x = r + o) ∨ (k = 2 ∧ x = v ∧ t = u) := fun k x t c => by
    unfold Cw at c
    simp only [vv] at c
    rcases c with c | c | c | c | c | c | c | c
    · exact absurd c.1 n1
    · exact absurd c.1 n2
    · exact absurd c.1 n3
    · exact absurd c.1 n3
    · exact Or.inl c.2
    · exact Or.inr c.2
    · exact absurd c.1 n5
    · exact absurd c.1 n6
  refine MI_new (k := 3) h hr hu hx hd (by omega) hf hm (fun q => absurd q (by omega)) o1 o2 o7 o8 (fun c => ?_) (fun p k x t c => ?_)
  · rw [he]
    refine Cok_c c (fun k x t q => ?_) (by show (1 : Int) ≤ 1; omega) ?_ ⟨fun q => absurd q n3, fun q => absurd q n4, fun _ x1 x2 => ?_⟩ (fun q => absurd (Or.inr q) n6) (fun q => ?_) (fun q => absurd q n5) n4 (fun q => absurd q n2) (fun q => absurd q n2)
    · rcases cw k x t q with ⟨rfl, rfl⟩ | ⟨rfl, rfl, tu⟩
      · exact ⟨ut_i (by omega), by omega, by omega, Or.inl (by omega)⟩
      · refine ⟨(ut_o (by omega)).trans d.1, d.2.1, d.2.2.1, ?_⟩
        rcases d.2.2.2 with y | y
        · exact Or.inl y
        · refine Or.inr ⟨rfl, ?_⟩
          rw [ut_o (by omega)]
          exact sbt_t y.2 (by rw [tu]; exact w1)
    · unfold Own wN
      show kk = 5 ∨ (1 ≤ o ∧ o + (if kk = 1 ∨ kk = 2 then 1 else if kk = 5 then 0 else 1) ≤ _) ∨ (o + (if kk = 1 ∨ kk = 2 then 1 else if kk = 5 then 0 else 1) ≤ -3 ∧ _) ∨ _
      rw [if_neg (by omega), if_neg n5]
      rcases hf.1 with w | w
      · exact Or.inr (Or.inl w)
      · exact Or.inr (Or.inr (Or.inl ⟨by omega, by omega⟩))
    · have x1' : fLo (g r) ≤ v := by
        have := x1
        simp only [vv] at this
        exact this
      have x2' : v < fHi (g r) := by
        have := x2
        simp only [vv] at this
        exact this
      obtain ⟨s, hs, e1, e2, e3⟩ := (Chr_d hc a3 L1 hv).2 x1' x2'
      simp only [vv]
      exact ⟨s, List.mem_cons_of_mem _ hs, e1, e2, e3⟩
    · obtain ⟨rfl, q2⟩ := hR (by rcases q with q | q; exact q; exact absurd q.1 n3)
      refine ⟨Rok_m (m := m) (fun q3 => ?_) ?_, sA⟩
      · show um m (r + o) v (r + (cA (fCx (g r))).2.1) = _
        exact um_n (Kpt_o (W := r) (fun t x u c => old c) (sA q3))
      · show Rok m r (fPb (g r)) (cA (fCx (g r))) (um m (r + o) v (r + o))
        rw [vv]
        exact hv
  · rw [he] at c
    obtain ⟨q, hq, c⟩ := c
    rcases List.mem_cons.mp hq with e_q | hq
    · subst e_q
      rcases cw k x t c with ⟨rfl, rfl⟩ | ⟨rfl, rfl, rfl⟩
      · exact Or.inr ⟨by omega, by omega⟩
      · exact Or.inl ⟨w, w1, w2⟩
    · exact Or.inl ⟨t, sbt_r, (Cl_m p).mp ⟨q, hq, c⟩⟩
/-- data have no bits -/
theorem Cl_1 {m : Int → Int} {W : Int} {l : List Cp} {x u u_q : Int} (h : Cl m W l 1 x u) : Cl m W l 1 x u_q := by
  obtain ⟨q_q, hq_q, d⟩ := h
  refine ⟨q_q, hq_q, ?_⟩
  rcases d with d | d | d | d | d | d | d | d
  · exact Or.inl d
  · exact absurd d.2.1 (by decide)
  · exact absurd d.2.1 (by decide)
  · exact Or.inr (Or.inr (Or.inr (Or.inl d)))
  · exact absurd d.2.1 (by decide)
  · exact absurd d.2.1 (by decide)
  · exact absurd d.2.1 (by decide)
  · exact absurd d.2.1 (by decide)
/-- a pointer to data is written -/
theorem MI_ptd {K : Kd} {N : Int} {m ty : Int → Int} {g : Int → Fm} {r j o v n kk : Int} {R : Rt} {e : Cx} (h : MI K N m ty g) (hr : fOn (g r) = 1) (hu : fSu (g r) = 0) (hx : fSx (g r) = 0) (hd : cMd (fCx (g r)) = 0)
    (hf : Fre (fCx (g r)) o 1) (hk : kk = 3) (hn : 1 ≤ n) (ho : o < 0) (hc : Dtr (cCp (fCx (g r))) (cA (fCx (g r))) n) (hR : R = cA (fCx (g r))) (hv : Rok m r (fPb (g r)) (cA (fCx (g r))) v) (sA : Sup (cCp (fCx (g r))) (cA (fCx (g r))))
    (o1 : Gd K N (fun _ _ => False) j e) (o2 : e.1 = (fCx (g r)).1) (o7 : e.2.2.2 = (fCx (g r)).2.2.2) (o8 : Sup (cCp e) (cA e) ∧ Sup (cCp e) (cB e) ∧ Sup (cCp e) (cC e)) (he : cCp e = (kk, o, n, 0, R) :: cCp (fCx (g r))) : MI K N (um m (r + o) v) (ut ty (r + o) 1 3) (ug g r (mv (g r) j e)) := by
  obtain ⟨a1, a2, a3, a4, a5, a6⟩ := h.1 r hr
  have hf0 : fQ (g r) = cCp (fCx (g r)) := if_neg (by omega)
  rw [hf0] at a3
  obtain ⟨f1, f2, f3, f4⟩ := Fre_r hf a1 (by omega)
  have hm : ∀ x, ¬ (r + o ≤ x ∧ x < r + o + 1) → um m (r + o) v x = m x := fun x q => um_n (by omega)
  have L1 := a1.1
  have L4 := a1.2.2.2.1
  have vv : um m (r + o) v (r + o) = v := um_e
  have old : ∀ {t x u : Int}, Cl m r (cCp (fCx (g r))) t x u → x ≠ r + o := fun {t x u} c e => Cl_f hf a3 f1 f2 L1 c (by omega)
  have n1 : ¬ kk = 1 := by omega
  have n2 : ¬ kk = 2 := by omega
  have n4 : ¬ kk = 4 := by omega
  have n5 : ¬ kk = 5 := by omega
  have n6 : ¬ (kk = 6 ∨ kk = 7) := by omega
  have n8 : ¬ (kk = 4 ∨ kk = 8 ∨ kk = 9) := by omega
  have cw : ∀ k x t, Cw (um m (r + o) v) r (kk, o, n, 0, R) k x t → (k = 3 ∧ x = r + o) ∨ (k = 1 ∧ v ≤ x ∧ x < v + n) := fun k x t c => by
    unfold Cw at c
    simp only [vv] at c
    rcases c with c | c | c | c | c | c | c | c
    · exact absurd c.1 n1
    · exact absurd c.1 n2
    · exact Or.inl c.2
    · exact Or.inr c.2
    · exact absurd c.1 n8
    · exact absurd c.1 n8
    · exact absurd c.1 n5
    · exact absurd c.1 n6
  refine MI_new (k := 3) h hr hu hx hd (by omega) hf hm (fun q => absurd q (by omega)) o1 o2 o7 o8 (fun c => ?_) (fun p k x t c => ?_)
  · rw [he]
    refine Cok_c c (fun k x t q => ?_) hn ?_ ⟨fun _ x x1 x2 x3 x4 => ⟨ho, ?_⟩, fun q => absurd q n4, fun q => absurd (Or.inr q) n8⟩ (fun q => absurd (Or.inr q) n6) (fun q => ?_) (fun q => absurd q n5) n4 (fun q => absurd q n2) (fun q => absurd q n2)
    · rcases cw k x t q with ⟨rfl, rfl⟩ | ⟨rfl, q1, q2⟩
      · exact ⟨ut_i (by omega), by omega, by omega, Or.inl (by omega)⟩
      · have w2 := (Dtr_d hc a3 hv q1 q2).1
        have d := a3.1 _ _ _ w2
        have d' := old w2
        exact ⟨(ut_o (by omega)).trans d.1, d.2.1, d.2.2.1, by rcases d.2.2.2 with y | y; exact Or.inl y; exact absurd y.1 (by decide)⟩
    · unfold Own wN
      show kk = 5 ∨ (1 ≤ o ∧ o + (if kk = 1 ∨ kk = 2 then n else if kk = 5 then 0 else 1) ≤ _) ∨ (o + (if kk = 1 ∨ kk = 2 then n else if kk = 5 then 0 else 1) ≤ -3 ∧ _) ∨ _
      rw [if_neg (by omega), if_neg n5]
      rcases hf.1 with w | w
      · exact Or.inr (Or.inl w)
      · exact Or.inr (Or.inr (Or.inl ⟨by omega, by omega⟩))
    · have x1' : v ≤ x := by
        have := x1
        simp only [vv] at this
        exact this
      have x2' : x < v + n := by
        have := x2
        simp only [vv] at this
        exact this
      obtain ⟨s, hs, d⟩ := (Dtr_d hc a3 hv x1' x2').2 x3 x4
      exact ⟨s, List.mem_cons_of_mem _ hs, d⟩
    · subst hR
      refine ⟨Rok_m (m := m) (fun q3 => ?_) ?_, sA⟩
      · show um m (r + o) v (r + (cA (fCx (g r))).2.1) = _
        exact um_n (Kpt_o (W := r) (fun t x u c => old c) (sA q3))
      · show Rok m r (fPb (g r)) (cA (fCx (g r))) (um m (r + o) v (r + o))
        rw [vv]
        exact hv
  · rw [he] at c
    obtain ⟨q, hq, c⟩ := c
    rcases List.mem_cons.mp hq with e_q | hq
    · subst e_q
      rcases cw k x t c with ⟨rfl, rfl⟩ | ⟨rfl, q1, q2⟩
      · exact Or.inr ⟨by omega, by omega⟩
      · exact Or.inl ⟨t, sbt_r, Cl_1 (Dtr_d hc a3 hv q1 q2).1⟩
    · exact Or.inl ⟨t, sbt_r, (Cl_m p).mp ⟨q, hq, c⟩⟩
/-- a word that is kept is written -/
theorem MI_kep {K : Kd} {N : Int} {m ty : Int → Int} {g : Int → Fm} {r j o v u kk : Int} {e : Cx} (h : MI K N m ty g) (hr : fOn (g r) = 1) (hu : fSu (g r) = 0) (hx : fSx (g r) = 0) (hd : cMd (fCx (g r)) = 0)
    (hf : Fre (fCx (g r)) o 1) (hk : kk = 6 ∨ kk = 7) (hR : kk = 7 → v = u)
    (o1 : Gd K N (fun _ _ => False) j e) (o2 : e.1 = (fCx (g r)).1) (o7 : e.2.2.2 = (fCx (g r)).2.2.2) (o8 : Sup (cCp e) (cA e) ∧ Sup (cCp e) (cB e) ∧ Sup (cCp e) (cC e)) (he : cCp e = (kk, o, 1, u, r0) :: cCp (fCx (g r))) : MI K N (um m (r + o) v) (ut ty (r + o) 1 4) (ug g r (mv (g r) j e)) := by
  obtain ⟨a1, a2, a3, a4, a5, a6⟩ := h.1 r hr
  obtain ⟨f1, f2, f3, f4⟩ := Fre_r hf a1 (by omega)
  have hm : ∀ x, ¬ (r + o ≤ x ∧ x < r + o + 1) → um m (r + o) v x = m x := fun x q => um_n (by omega)
  have L1 := a1.1
  have L4 := a1.2.2.2.1
  have vv : um m (r + o) v (r + o) = v := um_e
  have n1 : ¬ kk = 1 := by omega
  have n2 : ¬ kk = 2 := by omega
  have n3 : ¬ kk = 3 := by omega
  have n4 : ¬ kk = 4 := by omega
  have n5 : ¬ kk = 5 := by omega
  have n8 : ¬ (kk = 4 ∨ kk = 8 ∨ kk = 9) := by omega
  have cw : ∀ k x t, Cw (um m (r + o) v) r (kk, o, 1, u, r0) k x t → k = 4 ∧ x = r + o := fun k x t c => by
    unfold Cw at c
    rcases c with c | c | c | c | c | c | c | c
    · exact absurd c.1 n1
    · exact absurd c.1 n2
    · exact absurd c.1 n3
    · exact absurd c.1 n3
    · exact absurd c.1 n8
    · exact absurd c.1 n8
    · exact absurd c.1 n5
    · exact c.2
  refine MI_new (k := 4) h hr hu hx hd (by omega) hf hm (fun q => absurd q (by omega)) o1 o2 o7 o8 (fun c => ?_) (fun p k x t c => ?_)
  · rw [he]
    refine Cok_c c (fun k x t q => ?_) (by show (1 : Int) ≤ 1; omega) ?_ ⟨fun q => absurd q n3, fun q => absurd q n4, fun q => absurd (Or.inr q) n8⟩ (fun q => ?_) (fun q => by rcases q with q | q; exact absurd (Or.inr (Or.inr q)) n8; exact absurd q.1 n3) (fun q => absurd q n5) n4 (fun q => absurd q n2) (fun q => absurd q n2)
    · obtain ⟨rfl, rfl⟩ := cw k x t q
      exact ⟨ut_i (by omega), by omega, by omega, Or.inl (by omega)⟩
    · unfold Own wN
      show kk = 5 ∨ (1 ≤ o ∧ o + (if kk = 1 ∨ kk = 2 then 1 else if kk = 5 then 0 else 1) ≤ _) ∨ (o + (if kk = 1 ∨ kk = 2 then 1 else if kk = 5 then 0 else 1) ≤ -3 ∧ _) ∨ _
      rw [if_neg (by omega), if_neg n5]
      rcases hf.1 with w | w
      · exact Or.inr (Or.inl w)
      · exact Or.inr (Or.inr (Or.inl ⟨by omega, by omega⟩))
    · exact vv.trans (hR q)
  · rw [he] at c
    obtain ⟨q, hq, c⟩ := c
    rcases List.mem_cons.mp hq with e_q | hq
    · subst e_q
      obtain ⟨rfl, rfl⟩ := cw k x t c
      exact Or.inr ⟨by omega, by omega⟩
    · exact Or.inl ⟨t, sbt_r, (Cl_m p).mp ⟨q, hq, c⟩⟩
/-- a store into a word of the frame -/
theorem MI_stl {K : Kd} {N : Int} {m ty : Int → Int} {g : Int → Fm} {r j o v : Int} {l : List Cp} (h : MI K N m ty g) (hr : fOn (g r) = 1) (hu : fSu (g r) = 0) (hx : fSx (g r) = 0) (hd : cMd (fCx (g r)) = 0)
    (hn : New (fCx (g r)) o l) (hv : Rok m r (fPb (g r)) (cA (fCx (g r))) v) (o1 : Gd K N (fun _ _ => False) j (sC (sR (fCx (g r)) (cB (fCx (g r))) (cC (fCx (g r))) (cC (fCx (g r)))) l)) :
    ∃ ty_q, (∀ x, x < 16 → ty_q x = ty x) ∧ MI K N (um m (r + o) v) ty_q (ug g r (mv (g r) j (sC (sR (fCx (g r)) (cB (fCx (g r))) (cC (fCx (g r))) (cC (fCx (g r)))) l))) := by
  obtain ⟨a1, a2, a3, a4, a5, a6⟩ := h.1 r hr
  have hf0 : fQ (g r) = cCp (fCx (g r)) := if_neg (by omega)
  rw [hf0] at a3
  have sA := a4.2.2.2.2.2.2.1
  have sB := a4.2.2.2.2.2.2.2.1
  have sCc := a4.2.2.2.2.2.2.2.2.1
  rcases hn with ⟨⟨q, hq, q1, q2, q3⟩, rfl⟩ | ⟨hf, hn⟩
  · have ht : ty (r + o) = 1 := (a3.1 1 (r + o) 0 ⟨q, hq, Or.inl ⟨q1, rfl, by omega, by omega⟩⟩).1
    exact ⟨ty, fun _ _ => rfl, MI_reg (MI_dat h hr (by omega) (by omega) ht) hr hu hx o1 rfl (Or.inl rfl) rfl ⟨sB, sCc, sCc⟩ (fun y _ q => absurd q (by omega))⟩
  · obtain ⟨f1, f2, f3, f4⟩ := Fre_r hf a1 (by omega)
    have hm : ∀ x, ¬ (r + o ≤ x ∧ x < r + o + 1) → um m (r + o) v x = m x := fun x q => um_n (by omega)
    have L1 := a1.1
    have L4 := a1.2.2.2.1
    rcases hn with rfl | ⟨n, n1, n2, n3, rfl⟩ | ⟨u, n1, n3, rfl⟩ | ⟨u, n1, n3, n4, rfl⟩ | rfl | ⟨n1, rfl⟩
    · exact ⟨_, by intro x hx; exact ut_o (by omega), MI_new (k := 1) h hr hu hx hd (by omega) hf hm (fun q => absurd q (by omega)) o1 rfl rfl ⟨sB, sCc, sCc⟩ (fun c => c) (fun p k x u c => Or.inl ⟨u, sbt_r, (Cl_m p).mp c⟩)⟩
    · exact ⟨_, by intro x hx; exact ut_o (by omega), MI_ptd h hr hu hx hd hf rfl n2 n1 n3 rfl hv sA o1 rfl rfl ⟨Sup_c sB, Sup_c sCc, Sup_c sCc⟩ rfl⟩
    · exact ⟨_, by intro x hx; exact ut_o (by omega), MI_ptc h hr hu hx hd hf (Or.inl rfl) n3 (fun q => absurd q (by decide)) hv sA o1 rfl rfl ⟨Sup_c sB, Sup_c sCc, Sup_c sCc⟩ rfl⟩
    · exact ⟨_, by intro x hx; exact ut_o (by omega), MI_ptc h hr hu hx hd hf (Or.inr rfl) n3 (fun _ => ⟨rfl, by rcases hf.1 with w | w <;> omega⟩) hv sA o1 rfl rfl ⟨Sup_c sB, Sup_c sCc, Sup_c sCc⟩ rfl⟩
    · exact ⟨_, by intro x hx; exact ut_o (by omega), MI_kep (v := v) h hr hu hx hd hf (Or.inl rfl) (fun q => absurd q (by decide)) o1 rfl rfl ⟨Sup_c sB, Sup_c sCc, Sup_c sCc⟩ rfl⟩
    · exact ⟨_, by intro x hx; exact ut_o (by omega), MI_kep (v := v) h hr hu hx hd hf (Or.inr rfl) (fun _ => hv.2.2.2.1 n1) o1 rfl rfl ⟨Sup_c sB, Sup_c sCc, Sup_c sCc⟩ rfl⟩
