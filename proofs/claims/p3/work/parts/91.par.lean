/-! PAR: the branches' frames -/
theorem pw_or {α : Type} {R : α → α → Prop} : ∀ {l : List α}, l.Pairwise R → ∀ {a b : α}, a ∈ l → b ∈ l → a = b ∨ R a b ∨ R b a
  | [], _, a, b, ha, _ => absurd ha List.not_mem_nil
  | x :: l, h, a, b, ha, hb => by
    obtain ⟨h1, h2⟩ := List.pairwise_cons.mp h
    rcases List.mem_cons.mp ha with e | ha1 <;> rcases List.mem_cons.mp hb with e_q | hb1
    · exact Or.inl (e.trans e_q.symm)
    · rw [e]
      exact Or.inr (Or.inl (h1 b hb1))
    · rw [e_q]
      exact Or.inr (Or.inr (h1 a ha1))
    · exact pw_or h2 ha1 hb1
theorem Prt_c {m : Int → Int} {r d : Int} {l : List Cp} {q : Cp} (h : Prt l d q) {k x u : Int} (c : Cw m (r - d) q k x u) : ∃ v, sbt v u ∧ Cl m r l k x v := by
  obtain ⟨q0, hq0, e, a | a | a | a | a⟩ := h
  · rcases c with c | c | c | c | c | c | c | c <;> first | omega | skip
    exact ⟨u, sbt_r, q0, hq0, Or.inl ⟨by omega, c.2.1, by omega, by omega⟩⟩
  · rcases c with c | c | c | c | c | c | c | c <;> first | omega | skip
    refine ⟨qU q0, ?_, q0, hq0, Or.inr (Or.inl ⟨by omega, c.2.1, by omega, by omega, rfl⟩)⟩
    rw [c.2.2.2.2]
    exact a.2.2.2
  · have ea : r - d + qO q = r + qO q0 := by omega
    unfold Cw at c
    rw [ea] at c
    rcases c with c | c | c | c | c | c | c | c <;> first | omega | skip
    · exact ⟨u, sbt_r, q0, hq0, Or.inr (Or.inr (Or.inl ⟨by omega, c.2.1, c.2.2⟩))⟩
    · exact ⟨u, sbt_r, q0, hq0, Or.inr (Or.inr (Or.inr (Or.inl ⟨by omega, c.2.1, by omega, by omega⟩)))⟩
  · have ea : r - d + qO q = r + qO q0 := by omega
    unfold Cw at c
    rw [ea] at c
    rcases c with c | c | c | c | c | c | c | c <;> first | omega | skip
    · exact ⟨u, sbt_r, q0, hq0, Or.inr (Or.inr (Or.inr (Or.inr (Or.inl ⟨by omega, c.2.1, c.2.2⟩))))⟩
    · refine ⟨qU q0, ?_, q0, hq0, Or.inr (Or.inr (Or.inr (Or.inr (Or.inr (Or.inl ⟨by omega, c.2.1, c.2.2.1, rfl⟩)))))⟩
      rw [c.2.2.2]
      exact a.2.2
  · rcases c with c | c | c | c | c | c | c | c <;> first | omega | skip
    refine ⟨qU q0, ?_, q0, hq0, Or.inr (Or.inr (Or.inr (Or.inr (Or.inr (Or.inr (Or.inl ⟨by omega, c.2.1, by omega, rfl⟩))))))⟩
    rw [c.2.2.2]
    exact a.2.2
/-- a branch's rights hold where those around it do -/
theorem Prt_k {m ty : Int → Int} {r b b_q lo hi z d lo_q hi_q z' : Int} {l l_q : List Cp} (hl : 16 ≤ lo) (hh : r < hi) (ab : ∀ q ∈ l, qK q ≠ 8 ∧ qK q ≠ 9 ∧ (qK q ≠ 5 → 1 ≤ qO q)) (k : Cok m ty r b lo hi z l) (h : ∀ q ∈ l_q, 1 ≤ qN q ∧ Prt l d q) (h1 : lo ≤ lo_q) (h2 : hi_q ≤ r) (hd : 0 ≤ d) : Cok m ty (r - d) b_q lo_q hi_q z' l_q := by
  have cl : ∀ {k x u}, Cl m (r - d) l_q k x u → ∃ v, sbt v u ∧ Cl m r l k x v := fun {k x u} ⟨q, hq, c⟩ => Prt_c (h q hq).2 c
  refine ⟨fun t x u c => ?_, fun q hq => ?_, fun q hq e4 => ⟨fun s hs e4' hn => ?_, fun s hs e2 => ?_⟩⟩
  · obtain ⟨v, sv, c⟩ := cl c
    obtain ⟨y1, y2, y3, y4⟩ := k.1 t x v c
    refine ⟨y1, y2, y3, ?_⟩
    rcases y4 with y | y
    · exact Or.inl y
    · exact Or.inr ⟨y.1, sbt_t y.2 sv⟩
  · obtain ⟨q0, hq0, e, a⟩ := (h q hq).2
    obtain ⟨y1, y2, y3⟩ := ab q0 hq0
    obtain ⟨c1, c2, c3, c4, c5, c6⟩ := k.2.1 q0 hq0
    refine ⟨⟨(h q hq).1, fun e2 => ?_⟩, ?_, ⟨fun e3 x x1 x2 x3 x4 => ?_, fun e4 => ?_, fun e8 => ?_⟩, fun e7 => ?_, fun e9 => ?_, fun e5 => ?_⟩
    · have := c1.2 (by omega)
      rcases a with a | a | a | a | a <;> omega
    · by_cases q5 : qK q = 5
      · exact Or.inl q5
      · have := y3 (by omega)
        refine Or.inr (Or.inr (Or.inr ?_))
        rcases a with a | a | a | a | a <;> omega
    · obtain ⟨v, _, c⟩ := cl (k := 1) (x := x) (u := 0) ⟨q, hq, Or.inr (Or.inr (Or.inr (Or.inl ⟨e3, rfl, x1, x2⟩)))⟩
      have := Abv_n hl hh ab k c
      omega
    · obtain ⟨v, _, c⟩ := cl (k := 2) (x := m (r - d + qO q)) (u := qU q) ⟨q, hq, Or.inr (Or.inr (Or.inr (Or.inr (Or.inr (Or.inl ⟨Or.inl e4, rfl, rfl, rfl⟩)))))⟩
      have := Abv_n hl hh ab k c
      omega
    · rcases a with a | a | a | a | a <;> omega
    · rcases a with a | a | a | a | a <;> omega
    · have := y3
      rcases a with a | a | a | a | a
      · omega
      · omega
      · have := y3 (by omega)
        omega
      · omega
      · omega
    · have := c6 (by omega)
      rcases a with a | a | a | a | a <;> omega
  · obtain ⟨q0, hq0, e, a⟩ := (h q hq).2
    obtain ⟨s0, hs0, e_q, a_q⟩ := (h s hs).2
    have o1 : qO q0 = qO q - d := by rcases a with a | a | a | a | a <;> omega
    have o2 : qO s0 = qO s - d := by rcases a_q with a | a | a | a | a <;> omega
    have := (k.2.2 q0 hq0 (by omega)).1 s0 hs0 (by omega) (by omega)
    rw [show r - d + qO q = r + qO q0 by omega, show r - d + qO s = r + qO s0 by omega]
    exact this
  · obtain ⟨q0, hq0, e, a⟩ := (h q hq).2
    obtain ⟨s0, hs0, e_q, a_q⟩ := (h s hs).2
    have o1 : qO q0 = qO q - d := by rcases a with a | a | a | a | a <;> omega
    have o2 : qO s0 ≤ qO s - d ∧ qO s - d + qN s ≤ qO s0 + qN s0 := by rcases a_q with a | a | a | a | a <;> omega
    have := (k.2.2 q0 hq0 (by omega)).2 s0 hs0 (by omega)
    rw [show r - d + qO q = r + qO q0 by omega]
    omega
/-- of two branches no channel's use is in both -/
theorem Frn_n {m ty : Int → Int} {r b lo hi z d e : Int} {l : List Cp} {q s : Cp} (k : Cok m ty r b lo hi z l) (hq : Prt l d q) (hs : Prt l e s) (h : Frn d q e s) {x u u_q : Int} (c : Cw m (r - d) q 2 x u) (c_q : Cw m (r - e) s 2 x u_q) : NC u u_q := by
  obtain ⟨q0, hq0, eq, a⟩ := hq
  obtain ⟨s0, hs0, es, a_q⟩ := hs
  have kq : (qK q = 2 ∨ qK q = 4 ∨ qK q = 5) ∧ u = qU q ∧ (qK q = 2 → r - d + qO q ≤ x ∧ x < r - d + qO q + qN q) ∧ (qK q = 4 → x = m (r - d + qO q)) ∧ (qK q = 5 → x = qO q) := by
    rcases c with c | c | c | c | c | c | c | c
    · omega
    · exact ⟨by omega, c.2.2.2.2, fun _ => ⟨c.2.2.1, c.2.2.2.1⟩, fun w => by omega, fun w => by omega⟩
    · omega
    · omega
    · omega
    · have : qK q = 4 := by rcases a with a | a | a | a | a <;> omega
      exact ⟨by omega, c.2.2.2, fun w => by omega, fun w => c.2.2.1, fun w => by omega⟩
    · exact ⟨by omega, c.2.2.2, fun w => by omega, fun w => by omega, fun w => c.2.2.1⟩
    · omega
  have ks : (qK s = 2 ∨ qK s = 4 ∨ qK s = 5) ∧ u_q = qU s ∧ (qK s = 2 → r - e + qO s ≤ x ∧ x < r - e + qO s + qN s) ∧ (qK s = 4 → x = m (r - e + qO s)) ∧ (qK s = 5 → x = qO s) := by
    rcases c_q with c | c | c | c | c | c | c | c
    · omega
    · exact ⟨by omega, c.2.2.2.2, fun _ => ⟨c.2.2.1, c.2.2.2.1⟩, fun w => by omega, fun w => by omega⟩
    · omega
    · omega
    · omega
    · have : qK s = 4 := by rcases a_q with a | a | a | a | a <;> omega
      exact ⟨by omega, c.2.2.2, fun w => by omega, fun w => c.2.2.1, fun w => by omega⟩
    · exact ⟨by omega, c.2.2.2, fun w => by omega, fun w => by omega, fun w => c.2.2.1⟩
    · omega
  have c16q := (k.2.1 q0 hq0).1.2
  have c16s := (k.2.1 s0 hs0).1.2
  have c5q := (k.2.1 q0 hq0).2.2.2.2.2
  have c5s := (k.2.1 s0 hs0).2.2.2.2.2
  rw [kq.2.1, ks.2.1]
  rcases h kq.1 ks.1 with w | w | w | w | w | w | w | w
  · exact w
  · exfalso
    have t1 := kq.2.2.1 w.1
    have t2 := ks.2.2.1 w.2.1
    have t3 := w.2.2
    unfold Ov at t3
    omega
  · exfalso
    have t1 := kq.2.2.2.1 w.1
    have t2 := ks.2.2.2.1 w.2.1
    have o1 : qO q0 = qO q - d := by rcases a with a | a | a | a | a <;> omega
    have o2 : qO s0 = qO s - e := by rcases a_q with a | a | a | a | a <;> omega
    have := (k.2.2 q0 hq0 (by omega)).1 s0 hs0 (by omega) (by omega)
    rw [show r - d + qO q = r + qO q0 by omega] at t1
    rw [show r - e + qO s = r + qO s0 by omega] at t2
    omega
  · exfalso
    have t1 := kq.2.2.2.2 w.1
    have t2 := ks.2.2.2.2 w.2.1
    omega
  · exfalso
    have t1 := kq.2.2.1 w.1
    have t2 := ks.2.2.2.2 w.2
    have := c16q (by omega)
    have := c5s (by omega)
    have : qO q0 ≤ qO q - d := by rcases a with a | a | a | a | a <;> omega
    have : qO s0 = qO s := by rcases a_q with a | a | a | a | a <;> omega
    omega
  · exfalso
    have t1 := kq.2.2.2.2 w.1
    have t2 := ks.2.2.1 w.2
    have := c16s (by omega)
    have := c5q (by omega)
    have : qO s0 ≤ qO s - e := by rcases a_q with a | a | a | a | a <;> omega
    have : qO q0 = qO q := by rcases a with a | a | a | a | a <;> omega
    omega
  · exfalso
    have t1 := kq.2.2.1 w.1
    have t2 := ks.2.2.2.1 w.2
    have o2 : qO s0 = qO s - e := by rcases a_q with a | a | a | a | a <;> omega
    have o1 : qO q0 ≤ qO q - d ∧ qO q - d + qN q ≤ qO q0 + qN q0 := by rcases a with a | a | a | a | a <;> omega
    have := (k.2.2 s0 hs0 (by omega)).2 q0 hq0 (by omega)
    rw [show r - e + qO s = r + qO s0 by omega] at t2
    omega
  · exfalso
    have t1 := kq.2.2.2.1 w.1
    have t2 := ks.2.2.1 w.2
    have o1 : qO q0 = qO q - d := by rcases a with a | a | a | a | a <;> omega
    have o2 : qO s0 ≤ qO s - e ∧ qO s - e + qN s ≤ qO s0 + qN s0 := by rcases a_q with a | a | a | a | a <;> omega
    have := (k.2.2 q0 hq0 (by omega)).2 s0 hs0 (by omega)
    rw [show r - d + qO q = r + qO q0 by omega] at t1
    omega
