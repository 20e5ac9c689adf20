/-! EVERY CALL OF THE REFERENCE ENDS, from every state that calls lead to -/
theorem SI_z {K : Kd} {N : Int} {ty : Int → Int} {g : Int → Fm} {A A_q : Nat → Nat → Int} {p : Int} (o : ∀ k : Nat, k ≠ 0 → A_q k = A k) (h : SI K N ty g A p) : SI K N ty g A_q p := by
  unfold SI SK RN Asd rw0 at h ⊢
  rw [ldM_f (o 59 (by decide)), o 60 (by decide), o 61 (by decide), o 62 (by decide), o 63 (by decide), o 64 (by decide), o 65 (by decide), o 66 (by decide), o 71 (by decide), o 72 (by decide), o 73 (by decide), o 74 (by decide), o 75 (by decide), o 76 (by decide), o 77 (by decide)]
  exact h
theorem GZ_z {lk : Int} {A A_q : Nat → Nat → Int} (o : ∀ k : Nat, k ≠ 0 → A_q k = A k) (h : GZ lk A) : GZ lk A_q := by
  obtain ⟨⟨K, N, ty, g, hc, hl⟩, h2⟩ := h
  refine ⟨⟨K, N, ty, g, fun p p0 p1 => ?_, fun l l0 l1 => ?_⟩, ?_⟩
  · obtain ⟨⟨a1, a2, a3, a4, a5⟩, b2, b3, b4⟩ := hc p p0 p1
    refine ⟨⟨a1, a2, a3, a4, ?_⟩, SI_z o b2, b3, ?_⟩
    · unfold Cby at a5 ⊢
      rw [o 53 (by decide)]
      exact a5
    · unfold Bts at b4 ⊢
      rw [o 34 (by decide), o 35 (by decide)]
      exact b4
  · have L := hl l l0 l1
    unfold Lnk at L ⊢
    rw [o 34 (by decide), o 35 (by decide), o 80 (by decide), o 83 (by decide), o 84 (by decide), ldM_f (o 59 (by decide))]
    exact L
  · rw [o 34 (by decide), o 35 (by decide)]
    exact h2
theorem RD_z {lk : Int} {A A_q : Nat → Nat → Int} (e : ∀ k : Nat, k ≠ 0 → A_q k = A k) (h : RD lk A) : RD lk A_q := by
  obtain ⟨⟨h1, h2⟩, h3⟩ := h
  have ep : ∀ p : Int, pcx0 A_q lk p = pcx0 A lk p := fun p => by
    unfold pcx0 pcap pbt
    rw [e 34 (by decide), e 35 (by decide), e 37 (by decide), e 38 (by decide)]
  refine ⟨⟨h1, ?_⟩, fun p p0 p1 => ?_⟩
  · rw [e 34 (by decide), e 35 (by decide)]
    exact h2
  · rw [ep, e 36 (by decide), e 37 (by decide), e 38 (by decide), e 54 (by decide), e 55 (by decide)]
    intro w
    obtain ⟨a1, a2, K, N, bg, a3, a4, a5⟩ := h3 p p0 p1 w
    refine ⟨a1, a2, K, N, bg, ?_, a4, a5⟩
    unfold St1 Cby at a3 ⊢
    rw [e 53 (by decide)]
    exact a3
/-- the state of the reference behind n calls -/
def RI (G : Nat → Int) (A : Nat → Nat → Int) (n : Int) : Prop := Wk G A ∧ (0 ≤ G 111 ∧ G 111 ≤ G 110 ∧ G 110 ≤ 200) ∧ (0 ≤ G 113 ∧ G 113 ≤ 30000 * n) ∧ (G 58 = 1 → GZ (G 52) A) ∧ (G 58 = 1 → RD (G 52) A)
theorem RI_n {G G_q : Nat → Int} {A A_q : Nat → Nat → Int} {n : Int} (h : RI G A n) (w : Wk G_q A_q) (e1 : G_q 58 = G 58) (e2 : G_q 52 = G 52) (i : 0 ≤ G_q 111 ∧ G_q 111 ≤ G_q 110 ∧ G_q 110 ≤ 200) (o : 0 ≤ G_q 113 ∧ G_q 113 ≤ 30000 * (n + 1)) (gz : G 58 = 1 → GZ (G 52) A_q) (lo : ∀ k : Nat, k < 59 → A_q k = A k) : RI G_q A_q (n + 1) := by
  refine ⟨w, i, o, ?_, ?_⟩
  · rw [e1, e2]
    exact gz
  · rw [e1, e2]
    exact fun q => RD_f lo (h.2.2.2.2 q)
theorem RI_0 {G G_q : Nat → Int} {A A_q : Nat → Nat → Int} {n : Int} {gs as : List Nat} (h : RI G A n) (w : Wk G_q A_q) (f : Fr gs as G A G_q A_q) (hg : [52, 58, 110, 111, 113].all (fun k => !gs.elem k) = true) (ha : as.all (fun k => k == 0) = true) : RI G_q A_q (n + 1) := by
  have g : ∀ k : Nat, [52, 58, 110, 111, 113].elem k = true → G_q k = G k := fun k hk => by
    have e : gs.elem k = false := by
      have := List.all_eq_true.mp hg k (List.elem_iff.mp hk)
      simpa using this
    exact f.1 k e
  have o : ∀ k : Nat, k ≠ 0 → A_q k = A k := fun k hk => by
    cases e : as.elem k with
    | false => exact f.2 k e
    | true =>
      have := List.all_eq_true.mp ha k (List.elem_iff.mp e)
      exact absurd (by simpa using this) hk
  obtain ⟨_, h2, h3, h4, h5⟩ := h
  unfold RI
  rw [g 52 rfl, g 58 rfl, g 110 rfl, g 111 rfl, g 113 rfl]
  exact ⟨w, h2, by omega, fun q => GZ_z o (h4 q), fun q => RD_z o (h5 q)⟩
theorem el59 {as : List Nat} {G G_q : Nat → Int} {A A_q : Nat → Nat → Int} {gs : List Nat} (f : Fr gs as G A G_q A_q) (h : as.all (fun j => decide (59 ≤ j)) = true) : ∀ k : Nat, k < 59 → A_q k = A k := fun k hk => f.2 k (el_lo h hk)

theorem ri_put {X : jX} {dd : Nat} {c0 c1 : jC} {G : Nat → Int} {A : Nat → Nat → Int} {T : jH} {n sg : Int} (hd : 400 ≤ dd) (hR : RI G A n) (hn : 0 ≤ n ∧ n ≤ 60000) (h_sg : (-2147483648 : Int) ≤ sg ∧ sg ≤ 2147483647) : wk X dd 248 [.ref 66, .int (i32 sg)] (rV c0 c1 G A T) (fun o V_q => ∃ (G_q : Nat → Int) (A_q : Nat → Nat → Int) (r : Int), V_q = rV c0 c1 G_q A_q T ∧ o = .inl (some (.int (i32 r))) ∧ RI G_q A_q (n + 1) ∧ (((r = 0) ∧ (1 ≤ 0 + snb (bt sg 0) + snb (bt sg 8) + snb (bt sg 16) + snb (bt sg 24)) ∧ (G_q 0 = 1) ∧ (G_q 2 = G 2)) ∨ ((r = 0) ∧ (0 + snb (bt sg 0) + snb (bt sg 8) + snb (bt sg 16) + snb (bt sg 24) = 0) ∧ (3000 < G 2 + 0 + tz (bt sg 0) + tz (bt sg 8) + tz (bt sg 16) + tz (bt sg 24)) ∧ (G_q 0 = 2) ∧ (G_q 2 = G 2)) ∨ ((0 + snb (bt sg 0) + snb (bt sg 8) + snb (bt sg 16) + snb (bt sg 24) = 0) ∧ (G_q 2 = G 2 + 0 + tz (bt sg 0) + tz (bt sg 8) + tz (bt sg 16) + tz (bt sg 24)) ∧ (G_q 2 ≤ 3000) ∧ (r = G_q 2) ∧ (G_q 0 = 0)))) := by
  refine wk_mono (fun o V_q h => ?_) (c_put (by omega) hR.1 rfl h_sg)
  obtain ⟨G_q, A_q, r, th2, sz2, h1, h2, h3, h4, h5, h6, h7, h8⟩ := h
  subst h6 h7
  exact ⟨G_q, A_q, r, h1, h2, RI_0 hR h3 h4 (by decide) (by decide), h8⟩
theorem ri_end {X : jX} {dd : Nat} {c0 c1 : jC} {G : Nat → Int} {A : Nat → Nat → Int} {T : jH} {nn n : Int} (hd : 400 ≤ dd) (hR : RI G A nn) (hn : 0 ≤ nn ∧ nn ≤ 60000) (h_n : (-2147483648 : Int) ≤ n ∧ n ≤ 2147483647) : wk X dd 249 [.ref 66, .int (i32 n)] (rV c0 c1 G A T) (fun o V_q => ∃ (G_q : Nat → Int) (A_q : Nat → Nat → Int), V_q = rV c0 c1 G_q A_q T ∧ o = .inl none ∧ RI G_q A_q (nn + 1) ∧ (((n < 0 ∨ G 2 < n) ∧ (G_q 0 = 1) ∧ (G_q 2 = G 2)) ∨ ((0 ≤ n) ∧ (n ≤ G 2) ∧ (G_q 0 = 0) ∧ (G_q 2 = n)))) := by
  refine wk_mono (fun o V_q h => ?_) (c_end (by omega) hR.1 rfl h_n)
  obtain ⟨G_q, A_q, th2, sz2, h1, h2, h3, h4, h6, h7, h8⟩ := h
  subst h6 h7
  exact ⟨G_q, A_q, h1, h2, RI_0 hR h3 h4 (by decide) (by decide), h8⟩
theorem ri_compile {X : jX} {dd : Nat} {c0 c1 : jC} {G : Nat → Int} {A : Nat → Nat → Int} {T : jH} {n : Int} (hd : 400 ≤ dd) (hR : RI G A n) (hn : 0 ≤ n ∧ n ≤ 60000)  : wk X dd 366 [.ref 66] (rV c0 c1 G A T) (fun o V_q => ∃ (G_q : Nat → Int) (A_q : Nat → Nat → Int) (r : Int), V_q = rV c0 c1 G_q A_q T ∧ o = .inl (some (.int (i32 r))) ∧ RI G_q A_q (n + 1) ∧ G_q 2 = 0) := by
  refine wk_mono (fun o V_q h => ?_) (c_compile (by omega) hR.1 rfl rfl rfl)
  obtain ⟨G_q, A_q, r, pg2, im2, it2, om2, lk2, sz2, h1, h2, h3, h4, h5, e1, e2, e3, e4, e5, e6, h6, h7⟩ := h
  refine ⟨G_q, A_q, r, h1, h2, ?_, e6.trans h6⟩
  have i2 := hR.2.1
  have o2 := hR.2.2.1
  rcases h7 with ⟨q1, q2, q3, q4⟩ | ⟨q1, q2, q3, q4, q5, q6⟩
  · exact ⟨h3, by omega, by omega, fun q => by omega, fun q => by omega⟩
  · refine ⟨h3, by omega, by omega, fun q => ?_, fun q => ?_⟩
    · rw [e5]
      exact q5
    · rw [e5]
      exact q6
theorem ri_fault {X : jX} {dd : Nat} {c0 c1 : jC} {G : Nat → Int} {A : Nat → Nat → Int} {T : jH} {n what : Int} (hd : 400 ≤ dd) (hR : RI G A n) (hn : 0 ≤ n ∧ n ≤ 60000) (h_what : (-2147483648 : Int) ≤ what ∧ what ≤ 2147483647) : wk X dd 367 [.ref 66, .int (i32 what)] (rV c0 c1 G A T) (fun o V_q => ∃ (G_q : Nat → Int) (A_q : Nat → Nat → Int) (r : Int), V_q = rV c0 c1 G_q A_q T ∧ o = .inl (some (.int (i32 r))) ∧ RI G_q A_q (n + 1) ∧ G_q 2 = G 2) := by
  refine wk_mono (fun o V_q h => ?_) (c_fault__I (by omega) hR.1 rfl rfl rfl h_what)
  obtain ⟨G_q, A_q, r, th2, h1, h2, h3, h4, _⟩ := h
  exact ⟨G_q, A_q, r, h1, h2, RI_0 hR h3 h4 (by decide) (by decide), h4.1 2 rfl⟩
theorem ri_processor {X : jX} {dd : Nat} {c0 c1 : jC} {G : Nat → Int} {A : Nat → Nat → Int} {T : jH} {n p w : Int} (hd : 400 ≤ dd) (hR : RI G A n) (hn : 0 ≤ n ∧ n ≤ 60000) (h_p : (-2147483648 : Int) ≤ p ∧ p ≤ 2147483647) (h_w : (-2147483648 : Int) ≤ w ∧ w ≤ 2147483647) : wk X dd 403 [.ref 66, .int (i32 p), .int (i32 w)] (rV c0 c1 G A T) (fun o V_q => ∃ (G_q : Nat → Int) (A_q : Nat → Nat → Int) (r : Int), V_q = rV c0 c1 G_q A_q T ∧ o = .inl (some (.int (i32 r))) ∧ RI G_q A_q (n + 1) ∧ G_q 2 = G 2) := by
  refine wk_mono (fun o V_q h => ?_) (c_processor (by omega) hR.1 rfl rfl h_p h_w)
  obtain ⟨G_q, A_q, r, h1, h2, h3, h4, _⟩ := h
  exact ⟨G_q, A_q, r, h1, h2, RI_0 hR h3 h4 (by decide) (by decide), h4.1 2 rfl⟩
theorem ri_code {X : jX} {dd : Nat} {c0 c1 : jC} {G : Nat → Int} {A : Nat → Nat → Int} {T : jH} {n p k : Int} (hd : 400 ≤ dd) (hR : RI G A n) (hn : 0 ≤ n ∧ n ≤ 60000) (h_p : (-2147483648 : Int) ≤ p ∧ p ≤ 2147483647) (h_k : (-2147483648 : Int) ≤ k ∧ k ≤ 2147483647) : wk X dd 405 [.ref 66, .int (i32 p), .int (i32 k)] (rV c0 c1 G A T) (fun o V_q => ∃ (G_q : Nat → Int) (A_q : Nat → Nat → Int) (r : Int), V_q = rV c0 c1 G_q A_q T ∧ o = .inl (some (.int (i32 r))) ∧ RI G_q A_q (n + 1) ∧ G_q 2 = G 2) := by
  refine wk_mono (fun o V_q h => ?_) (c_code (by omega) hR.1 rfl rfl rfl h_p h_k (fun q => RD_bd (hR.2.2.2.2 q)))
  obtain ⟨G_q, A_q, r, h1, h2, h3, h4, _⟩ := h
  exact ⟨G_q, A_q, r, h1, h2, RI_0 hR h3 h4 (by decide) (by decide), h4.1 2 rfl⟩
theorem ri_instruction {X : jX} {dd : Nat} {c0 c1 : jC} {G : Nat → Int} {A : Nat → Nat → Int} {T : jH} {n p k w : Int} (hd : 400 ≤ dd) (hR : RI G A n) (hn : 0 ≤ n ∧ n ≤ 60000) (h_p : (-2147483648 : Int) ≤ p ∧ p ≤ 2147483647) (h_k : (-2147483648 : Int) ≤ k ∧ k ≤ 2147483647) (h_w : (-2147483648 : Int) ≤ w ∧ w ≤ 2147483647) : wk X dd 406 [.ref 66, .int (i32 p), .int (i32 k), .int (i32 w)] (rV c0 c1 G A T) (fun o V_q => ∃ (G_q : Nat → Int) (A_q : Nat → Nat → Int) (r : Int), V_q = rV c0 c1 G_q A_q T ∧ o = .inl (some (.int (i32 r))) ∧ RI G_q A_q (n + 1) ∧ G_q 2 = G 2) := by
  refine wk_mono (fun o V_q h => ?_) (c_instruction (by omega) hR.1 rfl rfl rfl h_p h_k h_w (fun q => RD_bd (hR.2.2.2.2 q)))
  obtain ⟨G_q, A_q, r, h1, h2, h3, h4, _⟩ := h
  exact ⟨G_q, A_q, r, h1, h2, RI_0 hR h3 h4 (by decide) (by decide), h4.1 2 rfl⟩
theorem ri_link {X : jX} {dd : Nat} {c0 c1 : jC} {G : Nat → Int} {A : Nat → Nat → Int} {T : jH} {n l w : Int} (hd : 400 ≤ dd) (hR : RI G A n) (hn : 0 ≤ n ∧ n ≤ 60000) (h_l : (-2147483648 : Int) ≤ l ∧ l ≤ 2147483647) (h_w : (-2147483648 : Int) ≤ w ∧ w ≤ 2147483647) : wk X dd 407 [.ref 66, .int (i32 l), .int (i32 w)] (rV c0 c1 G A T) (fun o V_q => ∃ (G_q : Nat → Int) (A_q : Nat → Nat → Int) (r : Int), V_q = rV c0 c1 G_q A_q T ∧ o = .inl (some (.int (i32 r))) ∧ RI G_q A_q (n + 1) ∧ G_q 2 = G 2) := by
  refine wk_mono (fun o V_q h => ?_) (c_link (by omega) hR.1 rfl rfl h_l h_w)
  obtain ⟨G_q, A_q, r, h1, h2, h3, h4, _⟩ := h
  exact ⟨G_q, A_q, r, h1, h2, RI_0 hR h3 h4 (by decide) (by decide), h4.1 2 rfl⟩
theorem ri_begin {X : jX} {dd : Nat} {c0 c1 : jC} {G : Nat → Int} {A : Nat → Nat → Int} {T : jH} {n : Int} (hd : 400 ≤ dd) (hR : RI G A n) (hn : 0 ≤ n ∧ n ≤ 60000)  : wk X dd 396 [.ref 66] (rV c0 c1 G A T) (fun o V_q => ∃ (G_q : Nat → Int) (A_q : Nat → Nat → Int), V_q = rV c0 c1 G_q A_q T ∧ o = .inl none ∧ RI G_q A_q (n + 1) ∧ G_q 2 = G 2) := by
  refine wk_mono (fun o V_q h => ?_) (c_begin (by omega) hR.1 rfl rfl rfl rfl rfl hR.2.2.2.1 hR.2.2.2.2)
  obtain ⟨G_q, A_q, im2, it2, om2, h1, h2, h3, h4, e1, e2, e3, h5⟩ := h
  have i2 := hR.2.1
  have o2 := hR.2.2.1
  refine ⟨G_q, A_q, h1, h2, ?_, h4.1 2 rfl⟩
  rcases h5 with ⟨q1, q2, q3, q4, q5⟩ | ⟨q1, q2, q3, q4, q5⟩
  · exact RI_n hR h3 (h4.1 58 rfl) (h4.1 52 rfl) (by omega) (by omega) q5 (el59 h4 (by decide))
  · exact RI_n hR h3 (h4.1 58 rfl) (h4.1 52 rfl) (by omega) (by omega) q5 (el59 h4 (by decide))
theorem ri_input {X : jX} {dd : Nat} {c0 c1 : jC} {G : Nat → Int} {A : Nat → Nat → Int} {T : jH} {n v : Int} (hd : 400 ≤ dd) (hR : RI G A n) (hn : 0 ≤ n ∧ n ≤ 60000) (h_v : (-2147483648 : Int) ≤ v ∧ v ≤ 2147483647) : wk X dd 397 [.ref 66, .int (i32 v)] (rV c0 c1 G A T) (fun o V_q => ∃ (G_q : Nat → Int) (A_q : Nat → Nat → Int) (r : Int), V_q = rV c0 c1 G_q A_q T ∧ o = .inl (some (.int (i32 r))) ∧ RI G_q A_q (n + 1) ∧ G_q 2 = G 2) := by
  refine wk_mono (fun o V_q h => ?_) (c_input (by omega) hR.1 rfl rfl rfl rfl h_v (by have := hR.2.1; have := hR.2.2.1; omega) (by have := hR.2.1; have := hR.2.2.1; omega) (by have := hR.2.1; have := hR.2.2.1; omega) hR.2.2.2.1)
  obtain ⟨G_q, A_q, r, im2, it2, h1, h2, h3, h4, h5, e1, e2, q1, q2, q3, q5, _⟩ := h
  have i2 := hR.2.1
  have o2 := hR.2.2.1
  have e5 := h4.1 113 rfl
  exact ⟨G_q, A_q, r, h1, h2, RI_n hR h3 (h4.1 58 rfl) (h4.1 52 rfl) (by omega) (by omega) q5 (el59 h4 (by decide)), h4.1 2 rfl⟩
theorem ri_run {X : jX} {dd : Nat} {c0 c1 : jC} {G : Nat → Int} {A : Nat → Nat → Int} {T : jH} {nn p n : Int} (hd : 400 ≤ dd) (hR : RI G A nn) (hn : 0 ≤ nn ∧ nn ≤ 60000) (h_p : (-2147483648 : Int) ≤ p ∧ p ≤ 2147483647) (h_n : (-2147483648 : Int) ≤ n ∧ n ≤ 2147483647) : wk X dd 399 [.ref 66, .int (i32 p), .int (i32 n)] (rV c0 c1 G A T) (fun o V_q => ∃ (G_q : Nat → Int) (A_q : Nat → Nat → Int) (r : Int), V_q = rV c0 c1 G_q A_q T ∧ o = .inl (some (.int (i32 r))) ∧ RI G_q A_q (nn + 1) ∧ G_q 2 = G 2) := by
  refine wk_mono (fun o V_q h => ?_) (c_run (by omega) hR.1 rfl rfl rfl rfl rfl rfl h_p h_n (by have := hR.2.1; have := hR.2.2.1; omega) (by have := hR.2.1; have := hR.2.2.1; omega) (by have := hR.2.1; have := hR.2.2.1; omega) (by have := hR.2.1; have := hR.2.2.1; omega) (by have := hR.2.1; have := hR.2.2.1; omega) hR.2.2.2.1)
  obtain ⟨G_q, A_q, r, om2, it2, h1, h2, h3, h4, h5, e1, e2, q1, q2, q3, q4, q5, _⟩ := h
  have i2 := hR.2.1
  have o2 := hR.2.2.1
  have e3 := h4.1 110 rfl
  exact ⟨G_q, A_q, r, h1, h2, RI_n hR h3 (h4.1 58 rfl) (h4.1 52 rfl) (by omega) (by omega) q5 (el59 h4 (by decide)), h4.1 2 rfl⟩
theorem ri_beat {X : jX} {dd : Nat} {c0 c1 : jC} {G : Nat → Int} {A : Nat → Nat → Int} {T : jH} {nn n : Int} (hd : 400 ≤ dd) (hR : RI G A nn) (hn : 0 ≤ nn ∧ nn ≤ 60000) (h_n : (-2147483648 : Int) ≤ n ∧ n ≤ 2147483647) : wk X dd 400 [.ref 66, .int (i32 n)] (rV c0 c1 G A T) (fun o V_q => ∃ (G_q : Nat → Int) (A_q : Nat → Nat → Int) (r : Int), V_q = rV c0 c1 G_q A_q T ∧ o = .inl (some (.int (i32 r))) ∧ RI G_q A_q (nn + 1) ∧ G_q 2 = G 2) := by
  refine wk_mono (fun o V_q h => ?_) (c_beat (by omega) hR.1 rfl rfl h_n hR.2.2.2.1)
  obtain ⟨G_q, A_q, r, h1, h2, h3, h4, h5, q5, _⟩ := h
  have i2 := hR.2.1
  have o2 := hR.2.2.1
  have e3 := h4.1 110 rfl
  have e4 := h4.1 111 rfl
  have e5 := h4.1 113 rfl
  exact ⟨G_q, A_q, r, h1, h2, RI_n hR h3 (h4.1 58 rfl) (h4.1 52 rfl) (by omega) (by omega) q5 (el59 h4 (by decide)), h4.1 2 rfl⟩
theorem ri_rounds {X : jX} {dd : Nat} {c0 c1 : jC} {G : Nat → Int} {A : Nat → Nat → Int} {T : jH} {nn n : Int} (hd : 400 ≤ dd) (hR : RI G A nn) (hn : 0 ≤ nn ∧ nn ≤ 60000) (h_n : (-2147483648 : Int) ≤ n ∧ n ≤ 2147483647) : wk X dd 401 [.ref 66, .int (i32 n)] (rV c0 c1 G A T) (fun o V_q => ∃ (G_q : Nat → Int) (A_q : Nat → Nat → Int) (r : Int), V_q = rV c0 c1 G_q A_q T ∧ o = .inl (some (.int (i32 r))) ∧ RI G_q A_q (nn + 1) ∧ G_q 2 = G 2) := by
  refine wk_mono (fun o V_q h => ?_) (c_rounds (by omega) hR.1 rfl rfl rfl rfl rfl h_n (by have := hR.2.1; have := hR.2.2.1; omega) (by have := hR.2.1; have := hR.2.2.1; omega) (by have := hR.2.1; have := hR.2.2.1; omega) (by have := hR.2.1; have := hR.2.2.1; omega) (by have := hR.2.1; have := hR.2.2.1; omega) hR.2.2.2.1)
  obtain ⟨G_q, A_q, r, om2, it2, h1, h2, h3, h4, h5, e1, e2, q1, q2, q3, q4, q5, _⟩ := h
  have i2 := hR.2.1
  have o2 := hR.2.2.1
  have e3 := h4.1 110 rfl
  exact ⟨G_q, A_q, r, h1, h2, RI_n hR h3 (h4.1 58 rfl) (h4.1 52 rfl) (by omega) (by omega) q5 (el59 h4 (by decide)), h4.1 2 rfl⟩
theorem ri_outcome {X : jX} {dd : Nat} {c0 c1 : jC} {G : Nat → Int} {A : Nat → Nat → Int} {T : jH} {n : Int} (hd : 400 ≤ dd) (hR : RI G A n) (hn : 0 ≤ n ∧ n ≤ 60000)  : wk X dd 402 [.ref 66] (rV c0 c1 G A T) (fun o V_q => ∃ (G_q : Nat → Int) (A_q : Nat → Nat → Int) (r : Int), V_q = rV c0 c1 G_q A_q T ∧ o = .inl (some (.int (i32 r))) ∧ RI G_q A_q (n + 1) ∧ G_q 2 = G 2) := by
  refine wk_mono (fun o V_q h => ?_) (c_outcome (by omega) hR.1 rfl)
  obtain ⟨G_q, A_q, r, h1, h2, h3, h4, _⟩ := h
  exact ⟨G_q, A_q, r, h1, h2, RI_0 hR h3 h4 (by decide) (by decide), h4.1 2 rfl⟩
theorem ri_core {X : jX} {dd : Nat} {c0 c1 : jC} {G : Nat → Int} {A : Nat → Nat → Int} {T : jH} {n p w : Int} (hd : 400 ≤ dd) (hR : RI G A n) (hn : 0 ≤ n ∧ n ≤ 60000) (h_p : (-2147483648 : Int) ≤ p ∧ p ≤ 2147483647) (h_w : (-2147483648 : Int) ≤ w ∧ w ≤ 2147483647) : wk X dd 408 [.ref 66, .int (i32 p), .int (i32 w)] (rV c0 c1 G A T) (fun o V_q => ∃ (G_q : Nat → Int) (A_q : Nat → Nat → Int) (r : Int), V_q = rV c0 c1 G_q A_q T ∧ o = .inl (some (.int (i32 r))) ∧ RI G_q A_q (n + 1) ∧ G_q 2 = G 2) := by
  refine wk_mono (fun o V_q h => ?_) (c_core (by omega) hR.1 rfl rfl h_p h_w)
  obtain ⟨G_q, A_q, r, h1, h2, h3, h4, _⟩ := h
  exact ⟨G_q, A_q, r, h1, h2, RI_0 hR h3 h4 (by decide) (by decide), h4.1 2 rfl⟩
theorem ri_ready {X : jX} {dd : Nat} {c0 c1 : jC} {G : Nat → Int} {A : Nat → Nat → Int} {T : jH} {n p i : Int} (hd : 400 ≤ dd) (hR : RI G A n) (hn : 0 ≤ n ∧ n ≤ 60000) (h_p : (-2147483648 : Int) ≤ p ∧ p ≤ 2147483647) (h_i : (-2147483648 : Int) ≤ i ∧ i ≤ 2147483647) : wk X dd 409 [.ref 66, .int (i32 p), .int (i32 i)] (rV c0 c1 G A T) (fun o V_q => ∃ (G_q : Nat → Int) (A_q : Nat → Nat → Int) (r : Int), V_q = rV c0 c1 G_q A_q T ∧ o = .inl (some (.int (i32 r))) ∧ RI G_q A_q (n + 1) ∧ G_q 2 = G 2) := by
  refine wk_mono (fun o V_q h => ?_) (c_ready (by omega) hR.1 rfl rfl rfl h_p h_i hR.2.2.2.1)
  obtain ⟨G_q, A_q, r, h1, h2, h3, h4, _⟩ := h
  exact ⟨G_q, A_q, r, h1, h2, RI_0 hR h3 h4 (by decide) (by decide), h4.1 2 rfl⟩
theorem ri_word {X : jX} {dd : Nat} {c0 c1 : jC} {G : Nat → Int} {A : Nat → Nat → Int} {T : jH} {n p a : Int} (hd : 400 ≤ dd) (hR : RI G A n) (hn : 0 ≤ n ∧ n ≤ 60000) (h_p : (-2147483648 : Int) ≤ p ∧ p ≤ 2147483647) (h_a : (-2147483648 : Int) ≤ a ∧ a ≤ 2147483647) : wk X dd 410 [.ref 66, .int (i32 p), .int (i32 a)] (rV c0 c1 G A T) (fun o V_q => ∃ (G_q : Nat → Int) (A_q : Nat → Nat → Int) (r : Int), V_q = rV c0 c1 G_q A_q T ∧ o = .inl (some (.int (i32 r))) ∧ RI G_q A_q (n + 1) ∧ G_q 2 = G 2) := by
  refine wk_mono (fun o V_q h => ?_) (c_word (by omega) hR.1 rfl rfl h_p h_a (fun q => RD_bd (hR.2.2.2.2 q)))
  obtain ⟨G_q, A_q, r, h1, h2, h3, h4, _⟩ := h
  exact ⟨G_q, A_q, r, h1, h2, RI_0 hR h3 h4 (by decide) (by decide), h4.1 2 rfl⟩
theorem ri_output {X : jX} {dd : Nat} {c0 c1 : jC} {G : Nat → Int} {A : Nat → Nat → Int} {T : jH} {n i : Int} (hd : 400 ≤ dd) (hR : RI G A n) (hn : 0 ≤ n ∧ n ≤ 60000) (h_i : (-2147483648 : Int) ≤ i ∧ i ≤ 2147483647) : wk X dd 411 [.ref 66, .int (i32 i)] (rV c0 c1 G A T) (fun o V_q => ∃ (G_q : Nat → Int) (A_q : Nat → Nat → Int) (r : Int), V_q = rV c0 c1 G_q A_q T ∧ o = .inl (some (.int (i32 r))) ∧ RI G_q A_q (n + 1) ∧ G_q 2 = G 2) := by
  refine wk_mono (fun o V_q h => ?_) (c_output (by omega) hR.1 rfl rfl h_i (by have := hR.2.1; have := hR.2.2.1; omega))
  obtain ⟨G_q, A_q, r, h1, h2, h3, h4, _⟩ := h
  exact ⟨G_q, A_q, r, h1, h2, RI_0 hR h3 h4 (by decide) (by decide), h4.1 2 rfl⟩
theorem ri_about {X : jX} {dd : Nat} {c0 c1 : jC} {G : Nat → Int} {A : Nat → Nat → Int} {T : jH} {n w : Int} (hd : 400 ≤ dd) (hR : RI G A n) (hn : 0 ≤ n ∧ n ≤ 60000) (h_w : (-2147483648 : Int) ≤ w ∧ w ≤ 2147483647) : wk X dd 412 [.ref 66, .int (i32 w)] (rV c0 c1 G A T) (fun o V_q => ∃ (G_q : Nat → Int) (A_q : Nat → Nat → Int) (r : Int), V_q = rV c0 c1 G_q A_q T ∧ o = .inl (some (.int (i32 r))) ∧ RI G_q A_q (n + 1) ∧ G_q 2 = G 2) := by
  refine wk_mono (fun o V_q h => ?_) (c_about (by omega) hR.1 rfl h_w)
  obtain ⟨G_q, A_q, r, h1, h2, h3, h4, _⟩ := h
  exact ⟨G_q, A_q, r, h1, h2, RI_0 hR h3 h4 (by decide) (by decide), h4.1 2 rfl⟩
