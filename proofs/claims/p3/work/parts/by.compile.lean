/-! COMPILE -/
/-- read -/
def TTn (A : Nat → Nat → Int) (pc nd sy lk : Int) : Prop := TT A pc nd sy lk ∧ NdM A 1 nd 0 ∧ nd + 5 * ecn A nd ≤ 6055
/-- measured -/
def MS1 (A : Nat → Nat → Int) (pc nd sy lk : Int) : Prop := TTn A pc nd sy lk ∧ MQa A A pc 1 ∧ MBs A A 6 1
/-- checked; the code of the processors before p is made -/
def GAx (A : Nat → Nat → Int) (pc nd sy lk p : Int) : Prop := ∃ (T : Nat → Nat → Int) (Bu : Int → Int), TA T A ∧ TT T pc nd sy lk ∧ (MQa T T pc 1 ∧ MBs T T 6 1) ∧ (∀ q : Nat, (q : Int) < pc → uP T Bu 18 (fun _ => 0) (pU T Bu q) (T 31 q)) ∧ (∀ p : Int, 0 ≤ p → p ≤ 5 → 0 < T 36 p.toNat → uP T Bu 18 (fun _ => 0) (pUs T p) (T 36 p.toNat)) ∧ ∀ i : Int, 0 ≤ i → i < p → 0 < T 36 i.toNat → CP T A pc i
theorem GAx_s {A : Nat → Nat → Int} {pc nd sy lk p p_q : Int} (h : GAx A pc nd sy lk p) (hp : A 36 p.toNat ≤ 0) (e : p_q = p + 1) : GAx A pc nd sy lk p_q := by
  obtain ⟨T, Bu, h1, h2, h3, h4, h5, h6⟩ := h
  refine ⟨T, Bu, h1, h2, h3, h4, h5, fun i i0 i1 hi => ?_⟩
  by_cases q : i = p
  · rw [q, ← h1 36 rfl] at hi
    omega
  · exact h6 i i0 (by omega) hi
theorem GAx_rd {A : Nat → Nat → Int} {pc nd sy lk p : Int} (h : GAx A pc nd sy lk p) (hp : 6 ≤ p) (hpc : 0 ≤ pc) (hnd : nd ≤ 6999) (hsy : sy ≤ 202) (hlk : lk ≤ 12) : RD lk A := by
  obtain ⟨T, Bu, h1, h2, h3, h4, h5, h6⟩ := h
  exact RD_of h2 h1 hpc hnd hsy hlk h3.1 h3.2 h4 h5 (fun i i0 i1 hi => h6 i i0 (by omega) hi)
theorem cnE_1 {A : Nat → Nat → Int} : ecn A 1 ≤ 1 := by
  show cnE A 1 ≤ 1
  rw [show (1 : Nat) = 0 + 1 from rfl, cnE_s]
  by_cases q : A 15 0 = 3
  · rw [if_pos q]
    show (0 : Int) + 1 ≤ 1
    omega
  · rw [if_neg q]
    show (0 : Int) + 0 ≤ 1
    omega
theorem PS_nx {A A_q : Nat → Nat → Int} {i i_q : Int} (h : ∀ j : Int, 0 ≤ j → j < i → A 36 j.toNat = 0) (e : A_q = uA A 36 i.toNat 0) (hi : i_q = i + 1) : ∀ j : Int, 0 ≤ j → j < i_q → A_q 36 j.toNat = 0 := fun j a b => by
  rw [e]
  by_cases q : j = i
  · rw [q, uA_eq]
  · rw [uA_ni (by omega)]
    exact h j a (by omega)
theorem GAx_6 {A : Nat → Nat → Int} {pc nd sy lk p : Int} (h : GAx A pc nd sy lk p) (e : p = 6) : GAx A pc nd sy lk 6 := by
  rw [← e]
  exact h
theorem PZ_f {A : Nat → Nat → Int} {i : Int} (h : ∀ j : Int, 0 ≤ j → j < i → A 36 j.toNat = 0) (hi : 6 ≤ i) : PZ A := fun p hp => by
  have := h (p : Int) (by omega) (by omega)
  rw [Int.toNat_natCast] at this
  exact this
theorem c_measureAll_t {X : jX} {dd : Nat} {c0 c1 : jC} {G : Nat → Int} {A : Nat → Nat → Int} {T : jH} {pc nd sy lk : Int} (hd : 2 * 18 + 31 ≤ dd) (hW : Wk G A) (e_pc : G 46 = pc) (e_nd : G 31 = nd) (e_sy : G 19 = sy) (e_lk : G 52 = lk) (p_0 : TTn A (pc) (nd) (sy) (lk)) : wk X dd 322 [.ref 66] (rV c0 c1 G A T) (fun o V_q => ∃ (G_q : Nat → Int) (A_q : Nat → Nat → Int) (r : Int), V_q = rV c0 c1 G_q A_q T ∧ o = .inl (some (.int (i32 r))) ∧ Wk G_q A_q ∧ Fr [59, 60] [9, 10, 25, 26, 27, 32, 33, 37, 38] G A G_q A_q ∧ ((0 : Int) ≤ r ∧ r ≤ 1) ∧ ((r = 1 ∧ (MS1 A_q (pc) (nd) (sy) (lk))) ∨ (r = 0))) := by
  obtain ⟨t1, t2, t3⟩ := p_0
  refine wk_mono (fun o V_q h => ?_) (c_measureAll hd hW e_pc e_nd e_sy e_lk t1)
  obtain ⟨G_q, A_q, r, pc2, h1, h2, h3, h4, h5, h6, h7⟩ := h
  refine ⟨G_q, A_q, r, h1, h2, h3, h4, h5, ?_⟩
  rcases h7 with ⟨r1, ll⟩ | r0
  · refine Or.inl ⟨r1, ⟨TT_e (tq_fr h4 (by decide)) t1, NdM_f h4 (by decide) t2, ?_⟩, MQa_c (h4.2 29 rfl) (h4.2 30 rfl) (h4.2 31 rfl) ll.1, MBs_c (h4.2 36 rfl) ll.2⟩
    rw [ecn_e (h4.2 15 rfl)]
    exact t3
  · exact Or.inr r0
theorem c_checkUses_t {X : jX} {dd : Nat} {c0 c1 : jC} {G : Nat → Int} {A : Nat → Nat → Int} {T : jH} {pc nd sy lk : Int} (hd : 140 ≤ dd) (hW : Wk G A) (e_pc : G 46 = pc) (e_nd : G 31 = nd) (e_sy : G 19 = sy) (e_lk : G 52 = lk) (p_0 : MS1 A (pc) (nd) (sy) (lk)) : wk X dd 341 [.ref 66] (rV c0 c1 G A T) (fun o V_q => ∃ (G_q : Nat → Int) (A_q : Nat → Nat → Int) (r : Int) (wl2 : Int), V_q = rV c0 c1 G_q A_q T ∧ o = .inl (some (.int (i32 r))) ∧ Wk G_q A_q ∧ Fr [61, 62, 67, 68] [11, 13, 39, 40, 41, 42, 43] G A G_q A_q ∧ ((0 : Int) ≤ r ∧ r ≤ 1) ∧ G_q 67 = wl2 ∧ (-1 ≤ wl2 ∧ wl2 ≤ 3000) ∧ ((r = 1 ∧ (GAx A_q (pc) (nd) (sy) (lk) (0))) ∨ (r = 0))) := by
  obtain ⟨⟨t1, t2, t3⟩, m1, m2⟩ := p_0
  have bpc : (0 : Int) ≤ pc ∧ pc ≤ 24 := e_pc ▸ hW.1 46
  have bnd : (0 : Int) ≤ nd ∧ nd ≤ 6999 := e_nd ▸ hW.1 31
  have bsy : (0 : Int) ≤ sy ∧ sy ≤ 202 := e_sy ▸ hW.1 19
  have blk : (0 : Int) ≤ lk ∧ lk ≤ 12 := e_lk ▸ hW.1 52
  obtain ⟨VF, LO, HI, S0, S1, FF, VG, LP, HP, S2, S3, FG, cs, ct⟩ := CU_of t1 bpc.1 bsy.2 blk.2 (fun j a b k => (t2 j a b).2.2.2 k) t3
  have ta : TA A A := fun _ _ => rfl
  have mr : MRx A A nd := fun j a b => ⟨(t2 j a b).2.1, (t2 j a b).2.2.1⟩
  refine wk_mono (fun o V_q h => ?_) (c_checkUses (T0 := A) hd hW e_pc ta cs ct mr bnd.2)
  obtain ⟨G_q, A_q, r, wl2, h1, h2, h3, h4, h5, h6, h6b, h7⟩ := h
  refine ⟨G_q, A_q, r, wl2, h1, h2, h3, h4, h5, h6, h6b, ?_⟩
  have bb : ∀ n, 0 ≤ A_q 11 n ∧ A_q 11 n ≤ 15 := fun n => ⟨(h3.2 11 n).1, (h3.2 11 n).2⟩
  rcases h7 with ⟨r1, c1, c2⟩ | r0
  · exact Or.inl ⟨r1, A, syU A_q, TA_fr h4 (by decide) ta, t1, ⟨m1, m2⟩, UPq_of cs bb c1, fun p p0 p5 hp => UPp_of ct bb c2 p0 p5 hp, fun i i0 i1 => by omega⟩
  · exact Or.inr r0
theorem c_genAll_t {X : jX} {dd : Nat} {c0 c1 : jC} {G : Nat → Int} {A : Nat → Nat → Int} {T : jH} {p : Int} {pc nd sy lk bp : Int} (hd : 2 * 18 + 63 ≤ dd) (hW : Wk G A) (e_pc : G 46 = pc) (e_nd : G 31 = nd) (e_sy : G 19 = sy) (e_lk : G 52 = lk) (e_bp : A 36 (p).toNat = bp) (h_p : (-2147483648 : Int) ≤ p ∧ p ≤ 2147483647) (p_0 : 0 ≤ p) (p_1 : p ≤ 5) (p_2 : 0 < bp) (p_3 : GAx A (pc) (nd) (sy) (lk) (p)) : wk X dd 365 [.ref 66, .int (i32 p)] (rV c0 c1 G A T) (fun o V_q => ∃ (G_q : Nat → Int) (A_q : Nat → Nat → Int) (r : Int), V_q = rV c0 c1 G_q A_q T ∧ o = .inl (some (.int (i32 r))) ∧ Wk G_q A_q ∧ Fr [70, 77, 79, 81, 89] [13, 44, 45, 46, 47, 48, 49, 50, 51, 52, 53, 54, 55, 56, 57, 58] G A G_q A_q ∧ ((0 : Int) ≤ r ∧ r ≤ 1) ∧ ((r = 1 ∧ (GAx A_q (pc) (nd) (sy) (lk) (p + 1))) ∨ (r = 0))) := by
  have bpc : (0 : Int) ≤ pc ∧ pc ≤ 24 := e_pc ▸ hW.1 46
  have bnd : (0 : Int) ≤ nd ∧ nd ≤ 6999 := e_nd ▸ hW.1 31
  have bsy : (0 : Int) ≤ sy ∧ sy ≤ 202 := e_sy ▸ hW.1 19
  obtain ⟨T0, Bu, ta, tt, ⟨m1, m2⟩, hu, hp, cps⟩ := p_3
  have hb : 0 < T0 36 (p).toNat := by
    rw [← ta 36 rfl, e_bp]
    exact p_2
  obtain ⟨Lx, Sx, Vs, ba, bb, bu, bv, q5, q7, q8, q9, q10, q11, q12, q13, q14, q15, q16, q17, q18, q19, q20⟩ := TT_ga tt m2 bpc.1 bnd.2 bsy.2 p_0 p_1 hb
  refine wk_mono (fun o V_q h => ?_) (c_genAll (T0 := T0) hd hW e_pc h_p ta p_0 p_1 bpc.1 bpc.2 q5 m1 q7 q8 q9 q10 q11 q12 q13 q14 q15 q16 q17 q18 q19 q20)
  obtain ⟨G_q, A_q, r, pc2, h1, h2, h3, h4, f1, f2, h5, h6, h6', h7⟩ := h
  refine ⟨G_q, A_q, r, h1, h2, h3, h4, h5, ?_⟩
  rcases h7 with ⟨r1, cp⟩ | r0
  · refine Or.inl ⟨r1, T0, Bu, TA_fr h4 (by decide) ta, tt, ⟨m1, m2⟩, hu, hp, fun i i0 i1 hi => ?_⟩
    by_cases q : i = p
    · rw [q]
      exact cp
    · exact CP_mv f1 f2 q i0 p_0 (cps i i0 (by omega) hi)
  · exact Or.inr r0
theorem c_readProgram_t {X : jX} {dd : Nat} {c0 c1 : jC} {G : Nat → Int} {A : Nat → Nat → Int} {T : jH} {fk ln nd sy na vi pc lk : Int} (hd : 8 * 18 + 82 ≤ dd) (hW : Wk G A) (e_fk : G 16 = fk) (e_ln : G 9 = ln) (e_nd : G 31 = nd) (e_sy : G 19 = sy) (e_na : G 28 = na) (e_vi : G 29 = vi) (e_pc : G 46 = pc) (e_lk : G 52 = lk) (i_LT : LT G A) (p_0 : fk = 0) (p_1 : ln = 0) (p_2 : nd = 1) (p_3 : sy = 0) (p_4 : na = 0) (p_5 : vi = 0) (p_6 : pc = 0) (p_7 : lk = 0) (p_8 : PZ A) : wk X dd 312 [.ref 66] (rV c0 c1 G A T) (fun o V_q => ∃ (G_q : Nat → Int) (A_q : Nat → Nat → Int) (fk2 : Int) (nd2 : Int) (sy2 : Int) (pc2 : Int) (lk2 : Int), V_q = rV c0 c1 G_q A_q T ∧ o = .inl none ∧ Wk G_q A_q ∧ Fr [9, 10, 11, 12, 13, 14, 15, 16, 17, 18, 19, 28, 29, 31, 46, 52] [6, 7, 8, 9, 10, 11, 12, 14, 15, 16, 17, 18, 19, 20, 21, 22, 23, 24, 28, 29, 30, 31, 34, 35, 36] G A G_q A_q ∧ G_q 16 = fk2 ∧ G_q 31 = nd2 ∧ G_q 19 = sy2 ∧ G_q 46 = pc2 ∧ G_q 52 = lk2 ∧ (((1 ≤ fk2)) ∨ ((fk2 = 0) ∧ (TTn A_q (pc2) (nd2) (sy2) (lk2))))) := by
  refine wk_mono (fun o V_q h => ?_) (c_readProgram_w hd hW e_ln rfl e_fk e_nd e_sy e_na e_vi rfl e_pc e_lk rfl i_LT p_0 p_1 p_2 p_3 p_4 p_5 p_6 p_7 p_8 (by rw [e_nd, p_2]; exact cnE_1))
  obtain ⟨G_q, A_q, ln2, fk2, nd2, sy2, na2, vi2, pc2, lk2, ec2, h1, h2, h3, h4, h5, h6, h7, h8, h9, h10, h11, h12, h13, h14⟩ := h
  refine ⟨G_q, A_q, fk2, nd2, sy2, pc2, lk2, h1, h2, h3, h4, h6, h7, h8, h11, h12, ?_⟩
  rcases h14 with q | ⟨q1, q2, q3, q4⟩
  · exact Or.inl q
  · refine Or.inr ⟨q1, q2, ?_, ?_⟩
    · rw [p_2, p_3] at q3
      exact q3
    · rw [h7] at h13
      rw [h13]
      exact q4
