/-! over the index values S -/
theorem SA_agr {T : Nat → Nat → Int} {V : Nat → Prop} {S : Int → Int} {A : Nat → Nat → Int} (h : SA T V S A) : Agr T V (Rf S) (A 13) := fun s v k => by
  have := h (s : Int) (by omega) (by rw [show ((s : Int)).toNat = s by omega]; exact v) (by rw [show ((s : Int)).toNat = s by omega]; exact k)
  rw [show ((s : Int)).toNat = s by omega] at this
  exact this
theorem SA_fr2 {T : Nat → Nat → Int} {V : Nat → Prop} {S : Int → Int} {A A_q : Nat → Nat → Int} (e : A_q 13 = A 13) (h : SA T V S A) : SA T V S A_q := fun s a b c => by
  rw [e]
  exact h s a b c
theorem qX_mono {T : Nat → Nat → Int} {V : Nat → Prop} {sb x lo hi : Int} {n m : Nat} (hn : n ≤ m) (h : qX T V sb n x lo hi) : qX T V sb m x lo hi := by
  obtain ⟨h1, h2, h3, h4 | h4⟩ := h
  · exact ⟨h1, h2, h3, Or.inl h4⟩
  · exact ⟨h1, h2, h3, Or.inr ⟨h4.1, wE_mono (Int.le_refl _) hn (Int.le_refl _) h4.2⟩⟩
theorem c_useE_h {X : jX} {dd : Nat} {T0 : Nat → Nat → Int} {Sn : Int → Int} {Vs : Nat → Prop} {sb M : Int} {Fm : Int → Int → Int → Prop} {k : Nat} {c0 c1 : jC} {G : Nat → Int} {A : Nat → Nat → Int} {T : jH} {e : Int} {lo hi : Int} {uf us : Int} (hd : 66 ≤ dd) (hW : Wk G A) (e_uf : G 62 = uf) (e_us : G 61 = us) (h_e : (-2147483648 : Int) ≤ e ∧ e ≤ 2147483647) (p_0 : TA T0 A) (p_1 : 0 ≤ lo) (p_2 : hi ≤ 6999) (p_3 : sb ≤ 202) (p_4 : 0 ≤ uf) (p_5 : uf ≤ us) (p_6 : uf + M ≤ 59999) (p_7 : UI Fm A (uf) (us)) (p_8 : Fbd Fm M) (p_9 : wE T0 Vs sb (k) (e) (lo) (hi)) (p_10 : (k : Int) ≤ 30) (p_11 : SA T0 Vs Sn A) (p_12 : eU T0 (Rf Sn) 30 (fun s al e _ => Fm s al e) (e)) : wk X dd 328 [.ref 66, .int (i32 e)] (rV c0 c1 G A T) (fun o V_q => ∃ (G_q : Nat → Int) (A_q : Nat → Nat → Int) (us2 : Int), V_q = rV c0 c1 G_q A_q T ∧ o = .inl none ∧ Wk G_q A_q ∧ Fr [61] [39, 40, 41, 42] G A G_q A_q ∧ G_q 61 = us2 ∧ (us ≤ us2) ∧ (UI Fm A_q (uf) (us2)) ∧ (UX A A_q (uf) (us) (us2) (fun Q => eU T0 (Rf Sn) 30 Q (e))) ∧ True) := by
  have ag := SA_agr p_11
  have w := wE_mono (Int.le_refl _) (show k ≤ 30 by omega) (Int.le_refl _) p_9
  have q := fun Q => eU_agr (Q := Q) ag w
  refine wk_mono (fun o V_q h => ?_) (UE_all X 30 hd hW e_uf e_us h_e p_0 p_1 p_2 p_3 p_4 p_5 p_6 p_7 p_8 w (by decide) ((q _).mpr p_12))
  obtain ⟨G_q, A_q, us2, h1, h2, h3, h4, h5, h6, h7, h8, _⟩ := h
  exact ⟨G_q, A_q, us2, h1, h2, h3, h4, h5, h6, h7, UX_z (fun Q => (q Q).symm) h8, trivial⟩
theorem c_useReference_h {X : jX} {dd : Nat} {T0 : Nat → Nat → Int} {Sn : Int → Int} {Vs : Nat → Prop} {sb M : Int} {Fm : Int → Int → Int → Prop} {k : Nat} {c0 c1 : jC} {G : Nat → Int} {A : Nat → Nat → Int} {T : jH} {x dn : Int} {lo hi : Int} {uf us : Int} (hd : 67 ≤ dd) (hW : Wk G A) (e_uf : G 62 = uf) (e_us : G 61 = us) (h_x : (-2147483648 : Int) ≤ x ∧ x ≤ 2147483647) (h_dn : (-2147483648 : Int) ≤ dn ∧ dn ≤ 2147483647) (p_0 : TA T0 A) (p_1 : 0 ≤ lo) (p_2 : hi ≤ 6999) (p_3 : sb ≤ 202) (p_4 : 0 ≤ uf) (p_5 : uf ≤ us) (p_6 : uf + M ≤ 59999) (p_7 : UI Fm A (uf) (us)) (p_8 : Fbd Fm M) (p_9 : qX T0 Vs sb (k) (x) (lo) (hi)) (p_10 : (k : Int) ≤ 30) (p_11 : 0 ≤ dn) (p_12 : dn ≤ 15) (p_13 : SA T0 Vs Sn A) (p_14 : rU T0 (Rf Sn) (eU T0 (Rf Sn) 30) (fun s al e _ => Fm s al e) (x) (dn)) : wk X dd 327 [.ref 66, .int (i32 x), .int (i32 dn)] (rV c0 c1 G A T) (fun o V_q => ∃ (G_q : Nat → Int) (A_q : Nat → Nat → Int) (us2 : Int), V_q = rV c0 c1 G_q A_q T ∧ o = .inl none ∧ Wk G_q A_q ∧ Fr [61] [39, 40, 41, 42] G A G_q A_q ∧ G_q 61 = us2 ∧ (us ≤ us2) ∧ (UI Fm A_q (uf) (us2)) ∧ (UX A A_q (uf) (us) (us2) (fun Q => rU T0 (Rf Sn) (eU T0 (Rf Sn) 30) Q (x) (dn))) ∧ True) := by
  have ag := SA_agr p_13
  have w := qX_mono (show k ≤ 30 by omega) p_9
  have q := fun Q => rU_agr (E := eU T0 (Rf Sn) 30) (E' := eU T0 (A 13) 30) (Q := Q) (d := dn) ag w (fun k3 => eU_agr ag (qX_e w (by omega)).1)
  refine wk_mono (fun o V_q h => ?_) (c_useReference (k := 30) (hE := UE_all X 30) hd hW e_uf e_us h_x h_dn p_0 p_1 p_2 p_3 p_4 p_5 p_6 p_7 p_8 w (by decide) p_11 p_12 ((q _).mpr p_14))
  obtain ⟨G_q, A_q, us2, h1, h2, h3, h4, h5, h6, h7, h8, _⟩ := h
  exact ⟨G_q, A_q, us2, h1, h2, h3, h4, h5, h6, h7, UX_z (fun Q => (q Q).symm) h8, trivial⟩
