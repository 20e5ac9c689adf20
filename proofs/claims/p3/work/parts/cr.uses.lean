/-! THE CLASS'S SIDE: what Uses keeps -/
/-- what was seen has a name -/
def SEx (m : Nat) (tg : Int → Int) (F : Int → Int → Int) : Prop := ∀ a, own m a → tg a = 24 → F a (-1) = 5 → ∀ j, 0 ≤ j → F a j ≠ 0 → own m (F a j) ∧ tg (F a j) = 8 ∧ F (F a j) 3 ≠ 0
def PSx (m : Nat) (tg : Int → Int) (F : Int → Int → Int) : Prop := PG m tg F ∧ SEx m tg F
section
variable {m : Nat} {tg ln : Int → Int} {F F_q : Int → Int → Int} {a j z t : Int} {k : Nat} {L : List (Int × Int)}
theorem PSx_m (h : PSx m tg F) (_ : (0 : Int) ≤ 0) : PSx m tg F := h
theorem SN_u {x : Int} (h : SN m tg F x k) (hg : tg a = t) (hn : ¬ (t = 8 ∧ (j = 100 ∨ j = 103))) : SN m tg (uF F a j z) x k := by
  rcases h with h | ⟨o, e, s, r1, r2⟩
  · exact Or.inl h
  · have n : ∀ q : Int, q = 100 ∨ q = 103 → uF F a j z x q = F x q := fun q hq => if_neg (fun w => hn ⟨by rw [← hg, ← w.1, e], by omega⟩)
    exact Or.inr ⟨o, e, by rw [n 103 (by omega)]; exact s, by rw [n 100 (by omega)]; exact r1, by rw [n 100 (by omega)]; exact r2⟩
theorem PSx_u (h : PSx m tg F) (hg : tg a = t) (hn : ¬ (t = 24 ∨ (t = 7 ∧ j = 12) ∨ (t = 8 ∧ (j = 100 ∨ j = 103 ∨ j = 3)))) : PSx m tg (uF F a j z) := by
  have f : ∀ {x i : Int}, tg x = 24 → uF F a j z x i = F x i := fun e => uF_a (fun w => hn (Or.inl (by rw [← hg, ← w, e])))
  refine ⟨⟨fun x o e s i i0 => ?_, fun x o e => ?_⟩, fun x o e s i i0 hx => ?_⟩
  · rw [f e] at s ⊢
    exact SN_u (h.1.1 x o e s i i0) hg (by omega)
  · rw [show uF F a j z x 12 = F x 12 from if_neg (fun w => hn (Or.inr (Or.inl ⟨by rw [← hg, ← w.1, e], w.2.symm⟩)))]
    exact SN_u (h.1.2 x o e) hg (by omega)
  · rw [f e] at s hx ⊢
    have w := h.2 x o e s i i0 hx
    refine ⟨w.1, w.2.1, ?_⟩
    rw [show uF F a j z (F x i) 3 = F (F x i) 3 from if_neg (fun v => hn (Or.inr (Or.inr ⟨by rw [← hg, ← v.1, w.2.1], by omega⟩)))]
    exact w.2.2
theorem PSx_p (h : PSx m tg F) (_ : own m a) (ht : tg a = 24) (hs : F a (-1) = 5) (h0 : 0 ≤ j) (hz : own m z ∧ tg z = 8 ∧ F z 3 ≠ 0) : PSx m tg (uF F a j z) := by
  have n1 : ∀ x, uF F a j z x (-1) = F x (-1) := fun x => uF_j (by omega)
  refine ⟨⟨fun x o e s i i0 => ?_, fun x o e => ?_⟩, fun x o e s i i0 hx => ?_⟩
  · rw [n1] at s
    rw [uF_a (fun w => by rw [w, hs] at s; exact absurd s (by decide))]
    exact SN_u (h.1.1 x o e s i i0) ht (by omega)
  · rw [uF_a (fun w => by rw [w, ht] at e; exact absurd e (by decide))]
    exact SN_u (h.1.2 x o e) ht (by omega)
  · rw [n1] at s
    have g3 : ∀ y, tg y = 8 → uF F a j z y 3 = F y 3 := fun y ty => uF_a (fun w => by rw [w, ht] at ty; exact absurd ty (by decide))
    by_cases w : x = a ∧ i = j
    · have e2 : uF F a j z x i = z := if_pos w
      rw [e2] at hx ⊢
      exact ⟨hz.1, hz.2.1, by rw [g3 z hz.2.1]; exact hz.2.2⟩
    · have e2 : uF F a j z x i = F x i := if_neg w
      rw [e2] at hx ⊢
      have v := h.2 x o e s i i0 hx
      exact ⟨v.1, v.2.1, by rw [g3 _ v.2.1]; exact v.2.2⟩
def PSd (L : List (Int × Int)) : Bool := PGd L && !inL L 8 3
theorem PSx_q (h : PSx m tg F) (g : Fq 0 L m tg F F_q) (hd : PSd L = true) : PSx m tg F_q := by
  unfold PSd at hd
  obtain ⟨hd1, hd2⟩ := Bool.and_eq_true_iff.mp hd
  have hd3 : inL L 8 3 = false := by simpa using hd2
  unfold PGd at hd1
  simp only [Bool.and_eq_true, Bool.not_eq_true'] at hd1
  obtain ⟨⟨⟨d1, d2⟩, d3⟩, d4⟩ := hd1
  have d5 : L.all (fun p => !(p.1 == 24)) = true := by simpa using d4
  refine ⟨⟨fun a o t s j j0 => ?_, fun a o t => ?_⟩, fun a o t s j j0 hx => ?_⟩
  · rw [g a (-1) o (own_z o) (by rw [t]; exact PGd_r d5 _)] at s
    rw [g a j o (own_z o) (by rw [t]; exact PGd_r d5 _)]
    exact SN_q (h.1.1 a o t s j j0) g d1 d2
  · rw [g a 12 o (own_z o) (by rw [t]; exact d3)]
    exact SN_q (h.1.2 a o t) g d1 d2
  · rw [g a (-1) o (own_z o) (by rw [t]; exact PGd_r d5 _)] at s
    rw [g a j o (own_z o) (by rw [t]; exact PGd_r d5 _)] at hx ⊢
    have v := h.2 a o t s j j0 hx
    exact ⟨v.1, v.2.1, by rw [g _ 3 v.1 (own_z v.1) (by rw [v.2.1]; exact hd3)]; exact v.2.2⟩
end
