/-! THE CLASS'S SIDE: from a new object to the end of its constructor -/
def OE (m : Nat) (tg : Int → Int) (F F_q : Int → Int → Int) : Prop := ∀ b i, own m b → (tg b = 6 ∨ tg b = 7 ∨ tg b = 8 ∨ tg b = 24) → F_q b i = F b i
/-- no cell is an object of the reference -/
def T3 (m : Nat) (tg : Int → Int) : Prop := ∀ a, own m a → tg a ≠ 13
section
variable {m m1 m2 m_q : Nat} {tg ln tg1 ln1 tg2 ln2 tg_q ln_q : Int → Int} {F F1 F2 F_q : Int → Int → Int} {a j z n t k x0 q : Int} {L : List (Int × Int)}
theorem OE_r : OE m tg F F := fun _ _ _ _ => rfl
theorem OE_n (h : OE m tg F F1) (hm : m ≤ m1) (en : n = 64 + (m1 : Int)) (hf : ∀ b i, b ≠ n → F2 b i = F1 b i) : OE m tg F F2 := fun b i o t => by
  rw [hf b i (fun w => by have := o.2.1; omega)]
  exact h b i o t
theorem inL_f (h : L.all (fun p => !(p.1 == 6) && !(p.1 == 7) && !(p.1 == 8) && !(p.1 == 24)) = true) (ht : t = 6 ∨ t = 7 ∨ t = 8 ∨ t = 24) : inL L t q = false := by
  cases w : inL L t q with
  | false => rfl
  | true =>
    exfalso
    unfold inL at w
    obtain ⟨p, h1, h2⟩ := List.any_eq_true.mp w
    have h3 := List.all_eq_true.mp h p h1
    have h4 := (Bool.and_eq_true_iff.mp h2).1
    have h5 : p.1 = t := by simpa using h4
    rw [h5] at h3
    rcases ht with rfl | rfl | rfl | rfl
    · exact absurd h3 (by decide)
    · exact absurd h3 (by decide)
    · exact absurd h3 (by decide)
    · exact absurd h3 (by decide)
theorem OE_q (h : OE m tg F F1) (ex : Ex m tg ln m1 tg1 ln1) (g : Fq x0 L m1 tg1 F1 F2) (hx : x0 = 0 ∨ 64 + (m : Int) ≤ x0) (hl : L.all (fun p => !(p.1 == 6) && !(p.1 == 7) && !(p.1 == 8) && !(p.1 == 24)) = true) : OE m tg F F2 := fun b i o t => by
  have hb : b ≠ x0 := fun w => by
    have w1 := o.1
    have w2 := o.2.1
    omega
  rw [g b i (own_m o ex.1) hb (by rw [(ex.2 b o).1]; exact inL_f hl t)]
  exact h b i o t
theorem WN (hm : 89 ≤ m) (en : n = 64 + (m : Int)) (em : m1 = m + 1) (ht : tg1 n = t) (o1 : own m1 n) (ex1 : Ex m1 tg1 ln1 m_q tg_q ln_q) (w : NW m1 m_q tg_q F_q) (hn : t ≠ 7 ∧ t ≠ 8 ∧ t ≠ 24) : ∀ b, own m_q b → ¬ own m b → (tg_q b ≠ 7 ∧ tg_q b ≠ 8 ∧ (tg_q b = 24 → ∀ j, 0 ≤ j → F_q b j = 0)) ∧ (tg_q b = 6 → b = n) := fun b o ob => by
  by_cases e : b = n
  · have et : tg_q b = t := by rw [e]; exact (ex1.2 n o1).1.trans ht
    exact ⟨⟨by rw [et]; exact hn.1, by rw [et]; exact hn.2.1, fun x => absurd (et.symm.trans x) hn.2.2⟩, fun _ => e⟩
  · have hb : 64 + (m1 : Int) ≤ b := by
      have q : ¬ (64 ≤ b ∧ b < 64 + (m : Int) ∧ ¬ (66 ≤ b ∧ b < 153)) := ob
      have r1 := o.1
      have r2 := o.2.2
      omega
    have z := w b o hb
    exact ⟨⟨z.1, z.2.1, z.2.2.2⟩, fun x => absurd x z.2.2.1.1⟩
theorem NP_v (hC : HC 0 m tg ln F) (h : NP m tg F) (ex : Ex m tg ln m_q tg_q ln_q) (oe : OE m tg F F_q) (w : ∀ b, own m_q b → ¬ own m b → (tg_q b ≠ 7 ∧ tg_q b ≠ 8 ∧ (tg_q b = 24 → ∀ j, 0 ≤ j → F_q b j = 0)) ∧ (tg_q b = 6 → b = n)) : NP m_q tg_q F_q := by
  have e8 : ∀ b i, own m b → tg b = 8 → F_q b i = F b i := fun b i o t => oe b i o (Or.inr (Or.inr (Or.inl t)))
  have e7 : ∀ b i, own m b → tg b = 7 → F_q b i = F b i := fun b i o t => oe b i o (Or.inr (Or.inl t))
  have e4 : ∀ b i, own m b → tg b = 24 → F_q b i = F b i := fun b i o t => oe b i o (Or.inr (Or.inr (Or.inr t)))
  refine NP_c hC h ex (fun b ob tb sb => Or.inr ?_) (fun x ox tx sx => ?_) (fun b ob tb => ?_) (fun b ob tb => ?_) (fun x ox tx hx => by rw [e8 _ _ ox tx]; exact hx) (fun b o ob => ?_)
  · rw [e8 _ _ ob tb] at sb
    exact ⟨sb, fun q _ => e8 _ _ ob tb⟩
  · exact ⟨(e8 _ _ ox tx).trans sx, e8 _ _ ox tx, e8 _ _ ox tx⟩
  · exact ⟨e7 _ _ ob tb, fun _ => e7 _ _ ob tb, fun _ => e7 _ _ ob tb, Or.inl (e7 _ _ ob tb), Or.inl (e7 _ _ ob tb), Or.inl (e7 _ _ ob tb)⟩
  · exact ⟨e4 _ _ ob tb, fun j _ => Or.inl (e4 _ _ ob tb)⟩
  · have z := (w b o ob).1
    exact ⟨fun x => absurd x z.2.1, fun x => absurd x z.1, z.2.2⟩
theorem SB_v (h : SB m tg F k) (ex : Ex m tg ln m_q tg_q ln_q) (oe : OE m tg F F_q) (w : ∀ b, own m_q b → ¬ own m b → (tg_q b ≠ 7 ∧ tg_q b ≠ 8 ∧ (tg_q b = 24 → ∀ j, 0 ≤ j → F_q b j = 0)) ∧ (tg_q b = 6 → b = n)) (et : tg_q n = t) (hz : t ≠ 6 ∨ F_q n 6 ≤ k) : SB m_q tg_q F_q k := fun x o tx => by
  by_cases ob : own m x
  · have t6 : tg x = 6 := (ex.2 x ob).1.symm.trans tx
    rw [oe x 6 ob (Or.inl t6)]
    exact h x ob t6
  · have e := (w x o ob).2 tx
    rcases hz with hz | hz
    · exact absurd (et.symm.trans (e ▸ tx)) hz
    · rw [e]
      exact hz
theorem SB_g (h : SB m tg F k) (ex : Ex m tg ln m_q tg_q ln_q) (g : Fq 0 L m tg F F_q) (hl : inL L 6 6 = false) (nm : NM m m_q tg_q) : SB m_q tg_q F_q k := fun x o tx => by
  by_cases ob : own m x
  · have t6 : tg x = 6 := (ex.2 x ob).1.symm.trans tx
    rw [g x 6 ob (own_z ob) (by rw [t6]; exact hl)]
    exact h x ob t6
  · refine absurd tx (nm x o ?_).1
    have q : ¬ (64 ≤ x ∧ x < 64 + (m : Int) ∧ ¬ (66 ≤ x ∧ x < 153)) := ob
    have r1 := o.1
    have r2 := o.2.2
    omega
theorem NW_t (h : NW m m1 tg1 F1) (ex : Ex m1 tg1 ln1 m2 tg2 ln2) (g : NW m1 m2 tg2 F2) (hf : ∀ b i, own m1 b → tg1 b = 24 → F2 b i = F1 b i) : NW m m2 tg2 F2 := fun b o hb => by
  by_cases ob : own m1 b
  · have e := (ex.2 b ob).1
    have z := h b ob hb
    refine ⟨by rw [e]; exact z.1, by rw [e]; exact z.2.1, by rw [e]; exact z.2.2.1, fun h24 i i0 => ?_⟩
    have t24 : tg1 b = 24 := e.symm.trans h24
    rw [hf b i ob t24]
    exact z.2.2.2 t24 i i0
  · refine g b o ?_
    have q : ¬ (64 ≤ b ∧ b < 64 + (m1 : Int) ∧ ¬ (66 ≤ b ∧ b < 153)) := ob
    have r1 := o.1
    have r2 := o.2.2
    omega
theorem T3_n (h : T3 m1 tg1) (hm : 89 ≤ m1) (ex : Ex m1 tg1 ln1 m2 tg2 ln2) (en : n = 64 + (m1 : Int)) (em : m2 = m1 + 1) (ht : tg2 n = t) (hn : t ≠ 13) : T3 m2 tg2 := fun b o => by
  subst em
  rcases (own_s hm).mp o with w | w
  · rw [(ex.2 b w).1]
    exact h b w
  · rw [← en] at w
    subst w
    rw [ht]
    exact hn
theorem T3_g (h : T3 m tg) (ex : Ex m tg ln m_q tg_q ln_q) (nm : NM m m_q tg_q) : T3 m_q tg_q := fun b o => by
  by_cases ob : own m b
  · rw [(ex.2 b ob).1]
    exact h b ob
  · refine (nm b o ?_).2
    have q : ¬ (64 ≤ b ∧ b < 64 + (m : Int) ∧ ¬ (66 ≤ b ∧ b < 153)) := ob
    have r1 := o.1
    have r2 := o.2.2
    omega
theorem T3_v (h : T3 m tg) (ex : Ex m tg ln m_q tg_q ln_q) (en : n = 64 + (m : Int)) (em : m1 = m + 1) (ht : tg1 n = t) (o1 : own m1 n) (ex1 : Ex m1 tg1 ln1 m_q tg_q ln_q) (w : NW m1 m_q tg_q F_q) (hn : t ≠ 13) : T3 m_q tg_q := fun b o => by
  by_cases ob : own m b
  · rw [(ex.2 b ob).1]
    exact h b ob
  · by_cases e : b = n
    · rw [e, (ex1.2 n o1).1, ht]
      exact hn
    · refine (w b o ?_).2.2.1.2
      have q : ¬ (64 ≤ b ∧ b < 64 + (m : Int) ∧ ¬ (66 ≤ b ∧ b < 153)) := ob
      have r1 := o.1
      have r2 := o.2.2
      omega
theorem NW_q (h : NW m m1 tg1 F1) (g : Fq 0 L m1 tg1 F1 F2) (hl : L.all (fun p => !(p.1 == 24)) = true) : NW m m1 tg1 F2 := fun b o hb => by
  have z := h b o hb
  refine ⟨z.1, z.2.1, z.2.2.1, fun h24 i i0 => ?_⟩
  rw [g b i o (own_z o) (by rw [h24]; exact PGd_r hl _)]
  exact z.2.2.2 h24 i i0
end
