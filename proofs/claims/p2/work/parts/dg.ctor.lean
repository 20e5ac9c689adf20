/-! THE CLASS'S SIDE: what constructors make -/
def NW (m m' : Nat) (tg' : Int → Int) (F' : Int → Int → Int) : Prop := ∀ b, own m' b → 64 + (m : Int) ≤ b → tg' b ≠ 7 ∧ tg' b ≠ 8 ∧ (tg' b ≠ 6 ∧ tg' b ≠ 13) ∧ (tg' b = 24 → ∀ j, 0 ≤ j → F' b j = 0)
section
variable {m m1 m2 m' : Nat} {tg ln tg1 ln1 tg2 ln2 tg' ln' : Int → Int} {F F1 F2 F' : Int → Int → Int} {a j z n t : Int}
theorem NW_0 : NW m m tg F := fun b o h => by
  have := o.2.1
  omega
theorem NW_n (h : NW m m1 tg1 F1) (hm : 89 ≤ m1) (ex : Ex m1 tg1 ln1 m2 tg2 ln2) (en : n = 64 + (m1 : Int)) (em : m2 = m1 + 1) (hf : ∀ b i, b ≠ n → F2 b i = F1 b i) (ht : tg2 n = t) (hn : t ≠ 7 ∧ t ≠ 8 ∧ t ≠ 6 ∧ t ≠ 13) (h0 : ∀ j, 0 ≤ j → F2 n j = 0) : NW m m2 tg2 F2 := fun b o hb => by
  subst em
  rcases (own_s hm).mp o with w | w
  · have e := (ex.2 b w).1
    have z := h b w hb
    refine ⟨by rw [e]; exact z.1, by rw [e]; exact z.2.1, by rw [e]; exact z.2.2.1, fun h24 i i0 => ?_⟩
    rw [hf b i (ne_n w en)]
    exact z.2.2.2 (by rw [← e]; exact h24) i i0
  · rw [← en] at w
    subst w
    exact ⟨by rw [ht]; exact hn.1, by rw [ht]; exact hn.2.1, by rw [ht]; exact hn.2.2, fun _ i i0 => h0 i i0⟩
theorem NW_u (h : NW m m1 tg1 F1) (ht : tg1 a = t) (hn : t ≠ 24) : NW m m1 tg1 (uF F1 a j z) := fun b o hb => by
  have w := h b o hb
  refine ⟨w.1, w.2.1, w.2.2.1, fun h24 i i0 => ?_⟩
  rw [uF_a (ne_t h24 ht (fun e => hn e.symm))]
  exact w.2.2.2 h24 i i0
theorem NP_w (hC : HC 0 m tg ln F) (h : NP m tg F) (ex : Ex m tg ln m' tg' ln') (en : n = 64 + (m : Int)) (em : m1 = m + 1) (ex1 : Ex m1 tg1 ln1 m' tg' ln') (o1 : own m1 n) (hf : ∀ b i, own m b → F' b i = F b i) (ht : tg1 n = t) (hn : t ≠ 7 ∧ t ≠ 8 ∧ t ≠ 24) (w : NW m1 m' tg' F') : NP m' tg' F' := by
  refine NP_c hC h ex (fun b ob tb sb => Or.inr ?_) (fun x ox tx sx => ?_) (fun b ob tb => ?_) (fun b ob tb => ?_) (fun x ox _ hx => by rw [hf _ _ ox]; exact hx) (fun b o ob => ?_)
  · rw [hf _ _ ob] at sb
    exact ⟨sb, fun q _ => hf _ _ ob⟩
  · exact ⟨(hf _ _ ox).trans sx, hf _ _ ox, hf _ _ ox⟩
  · exact ⟨hf _ _ ob, fun _ => hf _ _ ob, fun _ => hf _ _ ob, Or.inl (hf _ _ ob), Or.inl (hf _ _ ob), Or.inl (hf _ _ ob)⟩
  · exact ⟨hf _ _ ob, fun j _ => Or.inl (hf _ _ ob)⟩
  · by_cases e : b = n
    · subst e
      have et := (ex1.2 b o1).1
      exact ⟨fun x => absurd ((ht.symm.trans (et.symm.trans x))) (fun y => hn.2.1 y), fun x => absurd ((ht.symm.trans (et.symm.trans x))) (fun y => hn.1 y), fun x => absurd ((ht.symm.trans (et.symm.trans x))) (fun y => hn.2.2 y)⟩
    · have hb : 64 + (m1 : Int) ≤ b := by
        have q : ¬ (64 ≤ b ∧ b < 64 + (m : Int) ∧ ¬ (66 ≤ b ∧ b < 153)) := ob
        have r1 := o.1
        have r2 := o.2.2
        have hm := hC.1
        omega
      have z := w b o hb
      exact ⟨fun x => absurd x z.2.1, fun x => absurd x z.1, z.2.2.2⟩
theorem SB_w {k : Int} {L : List (Int × Int)} (h : SB m tg F k) (_ : Ex m tg ln m' tg' ln') (te : ∀ b, own m b → tg' b = tg b) (hf : ∀ b, own m b → tg b = 6 → F' b 6 = F b 6) (hw : ∀ b, own m' b → ¬ own m b → tg' b = 6 → F' b 6 ≤ k) : SB m' tg' F' k := fun x o t => by
  by_cases ob : own m x
  · have t6 : tg x = 6 := (te x ob).symm.trans t
    rw [hf x ob t6]
    exact h x ob t6
  · exact hw x o ob t
end
