/-! THE CLASS'S SIDE: what constructors make -/
def NW (m m_q : Nat) (tg_q : Int → Int) (F_q : Int → Int → Int) : Prop := ∀ b, own m_q b → 64 + (m : Int) ≤ b → tg_q b ≠ 7 ∧ tg_q b ≠ 8 ∧ (tg_q b ≠ 6 ∧ tg_q b ≠ 13) ∧ (tg_q b = 24 → ∀ j, 0 ≤ j → F_q b j = 0)
section
variable {m m1 m2 m_q : Nat} {tg ln tg1 ln1 tg2 ln2 tg_q ln_q : Int → Int} {F F1 F2 F_q : Int → Int → Int} {a j z n t : Int}
theorem NW_0 : NW m m tg F := fun b o h => by
  have := o.2.1
  omega
theorem NW_n (h : NW m m1 tg1 F1) (hm : 89 ≤ m1) (ex : Ex m1 tg1 ln1 m2 tg2 ln2) (en : n = 64 + (m1 : Int)) (em : m2 = m1 + 1) (hf : ∀ b i, b ≠ n → F2 b i = F1 b i) (ht : tg2 n = t) (hn : t ≠ 7 ∧ t ≠ 8 ∧ t ≠ 6 ∧ t ≠ 13) (h0 : ∀ j, 0 ≤ j → F2 n j = 0) : NW m m2 tg2 F2 := fun b o hb => by
  subst em
  rcases (own_s hm).mp o with w | w
  · have e := (ex.2 b w).1
    have z := h b w hb
    refine ⟨by rw [e]; exact z.1, by rw [e]; exact z.2.1, by rw [e]; exact z.2.2.1, fun h24 i i0 => ?_⟩
    rw [hf b i (ne_n w en)]
    exact z.2.2.2 (by rw [← e]; exact h24) i i0
  · rw [← en] at w
    subst w
    exact ⟨by rw [ht]; exact hn.1, by rw [ht]; exact hn.2.1, by rw [ht]; exact hn.2.2, fun _ i i0 => h0 i i0⟩
theorem NW_u (h : NW m m1 tg1 F1) (ht : tg1 a = t) (hn : t ≠ 24) : NW m m1 tg1 (uF F1 a j z) := fun b o hb => by
  have w := h b o hb
  refine ⟨w.1, w.2.1, w.2.2.1, fun h24 i i0 => ?_⟩
  rw [uF_a (ne_t h24 ht (fun e => hn e.symm))]
  exact w.2.2.2 h24 i i0
end
