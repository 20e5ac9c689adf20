/-! THE CLASS'S SIDE: a row of roots stays as it is -/
def RtS (m : Nat) (tg : Int → Int) (F : Int → Int → Int) (a0 cr : Int) : Prop := own m a0 ∧ tg a0 = 24 ∧ F a0 (-1) = 0 ∧ crt F a0 ≤ cr
section
variable {m : Nat} {tg ln : Int → Int} {F F_q : Int → Int → Int} {a0 cr a j z t : Int} {L : List (Int × Int)}
theorem RtS_m (h : RtS m tg F a0 cr) (_ : (0 : Int) ≤ 0) : RtS m tg F a0 cr := h
theorem RtS_u (h : RtS m tg F a0 cr) (ht : tg a = t) (hn : ¬ t = 24) : RtS m tg (uF F a j z) a0 cr := by
  have n : a0 ≠ a := ne_t h.2.1 ht (fun e => hn e.symm)
  exact ⟨h.1, h.2.1, by rw [uF_a n]; exact h.2.2.1, by rw [crt_c (fun q => uF_a n)]; exact h.2.2.2⟩
theorem RtS_p (h : RtS m tg F a0 cr) (hs : F a (-1) = 5) : RtS m tg (uF F a j z) a0 cr := by
  have n : a0 ≠ a := fun e => by
    have w := h.2.2.1
    rw [e, hs] at w
    exact absurd w (by decide)
  exact ⟨h.1, h.2.1, by rw [uF_a n]; exact h.2.2.1, by rw [crt_c (fun q => uF_a n)]; exact h.2.2.2⟩
theorem RtS_q (h : RtS m tg F a0 cr) (g : Fq 0 L m tg F F_q) (hl : L.all (fun p => !(p.1 == 24)) = true) : RtS m tg F_q a0 cr := by
  have e : ∀ q, F_q a0 q = F a0 q := fun q => g a0 q h.1 (own_z h.1) (by rw [h.2.1]; exact PGd_r hl _)
  exact ⟨h.1, h.2.1, by rw [e]; exact h.2.2.1, by rw [crt_c e]; exact h.2.2.2⟩
end
