/-! THE CLASS'S SIDE: trees while they are made, rows of nodes -/
section
variable {m : Nat} {tg ln : Int → Int} {F F_q : Int → Int → Int} {p j z K l c : Int}
theorem WK_8 (w : WK F p K) (hp : p ≠ l) : WK (uF F l 8 z) p K := WK_c w (fun q _ => uF_a hp) (fun q _ _ sx => ⟨(uF_j (by decide)).trans sx, uF_j (by decide), uF_j (by decide)⟩) (fun _ => uF_j (by decide))
theorem WK_s5 (w : WK F p K) (s : F z 103 = 1) (r1 : 1 ≤ F z 100) (r2 : F z 100 < K) (hc : F z 101 = F (F p 3) 13 ∧ F (F p 3) 13 ≠ 0) : WK (uF F p 4 z) p K := by
  obtain ⟨w1, w2, w3, w4, w5⟩ := w
  have ej : ∀ b q, q ≠ 4 → uF F p 4 z b q = F b q := fun b q n => uF_j n
  refine ⟨(ej _ _ (by decide)).trans w1, (ej _ _ (by decide)).trans w2, (ej _ _ (by decide)).trans w3, fun q hq hn => ?_, fun _ _ _ => ?_⟩
  · rw [ej _ 103 (by decide), ej _ 100 (by decide)]
    by_cases e : q = 4
    · subst e
      rw [uF_e]
      exact ⟨s, r1, r2⟩
    · rw [ej _ q e] at hn ⊢
      exact w4 q hq hn
  · rw [uF_e, ej _ 101 (by decide), ej _ 3 (by decide), ej _ 13 (by decide)]
    exact hc
end
theorem WK_qy {m : Nat} {tg ln : Int → Int} {F F_q : Int → Int → Int} {p K x : Int} {L : List (Int × Int)} (w : WK F p K) (hC : HC 0 m tg ln F) (o : own m p) (t : tg p = 8) (g : Fq x L m tg F F_q) (hd : WKd L = true) (tx : tg x = 8) (s : F x 103 = 0) (hp : p ≠ x) : WK F_q p K := by
  unfold WKd at hd
  simp only [Bool.and_eq_true, Bool.not_eq_true'] at hd
  obtain ⟨⟨⟨⟨⟨⟨⟨⟨⟨⟨d0, d3⟩, d4⟩, d5⟩, d6⟩, d7⟩, d8⟩, d100⟩, d101⟩, d103⟩, n13⟩ := hd
  have e8 : ∀ {y : Int} (q : Int), own m y → y ≠ x → tg y = 8 → inL L 8 q = false → F_q y q = F y q := fun q o n t i => g _ q o n (by rw [t]; exact i)
  refine WK_c w (fun q hq => ?_) (fun q hq hn sx => ?_) (fun hn => ?_)
  · unfold R8 at hq
    rcases hq with (rfl | rfl | rfl | rfl | rfl | rfl | rfl | rfl | rfl) | rfl
    · exact e8 _ o hp t d0
    · exact e8 _ o hp t d3
    · exact e8 _ o hp t d4
    · exact e8 _ o hp t d5
    · exact e8 _ o hp t d6
    · exact e8 _ o hp t d7
    · exact e8 _ o hp t d8
    · exact e8 _ o hp t d100
    · exact e8 _ o hp t d101
    · exact e8 _ o hp t d103
  · have y := WK_t hC o t hq hn
    have n : F p q ≠ x := fun e => by rw [e, s] at sx; exact absurd sx (by decide)
    exact ⟨(e8 _ y.1 n y.2 d103).trans sx, e8 _ y.1 n y.2 d100, e8 _ y.1 n y.2 d101⟩
  · have y := WK_3 hC o t hn
    exact g _ 13 y.1 (ne_t y.2 tx (by decide)) (by rw [y.2]; exact n13)
/-- how many processors there are -/
def crt (F : Int → Int → Int) (a : Int) : Int := tz (F a 0) + tz (F a 1) + tz (F a 2) + tz (F a 3) + tz (F a 4) + tz (F a 5)
def CR (m : Nat) (tg : Int → Int) (F : Int → Int → Int) (a x : Int) : Prop := own m a ∧ tg a = 24 ∧ crt F a ≤ x
section
variable {m m_q : Nat} {tg ln tg_q ln_q : Int → Int} {F F_q : Int → Int → Int} {a b j z x y t : Int} {L : List (Int × Int)}
theorem CR_m (h : CR m tg F a x) (hx : x ≤ y) : CR m tg F a y := ⟨h.1, h.2.1, Int.le_trans h.2.2 hx⟩
theorem crt_c (h : ∀ q, F_q a q = F a q) : crt F_q a = crt F a := by
  unfold crt
  rw [h, h, h, h, h, h]
theorem CR_q (h : CR m tg F a x) (g : Fq 0 L m tg F F_q) (hl : L.all (fun p => !(p.1 == 24)) = true) : CR m tg F_q a x := ⟨h.1, h.2.1, by rw [crt_c (fun q => g a q h.1 (own_z h.1) (by rw [h.2.1]; exact PGd_r hl _))]; exact h.2.2⟩
theorem CR_x (h : CR m tg F a x) (ex : Ex m tg ln m_q tg_q ln_q) (g : Fq 0 L m tg F F_q) (hl : L.all (fun p => !(p.1 == 24)) = true) : CR m_q tg_q F_q a x := ⟨own_m h.1 ex.1, (ex.2 _ h.1).1.trans h.2.1, (CR_q h g hl).2.2⟩
theorem CR_e (h : CR m tg F a x) (e : b = a) : CR m tg F b x := e ▸ h
theorem CR_e2 (h : CR m tg F b x) (e : b = a) : CR m tg F a x := e ▸ h
theorem CR_p (h : CR m tg F a x) : CR m tg (uF F b j z) a (x + 1) := by
  refine ⟨h.1, h.2.1, ?_⟩
  have k : ∀ q : Int, tz (uF F b j z a q) ≤ tz (F a q) + (if q = j then 1 else 0) := fun q => by
    by_cases e : q = j
    · rw [if_pos e]
      have z1 := tz_b (uF F b j z a q)
      have z2 := tz_b (F a q)
      omega
    · rw [if_neg e, uF_j e]
      omega
  have k0 := k 0
  have k1 := k 1
  have k2 := k 2
  have k3 := k 3
  have k4 := k 4
  have k5 := k 5
  have s : (if (0 : Int) = j then (1 : Int) else 0) + (if (1 : Int) = j then (1 : Int) else 0) + (if (2 : Int) = j then (1 : Int) else 0) + (if (3 : Int) = j then (1 : Int) else 0) + (if (4 : Int) = j then (1 : Int) else 0) + (if (5 : Int) = j then (1 : Int) else 0) ≤ 1 := by
    repeat' split
    all_goals omega
  have w := h.2.2
  unfold crt at w ⊢
  omega
end
