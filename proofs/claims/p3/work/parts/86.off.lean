/-! a frame goes -/
def ind (f : Fm) (a : Int) : Int := if fOn f = 1 ∧ fPa f = a then 1 else 0
theorem cnt_u {g : Int → Fm} {r a : Int} {f : Fm} (hr : 0 ≤ r) : ∀ n : Nat, cnt (ug g r f) a n = cnt g a n + (if r < (n : Int) then ind f a - ind (g r) a else 0)
  | 0 => by
    rw [if_neg (by omega)]
    rfl
  | n + 1 => by
    show cnt (ug g r f) a n + ind (ug g r f (n : Int)) a = cnt g a n + ind (g (n : Int)) a + _
    rw [cnt_u hr n]
    by_cases h : r = (n : Int)
    · subst h
      rw [ug_e, if_neg (by omega), if_pos (by omega)]
      omega
    · rw [ug_n (fun q => h q.symm)]
      by_cases h2 : r < (n : Int)
      · rw [if_pos h2, if_pos (by omega)]
        omega
      · rw [if_neg h2, if_neg (by omega)]
        omega
theorem Bck_o {K : Kd} {m m_q : Int → Int} {g : Int → Fm} {r W : Int} {f f0 : Fm} (h0 : fSu (g r) = 0) (hm : cEk (fCx f0) = 1 → m_q (W + cZ (fCx f0) + 3) = m (W + cZ (fCx f0) + 3)) (b : Bck K m g W f0) : Bck K m_q (ug g r f) W f0 := by
  obtain ⟨b1, b2, b3⟩ := b
  refine ⟨fun k => ?_, fun k => ?_, b3⟩
  · obtain ⟨c1, c2, c3, c4, c5⟩ := b1 k
    have hn : W + cZ (fCx f0) + 7 ≠ r := fun e => by
      rw [e, h0] at c2
      omega
    rw [ug_n hn, hm k]
    exact ⟨c1, c2, c3, c4, c5⟩
  · obtain ⟨c1, V, c2, c3, c4, c5, c6⟩ := b2 k
    have hn : V ≠ r := fun e => by
      rw [e, h0] at c3
      omega
    refine ⟨c1, V, ?_⟩
    rw [ug_n hn]
    exact ⟨c2, c3, c4, c5, c6⟩
theorem Prs_r {m : Int → Int} {W V : Int} {f f_q : Fm} (h0 : fSu f = 0) (hW : Hok W f) (hV : Hok V f_q) (p : Prs m W f V f_q) : ¬ (fLo f ≤ fLo f_q ∧ fHi f_q ≤ fHi f) := fun q => by
  obtain ⟨a1, a2, a3, a4, a5, a6, a7⟩ := hW
  obtain ⟨b1, b2, b3, b4, b5, b6, b7⟩ := hV
  rcases p with p | p | p
  · rcases p.1 with p | p <;> omega
  · exact p.2.2.1 h0
  · have := p.2.1
    omega
theorem MI_off {K : Kd} {N : Int} {m ty m_q : Int → Int} {g : Int → Fm} {r : Int} {f : Fm} (h : MI K N m ty g) (hr : fOn (g r) = 1) (hu : fSu (g r) = 0) (hx : fSx (g r) ≠ 5) (hf : fOn f = 0) (ha : ∀ x, ¬ Att m g x r) (hm : ∀ x, ty x ≠ 5 → m_q x = m x)
    (hc : ∀ W, fOn (g W) = 1 → fSu (g W) = 2 → m_q (fAw (g W) + 1) = m (fAw (g W) + 1) ∨ (fAw (g W) = fPa (g r) ∧ m_q (fAw (g W) + 1) = m (fAw (g W) + 1) - 1)) : MI K N m_q ty (ug g r f) := by
  have on : ∀ W, fOn (ug g r f W) = 1 → W ≠ r ∧ fOn (g W) = 1 := fun W q => by
    by_cases e : W = r
    · subst e
      rw [ug_e, hf] at q
      exact absurd q (by decide)
    · rw [ug_n e] at q
      exact ⟨e, q⟩
  have hS : ∀ W l hh, Cok m ty W (fPb (g W)) (fLo (g W)) (fHi (g W)) (cZ (fCx (g W))) l → Sam m ty m_q ty W hh l := fun W l hh c => ⟨fun x _ _ => ⟨rfl, fun q => hm x (by omega)⟩, fun k x u q => ⟨rfl, fun _ _ => hm x (fun e => by
    have := (c.1 k x u q).1
    obtain ⟨q0, _, w⟩ := q
    rcases w with w | w | w | w | w | w | w | w <;> omega)⟩, fun _ _ => rfl⟩
  have hr0 := (h.1 r hr).1
  refine ⟨fun W hW => ?_, fun W W_q hW hW' hn => ?_, fun x hx2 => ?_⟩
  · obtain ⟨hn, hW⟩ := on W hW
    rw [ug_n hn]
    obtain ⟨a1, a2, a3, a4, a5, a6⟩ := h.1 W hW
    have s := hS W (fQ (g W)) (fHi (g W)) a3
    refine ⟨a1, Tok_m s a1 a2, Cok_m s a3, Wok_m s a1 a2 a3 a4, Bck_o hu (fun k => hm _ (by have := (a2.2.2.2.2.1 k).2.2.2; omega)) a5, fun k => ?_⟩
    obtain ⟨b1, b2, b3, b4⟩ := a6 k
    refine ⟨fun e he => ?_, b2, ?_, fun V v1 v2 v3 => ?_⟩
    · obtain ⟨c1, c2, c3, c4⟩ := b1 e he
      have hn : W - e.1 ≠ r := fun q => hx (q ▸ c2)
      rw [ug_n hn]
      exact ⟨c1, c2, c3, c4⟩
    · have hr1 : 0 ≤ r ∧ r < 4016 := by
        obtain ⟨d1, d2, d3, d4, d5, d6, d7⟩ := hr0
        omega
      rw [cnt_u hr1.1 4016, if_pos (by omega)]
      have i0 : ind f (fAw (g W)) = 0 := if_neg (by omega)
      have i1 : 0 ≤ ind (g r) (fAw (g W)) := by
        unfold ind
        split <;> omega
      rcases hc W hW k with q | ⟨q1, q2⟩
      · omega
      · have i2 : ind (g r) (fAw (g W)) = 1 := if_pos ⟨hr, q1.symm⟩
        omega
    · obtain ⟨v0, y1⟩ := on V v1
      rw [ug_n v0] at v2 v3 ⊢
      obtain ⟨U, u1, u2, u3, u4⟩ := b4 V y1 v2 v3
      have hU : U ≠ r := fun e => by
        subst e
        exact Prs_r hu hr0 (h.1 V y1).1 (h.2.1 U V u1 y1 (fun q => v0 q.symm)) ⟨u3, u4⟩
      refine ⟨U, ?_⟩
      rw [ug_n hU]
      exact ⟨u1, u2, u3, u4⟩
  · obtain ⟨n1, hW⟩ := on W hW
    obtain ⟨n2, hW'⟩ := on W_q hW'
    rw [ug_n n1, ug_n n2]
    exact Prs_m (Sam_p (hS W _ 0 (h.1 W hW).2.2.1) (h.1 W hW).2.2.1) (Sam_p (hS W_q _ 0 (h.1 W_q hW').2.2.1) (h.1 W_q hW').2.2.1) (h.2.1 W W_q hW hW' hn)
  · have e : m_q x = m x := hm x (by omega)
    rcases h.2.2 x hx2 with a | ⟨W, a⟩
    · exact Or.inl (e.trans a)
    · by_cases q : W = r
      · subst q
        exact absurd a (ha x)
      · exact Or.inr ⟨W, Att_m a (h.1 W a.1) (hS W _ _ (h.1 W a.1).2.2.1) e (ug_n q)⟩
