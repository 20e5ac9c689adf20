/-! frames are made below one that runs: a PROC's, the branches of a PAR -/
def gk (g : Int → Fm) (r : Int) (f : Fm) (kd : Int → Fm) : Int → Fm := fun W => if W = r then f else if fOn (kd W) = 1 then kd W else g W
theorem gk_r {g : Int → Fm} {r : Int} {f : Fm} {kd : Int → Fm} : gk g r f kd r = f := if_pos rfl
theorem gk_k {g : Int → Fm} {r W : Int} {f : Fm} {kd : Int → Fm} (h : W ≠ r) (k : fOn (kd W) = 1) : gk g r f kd W = kd W := by
  unfold gk
  rw [if_neg h, if_pos k]
theorem gk_n {g : Int → Fm} {r W : Int} {f : Fm} {kd : Int → Fm} (h : W ≠ r) (k : ¬ fOn (kd W) = 1) : gk g r f kd W = g W := by
  unfold gk
  rw [if_neg h, if_neg k]
theorem cnt_le {g : Int → Fm} {a : Int} : ∀ (n : Nat) (l : List Int), (∀ W : Int, 0 ≤ W → W < (n : Int) → fOn (g W) = 1 → fPa (g W) = a → W ∈ l) → cnt g a n ≤ (l.length : Int)
  | 0, l, _ => by
    show (0 : Int) ≤ _
    omega
  | n + 1, l, h => by
    show cnt g a n + (if fOn (g (n : Int)) = 1 ∧ fPa (g (n : Int)) = a then 1 else 0) ≤ _
    by_cases q : fOn (g (n : Int)) = 1 ∧ fPa (g (n : Int)) = a
    · rw [if_pos q]
      have hm := h (n : Int) (by omega) (by omega) q.1 q.2
      have := cnt_le n (l.erase (n : Int)) (fun W w1 w2 w3 w4 => (List.mem_erase_of_ne (by omega)).mpr (h W w1 (by omega) w3 w4))
      rw [List.length_erase_of_mem hm] at this
      have := List.length_pos_of_mem hm
      omega
    · rw [if_neg q]
      have := cnt_le n l (fun W w1 w2 => h W w1 (by omega))
      omega
theorem MI_add {K : Kd} {N : Int} {m ty m_q ty_q : Int → Int} {g : Int → Fm} {r : Int} {f : Fm} {kd : Int → Fm} (h : MI K N m ty g) (hr : fOn (g r) = 1) (hu : fSu (g r) = 0) (hx : fSx (g r) ≠ 5) (hc : Chg (fLo (g r)) (fHi (g r)) m ty m_q ty_q)
    (e1 : fOn f = 1 ∧ fLo f = fLo (g r) ∧ fHi f = fHi (g r) ∧ fPa f = fPa (g r)) (su1 : fSu f ≠ 0) (hL : Loc K N m_q ty_q (gk g r f kd) r f)
    (hK : ∀ W, fOn (kd W) = 1 → (fLo (g r) ≤ fLo (kd W) ∧ fHi (kd W) ≤ r - 3) ∧ Loc K N m_q ty_q (gk g r f kd) W (kd W) ∧ (fPa (kd W) = 0 ∨ (fSu f = 2 ∧ fPa (kd W) = fAw f)))
    (hKK : ∀ W W_q, fOn (kd W) = 1 → fOn (kd W_q) = 1 → W ≠ W_q → Prs m_q W (kd W) W_q (kd W_q))
    (hc1 : ∀ k x u, Cl m_q r (fQ f) k x u → (∃ v, sbt v u ∧ Cl m r (fQ (g r)) k x v) ∧ ¬ (fLo (g r) ≤ x ∧ x < r - 3))
    (hck : ∀ W, fOn (kd W) = 1 → ∀ k x u, Cl m_q W (fQ (kd W)) k x u → (∃ v, sbt v u ∧ Cl m_q r (fQ f) k x v) ∨ (fLo (kd W) ≤ x ∧ x < fHi (kd W)))
    (hC : Chs m_q ty_q (gk g r f kd)) : MI K N m_q ty_q (gk g r f kd) := by
  have H := (h.1 r hr).1
  have hkr : ∀ W, fOn (kd W) = 1 → W ≠ r := fun W k e => by
    subst e
    have a := (hK W k).1
    have b := (hK W k).2.1.1
    obtain ⟨b1, b2, b3, b4, b5, b6, b7⟩ := b
    omega
  have off : ∀ W, fOn (g W) = 1 → W ≠ r → ¬ fOn (kd W) = 1 := fun W hW hn k => by
    have a := (hK W k).1
    obtain ⟨b1, b2, b3, b4, b5, b6, b7⟩ := (hK W k).2.1.1
    obtain ⟨c1, c2, c3, c4, c5, c6, c7⟩ := (h.1 W hW).1
    obtain ⟨d1, d2, d3, d4, d5, d6, d7⟩ := H
    rcases h.2.1 r W hr hW (fun q => hn q.symm) with p | p | p
    · rcases p.1 with p | p <;> omega
    · exact p.2.2.1 hu
    · have := p.2.1
      omega
  have hg : ∀ W, fOn (g W) = 1 → W ≠ r → gk g r f kd W = g W := fun W hW hn => gk_n hn (off W hW hn)
  have on : ∀ W, fOn (gk g r f kd W) = 1 → W = r ∨ (W ≠ r ∧ fOn (kd W) = 1 ∧ gk g r f kd W = kd W) ∨ (W ≠ r ∧ fOn (g W) = 1 ∧ gk g r f kd W = g W) := fun W q => by
    by_cases e : W = r
    · exact Or.inl e
    · by_cases k : fOn (kd W) = 1
      · exact Or.inr (Or.inl ⟨e, k, gk_k e k⟩)
      · rw [gk_n e k] at q
        exact Or.inr (Or.inr ⟨e, q, gk_n e k⟩)
  have gl : ∀ W, fOn (g W) = 1 → fOn (gk g r f kd W) = 1 ∧ fLo (gk g r f kd W) = fLo (g W) ∧ fHi (gk g r f kd W) = fHi (g W) ∧ fPa (gk g r f kd W) = fPa (g W) := fun W hW => by
    by_cases e : W = r
    · subst e
      rw [gk_r]
      exact ⟨e1.1, e1.2.1, e1.2.2.1, e1.2.2.2⟩
    · rw [hg W hW e]
      exact ⟨hW, rfl, rfl, rfl⟩
  have hS := fun W (hW : fOn (g W) = 1) (hn : W ≠ r) => Sam_c h hr hW hn hu hc
  have hp := fun W (hW : fOn (g W) = 1) (hn : W ≠ r) => Sam_p (hS W hW hn).1 (h.1 W hW).2.2.1
  -- the frame that runs, and another
  have hP : ∀ W, fOn (g W) = 1 → W ≠ r → Prs m_q r f W (g W) := fun W hW hn => Prs_o (f0 := g r) e1.2.1 e1.2.2.1 hu (hp W hW hn) (fun k x u q => Or.inl (hc1 k x u q).1) (h.2.1 r W hr hW (fun q => hn q.symm)) (h.1 W hW).1.2.2.2.1
  -- a new one and another
  have hPk : ∀ W V, fOn (kd W) = 1 → fOn (g V) = 1 → V ≠ r → Prs m_q W (kd W) V (g V) := fun W V k hV hn => by
    obtain ⟨⟨a1, a2⟩, a3, a4⟩ := hK W k
    obtain ⟨b1, b2, b3, b4, b5, b6, b7⟩ := a3.1
    obtain ⟨d1, d2, d3, d4, d5, d6, d7⟩ := H
    rcases hP V hV hn with p | p | p
    · obtain ⟨p1, p2, p3, p4⟩ := p
      rw [e1.2.1, e1.2.2.1] at p1
      refine Or.inl ⟨by rcases p1 with p1 | p1 <;> omega, fun t x u q => ?_, fun t x u q => ?_, fun x u u_q q q_q => ?_⟩
      · rcases hck W k t x u q with ⟨v, _, b⟩ | b
        · exact p2 t x v b
        · rcases p1 with p1 | p1 <;> omega
      · have := p3 t x u q
        rw [e1.2.1, e1.2.2.1] at this
        omega
      · rcases hck W k 2 x u q with ⟨v, v1, b⟩ | b
        · exact NC_w v1 (p4 x v u_q b q_q)
        · have := p3 2 x u_q q_q
          rw [e1.2.1, e1.2.2.1] at this
          omega
    · -- V below r: none is
      have p2 := p.2.1
      have p1 := p.1
      rw [e1.2.1] at p1
      have := h.2.1 r V hr hV (fun q => hn q.symm)
      obtain ⟨c1, c2, c3, c4, c5, c6, c7⟩ := (h.1 V hV).1
      rcases this with t | t | t
      · rcases t.1 with t | t <;> omega
      · exact absurd hu t.2.2.1
      · have := t.2.1
        omega
    · obtain ⟨p1, p2, p3, p4⟩ := p
      rw [e1.2.1] at p1
      rw [e1.2.2.1] at p2
      refine Or.inr (Or.inr ⟨by omega, by omega, p3, fun t x u q => ?_⟩)
      have := p4 t x u q
      rw [e1.2.1, e1.2.2.1] at this
      omega
  have hPr : ∀ W, fOn (kd W) = 1 → Prs m_q r f W (kd W) := fun W k => by
    obtain ⟨⟨a1, a2⟩, a3, a4⟩ := hK W k
    refine Or.inr (Or.inl ⟨by rw [e1.2.1]; exact a1, a2, su1, fun t x u q => ?_⟩)
    have := (hc1 t x u q).2
    omega
  refine ⟨fun W hW => ?_, fun W W_q hW hW' hn => ?_, hC⟩
  · rcases on W hW with e | ⟨e, k, q⟩ | ⟨e, k, q⟩
    · subst e
      rw [gk_r]
      exact hL
    · rw [q]
      exact (hK W k).2.1
    · rw [q]
      obtain ⟨a1, a2, a3, a4, a5, a6⟩ := h.1 W k
      have s := (hS W k e).1
      refine ⟨a1, Tok_m s a1 a2, Cok_m s a3, Wok_m s a1 a2 a3 a4, ?_, ?_⟩
      · obtain ⟨b1, b2, b3⟩ := a5
        refine ⟨fun w => ?_, fun w => ?_, b3⟩
        · obtain ⟨c1, c2, c3, c4, c5⟩ := b1 w
          have hV : W + cZ (fCx (g W)) + 7 ≠ r := fun q => by
            rw [q] at c2
            omega
          rw [hg _ c1 hV]
          refine ⟨c1, c2, c3, c4, ?_⟩
          rw [← c5]
          obtain ⟨d1, d2, d3, d4, d5, d6, d7, d8⟩ := a1
          have hk := d7 w
          exact (s.1 _ (by omega) (by omega)).2 (a2.2.2.2.2.1 w).2.2.2
        · obtain ⟨c1, V, c2, c3, c4, c5, c6⟩ := b2 w
          have hV : V ≠ r := fun q => by
            rw [q] at c3
            omega
          refine ⟨c1, V, ?_⟩
          rw [hg _ c2 hV]
          exact ⟨c2, c3, c4, c5, c6⟩
      · intro w
        obtain ⟨b1, b2, b3, b4⟩ := a6 w
        have tk := a2.2.2.2.2.2 w
        obtain ⟨d1, d2, d3, d4, d5, d6, d7, d8⟩ := a1
        refine ⟨fun y hy => ?_, b2, ?_, fun V v1 v2 v3 => ?_⟩
        · obtain ⟨c1, c2, c3, c4⟩ := b1 y hy
          have hV : W - y.1 ≠ r := fun q => hx (q ▸ c2)
          rw [hg _ c1 hV]
          exact ⟨c1, c2, c3, c4⟩
        · rw [cnt_c (g := g) (fun V => ?_) 4016, (hS W k e).2 w]
          · exact b3
          · constructor
            · intro ⟨c1, c2⟩
              rcases on V c1 with e_q | ⟨e_q, k_q, q_q⟩ | ⟨e_q, k_q, q_q⟩
              · subst e_q
                rw [gk_r] at c2
                exact ⟨hr, by rw [← e1.2.2.2]; exact c2⟩
              · rw [q_q] at c2
                exfalso
                rcases (hK V k_q).2.2 with z | ⟨z1, z2⟩
                · omega
                · have tf := hL.2.1.2.2.2.2.2 z1
                  have hh := hL.1.2.2.1
                  exact Own_n hL.1 (h.1 W k).1 (hP W k e) (x := fAw f) (by omega) (by omega) (by omega) (by omega)
              · rw [q_q] at c2
                exact ⟨k_q, c2⟩
            · intro ⟨c1, c2⟩
              have := gl V c1
              exact ⟨this.1, this.2.2.2.trans c2⟩
        · have key : ∀ X, fOn (g X) = 1 → fLo (g W) ≤ fLo (g X) → fHi (g X) ≤ W - 3 → fLo (g X) ≤ fLo (gk g r f kd V) → fHi (gk g r f kd V) ≤ fHi (g X) → ∃ U, fOn (gk g r f kd U) = 1 ∧ fPa (gk g r f kd U) = fAw (g W) ∧ fLo (gk g r f kd U) ≤ fLo (gk g r f kd V) ∧ fHi (gk g r f kd V) ≤ fHi (gk g r f kd U) := fun X x1 x2 x3 x4 x5 => by
            obtain ⟨U, u1, u2, u3, u4⟩ := b4 X x1 x2 x3
            have lu := gl U u1
            exact ⟨U, lu.1, lu.2.2.2.trans u2, by rw [lu.2.1]; omega, by rw [lu.2.2.1]; omega⟩
          rcases on V v1 with e_q | ⟨e_q, k_q, q_q⟩ | ⟨e_q, k_q, q_q⟩
          · subst e_q
            have lv := gl V hr
            rw [lv.2.1] at v2
            rw [lv.2.2.1] at v3
            exact key V hr v2 v3 (by rw [lv.2.1]; omega) (by rw [lv.2.2.1]; omega)
          · rw [q_q] at v2 v3 key
            rw [q_q]
            obtain ⟨⟨y1, y2⟩, y3, y4⟩ := hK V k_q
            obtain ⟨c1, c2, c3, c4, c5, c6, c7⟩ := y3.1
            obtain ⟨z1, z2, z3, z4, z5, z6, z7⟩ := H
            rcases h.2.1 W r k hr e with p | p | p
            · rcases p.1 with p | p <;> omega
            · exact key r hr p.1 p.2.1 (by omega) (by omega)
            · exact absurd hu p.2.2.1
          · rw [q_q] at v2 v3 key
            rw [q_q]
            exact key V k_q v2 v3 (by omega) (by omega)
  · rcases on W hW with e | ⟨e, k, q⟩ | ⟨e, k, q⟩ <;> rcases on W_q hW' with e_q | ⟨e_q, k_q, q_q⟩ | ⟨e_q, k_q, q_q⟩
    · exact absurd (e.trans e_q.symm) hn
    · subst e
      rw [gk_r, q_q]
      exact hPr W_q k_q
    · subst e
      rw [gk_r, q_q]
      exact hP W_q k_q e_q
    · subst e_q
      rw [gk_r, q]
      exact Prs_s (hPr W k)
    · rw [q, q_q]
      exact hKK W W_q k k_q hn
    · rw [q, q_q]
      exact hPk W W_q k k_q e_q
    · subst e_q
      rw [gk_r, q]
      exact Prs_s (hP W k e)
    · rw [q, q_q]
      exact Prs_s (hPk W_q W k_q k e)
    · rw [q, q_q]
      exact Prs_m (hp W k e) (hp W_q k_q e_q) (h.2.1 W W_q k k_q hn)
