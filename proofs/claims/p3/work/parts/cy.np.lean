/-! THE CLASS'S SIDE: trees while they are made -/
def NP (m : Nat) (tg : Int → Int) (F : Int → Int → Int) : Prop := NT m tg F ∧ PSx m tg F
def WK (F : Int → Int → Int) (p K : Int) : Prop := F p 103 = 0 ∧ F p 101 = 0 ∧ F p 8 = 0 ∧ (∀ q, q = 4 ∨ q = 5 ∨ q = 6 ∨ q = 7 → F p q ≠ 0 → F (F p q) 103 = 1 ∧ 1 ≤ F (F p q) 100 ∧ F (F p q) 100 < K) ∧ (F p 0 = 5 → F p 3 ≠ 0 → F p 4 ≠ 0 → F (F p 4) 101 = F (F p 3) 13 ∧ F (F p 3) 13 ≠ 0)
def R8 (q : Int) : Prop := q = 0 ∨ q = 3 ∨ q = 4 ∨ q = 5 ∨ q = 6 ∨ q = 7 ∨ q = 8 ∨ q = 100 ∨ q = 101
section
variable {m m_q : Nat} {tg ln tg_q ln_q : Int → Int} {F F_q : Int → Int → Int} {a b p l c j z K K' n : Int} {L : List (Int × Int)} {k : Nat}
theorem NT1_c (hC : HC 0 m tg ln F) (o : own m b) (t : tg b = 8) (w : NT1 m tg F b) (ex : Ex m tg ln m_q tg_q ln_q) (e8 : ∀ q, R8 q → F_q b q = F b q) (ec : ∀ x, own m x → tg x = 8 → F x 103 = 1 → F_q x 103 = 1 ∧ F_q x 100 = F x 100 ∧ F_q x 101 = F x 101) (en13 : F b 3 ≠ 0 → F (F b 3) 13 ≠ 0 → F_q (F b 3) 13 = F (F b 3) 13) (en0 : F b 101 ≠ 0 → F_q (F b 101) 0 = F (F b 101) 0) (en14 : F b 101 ≠ 0 → F b 8 ≠ 0 → F (F b 101) 14 ≠ 0 → F_q (F b 101) 14 = F (F b 101) 14) : NT1 m_q tg_q F_q b := by
  obtain ⟨w1, w2, w3, w4⟩ := w
  refine ⟨fun q hq hn => ?_, fun hn => ?_, fun hk h3 h4 => ?_, fun h1 => ?_⟩
  · have eq := e8 q (by unfold R8; omega)
    rw [eq] at hn
    have z := (HC_nd hC o t (show q = 4 ∨ q = 5 ∨ q = 6 ∨ q = 7 ∨ q = 8 by omega)).resolve_left hn
    have v := w1 q hq hn
    have y := ec _ z.1 z.2 v.1
    rw [eq, y.1, y.2.1, e8 100 (by unfold R8; omega)]
    exact ⟨rfl, v.2⟩
  · have eq := e8 8 (by unfold R8; omega)
    rw [eq] at hn
    have z := (HC_nd (q := 8) hC o t (by omega)).resolve_left hn
    have v := w2 hn
    have y := ec _ z.1 z.2 v.1
    rw [eq, y.1, y.2.1, e8 100 (by unfold R8; omega)]
    exact ⟨rfl, v.2⟩
  · have e0 := e8 0 (by unfold R8; omega)
    have e3 := e8 3 (by unfold R8; omega)
    have e4 := e8 4 (by unfold R8; omega)
    rw [e0] at hk
    rw [e3] at h3
    rw [e4] at h4
    have z := (HC_nd (q := 4) hC o t (by omega)).resolve_left h4
    have v := w3 hk h3 h4
    have y := ec _ z.1 z.2 (w1 4 (by omega) h4).1
    rw [e3, e4, y.2.2, en13 h3 v.2]
    exact v
  · have e1 := e8 101 (by unfold R8; omega)
    have e3 := e8 3 (by unfold R8; omega)
    have e9 := e8 8 (by unfold R8; omega)
    rw [e1] at h1
    obtain ⟨v1, v2, v3, v4⟩ := w4 h1
    rw [e1]
    refine ⟨own_m v1 ex.1, (ex.2 _ v1).1.trans v2, fun hk => ?_, fun hn => ?_⟩
    · rw [en0 h1] at hk
      rw [e3]
      exact v3 hk
    · rw [e9] at hn
      have z := (HC_nd (q := 8) hC o t (by omega)).resolve_left hn
      have v := v4 hn
      have y := ec _ z.1 z.2 (w2 hn).1
      rw [e9, y.2.2, en14 h1 hn v.2]
      exact v
theorem SN_g (h : SN m tg F b k) (ex : Ex m tg ln m_q tg_q ln_q) (ec : ∀ x, own m x → tg x = 8 → F x 103 = 1 → F_q x 103 = 1 ∧ F_q x 100 = F x 100 ∧ F_q x 101 = F x 101) : SN m_q tg_q F_q b k := by
  rcases h with h | ⟨o, t, s, r1, r2⟩
  · exact Or.inl h
  · have y := ec b o t s
    exact Or.inr ⟨own_m o ex.1, (ex.2 _ o).1.trans t, y.1, by rw [y.2.1]; exact r1, by rw [y.2.1]; exact r2⟩
theorem NP_c (hC : HC 0 m tg ln F) (h : NP m tg F) (ex : Ex m tg ln m_q tg_q ln_q) (h8 : ∀ b, own m b → tg b = 8 → F_q b 103 = 1 → NT1 m_q tg_q F_q b ∨ (F b 103 = 1 ∧ ∀ q, R8 q → F_q b q = F b q)) (ec : ∀ x, own m x → tg x = 8 → F x 103 = 1 → F_q x 103 = 1 ∧ F_q x 100 = F x 100 ∧ F_q x 101 = F x 101) (h7 : ∀ b, own m b → tg b = 7 → F_q b 0 = F b 0 ∧ (F b 13 ≠ 0 → F_q b 13 = F b 13) ∧ (F b 14 ≠ 0 → F_q b 14 = F b 14) ∧ (F_q b 14 = F b 14 ∨ b < F_q b 14) ∧ (F_q b 15 = F b 15 ∨ F_q b 15 = 0 ∨ F_q b 15 < b) ∧ (F_q b 12 = F b 12 ∨ SN m_q tg_q F_q (F_q b 12) 60)) (hR : ∀ b, own m b → tg b = 24 → F_q b (-1) = F b (-1) ∧ ∀ j, 0 ≤ j → F_q b j = F b j ∨ (SN m_q tg_q F_q (F_q b j) 60 ∧ F b (-1) = 0)) (h3 : ∀ x, own m x → tg x = 8 → F x 3 ≠ 0 → F_q x 3 ≠ 0) (hw : ∀ b, own m_q b → ¬ own m b → (tg_q b = 8 → F_q b 103 = 0) ∧ (tg_q b = 7 → F_q b 12 = 0 ∧ F_q b 14 = 0 ∧ F_q b 15 = 0) ∧ (tg_q b = 24 → ∀ j, 0 ≤ j → F_q b j = 0)) : NP m_q tg_q F_q := by
  have tt : ∀ b, own m b → tg_q b = tg b := fun b o => (ex.2 b o).1
  refine ⟨⟨fun b o t s => ?_, fun b o t => ?_⟩, ⟨fun b o t s j j0 => ?_, fun b o t => ?_⟩, fun b o t s j j0 hx => ?_⟩
  · by_cases ob : own m b
    · have t8 : tg b = 8 := (tt b ob).symm.trans t
      rcases h8 b ob t8 s with w | ⟨s1, e8⟩
      · exact w
      · have w := h.1.1 b ob t8 s1
        have y3 : F b 3 = 0 ∨ (own m (F b 3) ∧ tg (F b 3) = 7) := HC_r (c := 7) (q := 3) hC ob t8 (by decide) rfl
        exact NT1_c hC ob t8 w ex e8 ec (fun n3 n13 => (h7 _ (y3.resolve_left n3).1 (y3.resolve_left n3).2).2.1 n13) (fun n1 => (h7 _ (w.2.2.2 n1).1 (w.2.2.2 n1).2.1).1) (fun n1 _ n14 => (h7 _ (w.2.2.2 n1).1 (w.2.2.2 n1).2.1).2.2.1 n14)
    · rw [(hw b o ob).1 t] at s
      exact absurd s (by decide)
  · by_cases ob : own m b
    · have t7 : tg b = 7 := (tt b ob).symm.trans t
      obtain ⟨_, _, _, q4, q5, _⟩ := h7 b ob t7
      have z := h.1.2 b ob t7
      refine ⟨fun n => ?_, fun n => ?_⟩
      · rcases q4 with e | e
        · rw [e] at n ⊢
          exact z.1 n
        · exact e
      · rcases q5 with e | e | e
        · rw [e] at n ⊢
          exact z.2 n
        · exact absurd e n
        · exact e
    · have z := (hw b o ob).2.1 t
      exact ⟨fun n => absurd z.2.1 n, fun n => absurd z.2.2 n⟩
  · by_cases ob : own m b
    · have t4 : tg b = 24 := (tt b ob).symm.trans t
      obtain ⟨r1, r2⟩ := hR b ob t4
      rw [r1] at s
      rcases r2 j j0 with e | e
      · rw [e]
        exact SN_g (h.2.1.1 b ob t4 s j j0) ex ec
      · exact e.1
    · rw [(hw b o ob).2.2 t j j0]
      exact Or.inl rfl
  · by_cases ob : own m b
    · have t7 : tg b = 7 := (tt b ob).symm.trans t
      rcases (h7 b ob t7).2.2.2.2.2 with e | e
      · rw [e]
        exact SN_g (h.2.1.2 b ob t7) ex ec
      · exact e
    · rw [((hw b o ob).2.1 t).1]
      exact Or.inl rfl
  · by_cases ob : own m b
    · have t4 : tg b = 24 := (tt b ob).symm.trans t
      obtain ⟨r1, r2⟩ := hR b ob t4
      rw [r1] at s
      rcases r2 j j0 with e | e
      · rw [e] at hx ⊢
        have v := h.2.2 b ob t4 s j j0 hx
        exact ⟨own_m v.1 ex.1, (tt _ v.1).trans v.2.1, h3 _ v.1 v.2.1 v.2.2⟩
      · rw [e.2] at s
        exact absurd s (by decide)
    · exact absurd ((hw b o ob).2.2 t j j0) hx
theorem ne_t {s t : Int} (h1 : tg b = s) (h2 : tg a = t) (h : s ≠ t) : b ≠ a := fun e => h (by rw [← h1, ← h2, e])
/-- a store into a node that is not sealed -/
theorem NP_un (hC : HC 0 m tg ln F) (h : NP m tg F) (_ : own m a) (t : tg a = 8) (s : F a 103 = 0) (hj : j ≠ 103) (hz : j ≠ 3 ∨ z ≠ 0) : NP m tg (uF F a j z) := by
  have ns : ∀ x, F x 103 = 1 → x ≠ a := fun x hx e => by rw [e, s] at hx; exact absurd hx (by decide)
  refine NP_c hC h Ex_r (fun b ob tb sb => Or.inr ?_) (fun x ox tx sx => ?_) (fun b ob tb => ?_) (fun b ob tb => ?_) (fun x _ _ hx => ?_) (fun b o ob => absurd o ob)
  · rw [uF_j (fun e => hj e.symm)] at sb
    exact ⟨sb, fun q _ => uF_a (ns b sb)⟩
  · exact ⟨(uF_a (ns x sx)).trans sx, uF_a (ns x sx), uF_a (ns x sx)⟩
  · have n := ne_t tb t (by decide)
    exact ⟨uF_a n, fun _ => uF_a n, fun _ => uF_a n, Or.inl (uF_a n), Or.inl (uF_a n), Or.inl (uF_a n)⟩
  · have n := ne_t tb t (by decide)
    exact ⟨uF_a n, fun j _ => Or.inl (uF_a n)⟩
  · by_cases e : x = a ∧ 3 = j
    · rw [show uF F a j z x 3 = z from if_pos e]
      exact hz.resolve_left (fun w => w e.2.symm)
    · rw [show uF F a j z x 3 = F x 3 from if_neg e]
      exact hx
/-- a store that trees do not hang on -/
theorem NP_u {t : Int} (hC : HC 0 m tg ln F) (h : NP m tg F) (ht : tg a = t) (hn : t ≠ 8 ∧ t ≠ 24 ∧ (t ≠ 7 ∨ (j ≠ 0 ∧ j ≠ 12 ∧ j ≠ 13 ∧ j ≠ 14 ∧ j ≠ 15))) : NP m tg (uF F a j z) := by
  obtain ⟨n8, n24, n7⟩ := hn
  refine NP_c hC h Ex_r (fun b ob tb sb => Or.inr ?_) (fun x ox tx sx => ?_) (fun b ob tb => ?_) (fun b ob tb => ?_) (fun x _ tx hx => by rw [uF_a (ne_t tx ht (fun e => n8 e.symm))]; exact hx) (fun b o ob => absurd o ob)
  · have n := ne_t tb ht (fun e => n8 e.symm)
    rw [uF_a n] at sb
    exact ⟨sb, fun q _ => uF_a n⟩
  · have n := ne_t tx ht (fun e => n8 e.symm)
    exact ⟨(uF_a n).trans sx, uF_a n, uF_a n⟩
  · rcases n7 with n7 | ⟨n0, n12, n13, n14, n15⟩
    · have n := ne_t tb ht (fun e => n7 e.symm)
      exact ⟨uF_a n, fun _ => uF_a n, fun _ => uF_a n, Or.inl (uF_a n), Or.inl (uF_a n), Or.inl (uF_a n)⟩
    · exact ⟨uF_j n0.symm, fun _ => uF_j n13.symm, fun _ => uF_j n14.symm, Or.inl (uF_j n14.symm), Or.inl (uF_j n15.symm), Or.inl (uF_j n12.symm)⟩
  · have n := ne_t tb ht (fun e => n24 e.symm)
    exact ⟨uF_a n, fun j _ => Or.inl (uF_a n)⟩
theorem NP_q (hC : HC 0 m tg ln F) (h : NP m tg F) (g : Fq 0 L m tg F F_q) (h1 : NTd L = true) (h2 : PSd L = true) : NP m tg F_q := ⟨NT_q hC h.1 g h1, PSx_q h.2 g h2⟩
/-- sealing -/
theorem NP_sl (hC : HC 0 m tg ln F) (h : NP m tg F) (o : own m a) (t : tg a = 8) (s : F a 103 = 0) (w : NT1 m tg F a) : NP m tg (uF F a 103 1) := by
  have ns : ∀ x, F x 103 = 1 → x ≠ a := fun x hx e => by rw [e, s] at hx; exact absurd hx (by decide)
  have ec : ∀ x, own m x → tg x = 8 → F x 103 = 1 → uF F a 103 1 x 103 = 1 ∧ uF F a 103 1 x 100 = F x 100 ∧ uF F a 103 1 x 101 = F x 101 := fun x _ _ sx => ⟨(uF_a (ns x sx)).trans sx, uF_a (ns x sx), uF_a (ns x sx)⟩
  refine NP_c hC h Ex_r (fun b ob tb sb => ?_) ec (fun b ob tb => ?_) (fun b ob tb => ?_) (fun x _ _ hx => by rw [uF_j (by decide)]; exact hx) (fun b o ob => absurd o ob)
  · by_cases e : b = a
    · subst e
      refine Or.inl (NT1_c hC o t w Ex_r (fun q hq => uF_j (by unfold R8 at hq; omega)) ec (fun _ _ => uF_j (by decide)) (fun _ => uF_j (by decide)) (fun _ _ _ => uF_j (by decide)))
    · rw [uF_a e] at sb
      exact Or.inr ⟨sb, fun q _ => uF_a e⟩
  · have n := ne_t tb t (by decide)
    exact ⟨uF_a n, fun _ => uF_a n, fun _ => uF_a n, Or.inl (uF_a n), Or.inl (uF_a n), Or.inl (uF_a n)⟩
  · have n := ne_t tb t (by decide)
    exact ⟨uF_a n, fun j _ => Or.inl (uF_a n)⟩
theorem NP_seal (hC : HC 0 m tg ln F) (h : NP m tg F) (o : own m a) (t : tg a = 8) (w : WK F a K') (hK : K' ≤ K) : NP m tg (uF (uF F a 100 K) a 103 1) := by
  obtain ⟨s, w1, w8, wc, wk⟩ := w
  have ns : ∀ x, F x 103 = 1 → x ≠ a := fun x hx e => by rw [e, s] at hx; exact absurd hx (by decide)
  refine NP_sl (HC_gh hC (by rw [t]; decide) (by decide)) (NP_un hC h o t s (by decide) (Or.inl (by decide))) o t (by rw [uF_j (by decide)]; exact s) ⟨fun q hq hn => ?_, fun hn => ?_, fun h0 h3 h4 => ?_, fun h1 => ?_⟩
  · have eq : uF F a 100 K a q = F a q := uF_j (by omega)
    rw [eq] at hn
    have v := wc q hq hn
    rw [eq, uF_j (show (103 : Int) ≠ 100 by decide), uF_a (ns _ v.1), uF_e]
    exact ⟨v.1, v.2.1, by omega⟩
  · rw [uF_j (by decide)] at hn
    exact absurd w8 hn
  · rw [uF_j (by decide)] at h0 h3 h4
    rw [uF_j (show (101 : Int) ≠ 100 by decide), uF_j (show (4 : Int) ≠ 100 by decide), uF_j (show (13 : Int) ≠ 100 by decide), uF_j (show (3 : Int) ≠ 100 by decide)]
    exact wk h0 h3 h4
  · rw [uF_j (by decide)] at h1
    exact absurd w1 h1
theorem NP_seala (hC : HC 0 m tg ln F) (h : NP m tg F) (o : own m a) (t : tg a = 8) (w : WK F a K') (hK : K' ≤ K) (op : own m p) (tp : tg p = 7) (hp : F p 0 ≠ 1 → F a 3 ≠ 0) : NP m tg (uF (uF (uF F a 101 p) a 100 K) a 103 1) := by
  obtain ⟨s, w1, w8, wc, wk⟩ := w
  have ns : ∀ x, F x 103 = 1 → x ≠ a := fun x hx e => by rw [e, s] at hx; exact absurd hx (by decide)
  have np := ne_t tp t (by decide)
  have t20 : tg a < 20 := by rw [t]; decide
  have e : ∀ x q, q ≠ 100 → q ≠ 101 → uF (uF F a 101 p) a 100 K x q = F x q := fun x q h1 h2 => by rw [uF_j h1, uF_j h2]
  have e2 : ∀ x q, x ≠ a → uF (uF F a 101 p) a 100 K x q = F x q := fun x q h1 => by rw [uF_a h1, uF_a h1]
  have e101 : uF (uF F a 101 p) a 100 K a 101 = p := by rw [uF_j (by decide), uF_e]
  refine NP_sl (HC_gh (HC_gh hC t20 (by decide)) t20 (by decide)) (NP_un (HC_gh hC t20 (by decide)) (NP_un hC h o t s (by decide) (Or.inl (by decide))) o t (by rw [uF_j (by decide)]; exact s) (by decide) (Or.inl (by decide))) o t (by rw [e _ _ (by decide) (by decide)]; exact s) ⟨fun q hq hn => ?_, fun hn => ?_, fun h0 h3 h4 => ?_, fun h1 => ?_⟩
  · have eq := e a q (by omega) (by omega)
    rw [eq] at hn
    have v := wc q hq hn
    rw [eq, e2 _ 103 (ns _ v.1), e2 _ 100 (ns _ v.1), uF_e]
    exact ⟨v.1, v.2.1, by omega⟩
  · rw [e _ _ (by decide) (by decide)] at hn
    exact absurd w8 hn
  · rw [e _ _ (by decide) (by decide)] at h0 h3 h4
    rw [e a 4 (by decide) (by decide), e a 3 (by decide) (by decide), e2 _ 101 (ns _ (wc 4 (by omega) h4).1), e _ 13 (by decide) (by decide)]
    exact wk h0 h3 h4
  · rw [e101]
    refine ⟨op, tp, fun hk => ?_, fun hn => ?_⟩
    · rw [e _ _ (by decide) (by decide)] at hk
      rw [e _ _ (by decide) (by decide)]
      exact hp hk
    · rw [e _ _ (by decide) (by decide)] at hn
      exact absurd w8 hn
/-- the next one of a row -/
theorem NP_nx (hC : HC 0 m tg ln F) (h : NP m tg F) (o : own m l) (t : tg l = 8) (s : F l 103 = 1) (sc : F c 103 = 1) (hlc : l < c) (hr : F c 100 = F l 100) (ha : F l 101 ≠ 0 → F c 101 = F (F l 101) 14 ∧ F (F l 101) 14 ≠ 0) : NP m tg (uF F l 8 c) := by
  have ej : ∀ b q, q ≠ 8 → uF F l 8 c b q = F b q := fun b q n => uF_j n
  refine NP_c hC h Ex_r (fun b ob tb sb => ?_) (fun x ox tx sx => ?_) (fun b ob tb => ?_) (fun b ob tb => ?_) (fun x _ _ hx => by rw [ej _ _ (by decide)]; exact hx) (fun b o ob => absurd o ob)
  · by_cases e : b = l
    · subst e
      refine Or.inl ?_
      obtain ⟨w1, w2, w3, w4⟩ := h.1.1 b o t s
      refine ⟨fun q hq hn => ?_, fun hn => ?_, fun h0 h3 h4 => ?_, fun h1 => ?_⟩
      · rw [ej _ q (by omega)] at hn ⊢
        rw [ej _ 103 (by decide), ej _ 100 (by decide), ej _ 100 (by decide)]
        exact w1 q hq hn
      · rw [uF_e, ej _ 103 (by decide), ej _ 100 (by decide), ej _ 100 (by decide)]
        exact ⟨sc, hlc, hr⟩
      · rw [ej _ 0 (by decide)] at h0
        rw [ej _ 3 (by decide)] at h3 ⊢
        rw [ej _ 4 (by decide)] at h4 ⊢
        rw [ej _ 101 (by decide), ej _ 13 (by decide)]
        exact w3 h0 h3 h4
      · rw [ej _ 101 (by decide)] at h1 ⊢
        obtain ⟨v1, v2, v3, v4⟩ := w4 h1
        refine ⟨v1, v2, fun hk => ?_, fun hn => ?_⟩
        · rw [ej _ 0 (by decide)] at hk
          rw [ej _ 3 (by decide)]
          exact v3 hk
        · rw [uF_e, ej _ 101 (by decide), ej _ 14 (by decide)]
          exact ha h1
    · rw [uF_a e] at sb
      exact Or.inr ⟨sb, fun q _ => uF_a e⟩
  · exact ⟨(ej _ _ (by decide)).trans sx, ej _ _ (by decide), ej _ _ (by decide)⟩
  · exact ⟨ej _ _ (by decide), fun _ => ej _ _ (by decide), fun _ => ej _ _ (by decide), Or.inl (ej _ _ (by decide)), Or.inl (ej _ _ (by decide)), Or.inl (ej _ _ (by decide))⟩
  · have n := ne_t tb t (by decide)
    exact ⟨uF_a n, fun j _ => Or.inl (uF_a n)⟩
theorem NP_nm (hC : HC 0 m tg ln F) (h : NP m tg F) (t : tg a = 7) (hj : (j = 14 ∧ F a 14 = 0 ∧ a < z) ∨ (j = 15 ∧ (z = 0 ∨ z < a)) ∨ (j = 13 ∧ F a 13 = 0) ∨ (j = 12 ∧ SN m tg F z 60)) : NP m tg (uF F a j z) := by
  have n8 : ∀ q, R8 q ∨ q = 103 → q ≠ j := fun q hq => by unfold R8 at hq; omega
  have e8 : ∀ b q, R8 q ∨ q = 103 → uF F a j z b q = F b q := fun b q hq => uF_j (n8 q hq)
  have ec : ∀ x, own m x → tg x = 8 → F x 103 = 1 → uF F a j z x 103 = 1 ∧ uF F a j z x 100 = F x 100 ∧ uF F a j z x 101 = F x 101 := fun x _ _ sx => ⟨(e8 _ _ (Or.inr rfl)).trans sx, e8 _ _ (Or.inl (by unfold R8; omega)), e8 _ _ (Or.inl (by unfold R8; omega))⟩
  refine NP_c hC h Ex_r (fun b ob tb sb => Or.inr ?_) ec (fun b ob tb => ?_) (fun b ob tb => ?_) (fun x _ _ hx => by rw [e8 _ _ (Or.inl (by unfold R8; omega))]; exact hx) (fun b o ob => absurd o ob)
  · rw [e8 _ _ (Or.inr rfl)] at sb
    exact ⟨sb, fun q hq => e8 _ _ (Or.inl hq)⟩
  · by_cases e : b = a
    · subst e
      rcases hj with ⟨rfl, h1, h2⟩ | ⟨rfl, h1⟩ | ⟨rfl, h1⟩ | ⟨rfl, h1⟩
      · exact ⟨uF_j (by decide), fun _ => uF_j (by decide), fun n => absurd h1 n, Or.inr (by rw [uF_e]; exact h2), Or.inl (uF_j (by decide)), Or.inl (uF_j (by decide))⟩
      · exact ⟨uF_j (by decide), fun _ => uF_j (by decide), fun _ => uF_j (by decide), Or.inl (uF_j (by decide)), Or.inr (by rw [uF_e]; exact h1), Or.inl (uF_j (by decide))⟩
      · exact ⟨uF_j (by decide), fun n => absurd h1 n, fun _ => uF_j (by decide), Or.inl (uF_j (by decide)), Or.inl (uF_j (by decide)), Or.inl (uF_j (by decide))⟩
      · exact ⟨uF_j (by decide), fun _ => uF_j (by decide), fun _ => uF_j (by decide), Or.inl (uF_j (by decide)), Or.inl (uF_j (by decide)), Or.inr (by rw [uF_e]; exact SN_g h1 (Ex_r (ln := ln)) ec)⟩
    · exact ⟨uF_a e, fun _ => uF_a e, fun _ => uF_a e, Or.inl (uF_a e), Or.inl (uF_a e), Or.inl (uF_a e)⟩
  · have n := ne_t tb t (by decide)
    exact ⟨uF_a n, fun j _ => Or.inl (uF_a n)⟩
theorem NP_rt (hC : HC 0 m tg ln F) (h : NP m tg F) (t : tg a = 24) (hs : F a (-1) = 0) (hj : 0 ≤ j) (hz : SN m tg F z 60) : NP m tg (uF F a j z) := by
  have ec : ∀ x, own m x → tg x = 8 → F x 103 = 1 → uF F a j z x 103 = 1 ∧ uF F a j z x 100 = F x 100 ∧ uF F a j z x 101 = F x 101 := fun x _ tx sx => by
    have n := ne_t tx t (by decide)
    exact ⟨(uF_a n).trans sx, uF_a n, uF_a n⟩
  refine NP_c hC h Ex_r (fun b ob tb sb => Or.inr ?_) ec (fun b ob tb => ?_) (fun b ob tb => ⟨uF_j (by omega), fun i i0 => ?_⟩) (fun x _ tx hx => by rw [uF_a (ne_t tx t (by decide))]; exact hx) (fun b o ob => absurd o ob)
  · have n := ne_t tb t (by decide)
    rw [uF_a n] at sb
    exact ⟨sb, fun q _ => uF_a n⟩
  · have n := ne_t tb t (by decide)
    exact ⟨uF_a n, fun _ => uF_a n, fun _ => uF_a n, Or.inl (uF_a n), Or.inl (uF_a n), Or.inl (uF_a n)⟩
  · by_cases e : b = a ∧ i = j
    · obtain ⟨rfl, rfl⟩ := e
      rw [uF_e]
      exact Or.inr ⟨SN_g hz (Ex_r (ln := ln)) ec, hs⟩
    · exact Or.inl (if_neg e)
/-- a new cell -/
theorem NP_nn (hC : HC 0 m tg ln F) (h : NP m tg F) (ex : Ex m tg ln m_q tg_q ln_q) (en : n = 64 + (m : Int)) (em : m_q = m + 1) (hf : ∀ b i, own m b → F_q b i = F b i) (h8 : tg_q n = 8 → F_q n 103 = 0) (h7 : tg_q n = 7 → F_q n 12 = 0 ∧ F_q n 14 = 0 ∧ F_q n 15 = 0) (h24 : tg_q n = 24 → ∀ j, 0 ≤ j → F_q n j = 0) : NP m_q tg_q F_q := by
  refine NP_c hC h ex (fun b ob tb sb => Or.inr ?_) (fun x ox tx sx => ?_) (fun b ob tb => ?_) (fun b ob tb => ?_) (fun x ox _ hx => by rw [hf _ _ ox]; exact hx) (fun b o ob => ?_)
  · rw [hf _ _ ob] at sb
    exact ⟨sb, fun q _ => hf _ _ ob⟩
  · exact ⟨(hf _ _ ox).trans sx, hf _ _ ox, hf _ _ ox⟩
  · exact ⟨hf _ _ ob, fun _ => hf _ _ ob, fun _ => hf _ _ ob, Or.inl (hf _ _ ob), Or.inl (hf _ _ ob), Or.inl (hf _ _ ob)⟩
  · exact ⟨hf _ _ ob, fun j _ => Or.inl (hf _ _ ob)⟩
  · subst em
    rcases (own_s hC.1).mp o with w | w
    · exact absurd w ob
    · rw [← en] at w
      subst w
      exact ⟨h8, h7, h24⟩
theorem WK_c (w : WK F p K) (e8 : ∀ q, R8 q ∨ q = 103 → F_q p q = F p q) (ec : ∀ q, q = 4 ∨ q = 5 ∨ q = 6 ∨ q = 7 → F p q ≠ 0 → F (F p q) 103 = 1 → F_q (F p q) 103 = 1 ∧ F_q (F p q) 100 = F (F p q) 100 ∧ F_q (F p q) 101 = F (F p q) 101) (e3 : F p 3 ≠ 0 → F_q (F p 3) 13 = F (F p 3) 13) : WK F_q p K := by
  obtain ⟨w1, w2, w3, w4, w5⟩ := w
  have r : ∀ q, R8 q → F_q p q = F p q := fun q hq => e8 q (Or.inl hq)
  refine ⟨(e8 _ (Or.inr rfl)).trans w1, (r _ (by unfold R8; omega)).trans w2, (r _ (by unfold R8; omega)).trans w3, fun q hq hn => ?_, fun h0 h3 h4 => ?_⟩
  · have eq := r q (by unfold R8; omega)
    rw [eq] at hn
    have v := w4 q hq hn
    have y := ec q hq hn v.1
    rw [eq, y.1, y.2.1]
    exact ⟨rfl, v.2⟩
  · have q3 := r 3 (by unfold R8; omega)
    have q4 := r 4 (by unfold R8; omega)
    rw [r 0 (by unfold R8; omega)] at h0
    rw [q3] at h3
    rw [q4] at h4
    have y := ec 4 (by omega) h4 (w4 4 (by omega) h4).1
    rw [q3, q4, y.2.2, e3 h3]
    exact w5 h0 h3 h4
theorem WK_m (w : WK F p K) (h : K ≤ K') : WK F p K' := ⟨w.1, w.2.1, w.2.2.1, fun q hq hn => ⟨(w.2.2.2.1 q hq hn).1, (w.2.2.2.1 q hq hn).2.1, by have := (w.2.2.2.1 q hq hn).2.2; omega⟩, w.2.2.2.2⟩
theorem WK_t (hC : HC 0 m tg ln F) (o : own m p) (t : tg p = 8) (hq : j = 4 ∨ j = 5 ∨ j = 6 ∨ j = 7) (hn : F p j ≠ 0) : own m (F p j) ∧ tg (F p j) = 8 := (HC_nd hC o t (show j = 4 ∨ j = 5 ∨ j = 6 ∨ j = 7 ∨ j = 8 by omega)).resolve_left hn
theorem WK_3 (hC : HC 0 m tg ln F) (o : own m p) (t : tg p = 8) (hn : F p 3 ≠ 0) : own m (F p 3) ∧ tg (F p 3) = 7 := by
  have y : F p 3 = 0 ∨ (own m (F p 3) ∧ tg (F p 3) = 7) := HC_r (c := 7) (q := 3) hC o t (by decide) rfl
  exact y.resolve_left hn
theorem WK_u {s : Int} (w : WK F p K) (hC : HC 0 m tg ln F) (o : own m p) (t : tg p = 8) (ha : tg a = s) (hs : s ≠ 8 ∧ (s ≠ 7 ∨ j ≠ 13)) : WK (uF F a j z) p K := by
  have n8 : ∀ x, tg x = 8 → x ≠ a := fun x hx => ne_t hx ha (fun e => hs.1 e.symm)
  refine WK_c w (fun q _ => uF_a (n8 p t)) (fun q hq hn sx => ?_) (fun hn => ?_)
  · have n := n8 _ (WK_t hC o t hq hn).2
    exact ⟨(uF_a n).trans sx, uF_a n, uF_a n⟩
  · rcases hs.2 with h | h
    · exact uF_a (ne_t (WK_3 hC o t hn).2 ha (fun e => h e.symm))
    · exact uF_j h.symm
theorem WK_un (w : WK F p K) (hC : HC 0 m tg ln F) (o : own m p) (t : tg p = 8) (ha : tg a = 8) (s : F a 103 = 0) (hp : p ≠ a) : WK (uF F a j z) p K := by
  refine WK_c w (fun q _ => uF_a hp) (fun q hq hn sx => ?_) (fun hn => uF_a (ne_t (WK_3 hC o t hn).2 ha (by decide)))
  have n : F p q ≠ a := fun e => by rw [e, s] at sx; exact absurd sx (by decide)
  exact ⟨(uF_a n).trans sx, uF_a n, uF_a n⟩
def WKd (L : List (Int × Int)) : Bool := !inL L 8 0 && !inL L 8 3 && !inL L 8 4 && !inL L 8 5 && !inL L 8 6 && !inL L 8 7 && !inL L 8 8 && !inL L 8 100 && !inL L 8 101 && !inL L 8 103 && !inL L 7 13
theorem WK_q (w : WK F p K) (hC : HC 0 m tg ln F) (o : own m p) (t : tg p = 8) (g : Fq 0 L m tg F F_q) (hd : WKd L = true) : WK F_q p K := by
  unfold WKd at hd
  simp only [Bool.and_eq_true, Bool.not_eq_true'] at hd
  obtain ⟨⟨⟨⟨⟨⟨⟨⟨⟨⟨d0, d3⟩, d4⟩, d5⟩, d6⟩, d7⟩, d8⟩, d100⟩, d101⟩, d103⟩, n13⟩ := hd
  have e8 : ∀ {x : Int} (q : Int), own m x → tg x = 8 → inL L 8 q = false → F_q x q = F x q := fun q o t i => g _ q o (own_z o) (by rw [t]; exact i)
  refine WK_c w (fun q hq => ?_) (fun q hq hn sx => ?_) (fun hn => ?_)
  · unfold R8 at hq
    rcases hq with (rfl | rfl | rfl | rfl | rfl | rfl | rfl | rfl | rfl) | rfl
    · exact e8 _ o t d0
    · exact e8 _ o t d3
    · exact e8 _ o t d4
    · exact e8 _ o t d5
    · exact e8 _ o t d6
    · exact e8 _ o t d7
    · exact e8 _ o t d8
    · exact e8 _ o t d100
    · exact e8 _ o t d101
    · exact e8 _ o t d103
  · have y := WK_t hC o t hq hn
    exact ⟨(e8 _ y.1 y.2 d103).trans sx, e8 _ y.1 y.2 d100, e8 _ y.1 y.2 d101⟩
  · have y := WK_3 hC o t hn
    exact g _ 13 y.1 (own_z y.1) (by rw [y.2]; exact n13)
theorem WK_n (w : WK F p K) (hC : HC 0 m tg ln F) (o : own m p) (t : tg p = 8) (hf : ∀ b i, own m b → F_q b i = F b i) : WK F_q p K := by
  refine WK_c w (fun q _ => hf _ _ o) (fun q hq hn sx => ?_) (fun hn => hf _ _ (WK_3 hC o t hn).1)
  have y := WK_t hC o t hq hn
  exact ⟨(hf _ _ y.1).trans sx, hf _ _ y.1, hf _ _ y.1⟩
theorem WK_i (h1 : F p 103 = 0) (h2 : F p 101 = 0) (h3 : F p 8 = 0) (c4 : F p 4 = 0 ∨ (F (F p 4) 103 = 1 ∧ 1 ≤ F (F p 4) 100 ∧ F (F p 4) 100 < K)) (c5 : F p 5 = 0 ∨ (F (F p 5) 103 = 1 ∧ 1 ≤ F (F p 5) 100 ∧ F (F p 5) 100 < K)) (c6 : F p 6 = 0 ∨ (F (F p 6) 103 = 1 ∧ 1 ≤ F (F p 6) 100 ∧ F (F p 6) 100 < K)) (c7 : F p 7 = 0 ∨ (F (F p 7) 103 = 1 ∧ 1 ≤ F (F p 7) 100 ∧ F (F p 7) 100 < K)) (hk : F p 0 ≠ 5 ∨ F p 4 = 0 ∨ (F (F p 4) 101 = F (F p 3) 13 ∧ F (F p 3) 13 ≠ 0)) : WK F p K := by
  refine ⟨h1, h2, h3, fun q hq hn => ?_, fun h0 _ h4 => ?_⟩
  · rcases hq with rfl | rfl | rfl | rfl
    · exact c4.resolve_left hn
    · exact c5.resolve_left hn
    · exact c6.resolve_left hn
    · exact c7.resolve_left hn
  · exact (hk.resolve_left (fun w => w h0)).resolve_left h4
theorem SN_i (o : own m a) (t : tg a = 8) (s : F a 103 = 1) (h1 : 1 ≤ F a 100) (h2 : F a 100 ≤ (k : Int)) : SN m tg F a k := Or.inr ⟨o, t, s, h1, h2⟩
end
def lz (z : Int) : Int := if z = -1 then 0 else 1
theorem lz_b (z : Int) : 0 ≤ lz z ∧ lz z ≤ 1 := by
  unfold lz
  split <;> exact ⟨by decide, by decide⟩
theorem lz_p {z : Int} (h : z ≠ -1) : lz z = 1 := if_neg h
theorem tz_p {z : Int} (h : z ≠ 0) : tz z = 1 := if_neg h
section
variable {m : Nat} {tg ln : Int → Int} {F F_q : Int → Int → Int} {p j z K x : Int}
theorem WK_o (w : WK F p K) (hj : j ≠ 0 ∧ j ≠ 3 ∧ j ≠ 4 ∧ j ≠ 5 ∧ j ≠ 6 ∧ j ≠ 7 ∧ j ≠ 8 ∧ j ≠ 13 ∧ j ≠ 100 ∧ j ≠ 101 ∧ j ≠ 103) : WK (uF F p j z) p K := by
  refine WK_c w (fun q hq => uF_j (by unfold R8 at hq; omega)) (fun q hq hn sx => ⟨(uF_j (by omega)).trans sx, uF_j (by omega), uF_j (by omega)⟩) (fun _ => uF_j (by omega))
theorem WK_s (w : WK F p K) (hj : j = 4 ∨ j = 5 ∨ j = 6 ∨ j = 7) (s : F z 103 = 1) (r1 : 1 ≤ F z 100) (r2 : F z 100 < K) (hk : F p 0 ≠ 5) : WK (uF F p j z) p K := by
  obtain ⟨w1, w2, w3, w4, w5⟩ := w
  have ej : ∀ b q, q ≠ j → uF F p j z b q = F b q := fun b q n => uF_j n
  refine ⟨(ej _ _ (by omega)).trans w1, (ej _ _ (by omega)).trans w2, (ej _ _ (by omega)).trans w3, fun q hq hn => ?_, fun h0 => ?_⟩
  · rw [ej _ 103 (by omega), ej _ 100 (by omega)]
    by_cases e : q = j
    · subst e
      rw [uF_e]
      exact ⟨s, r1, r2⟩
    · rw [ej _ q e] at hn ⊢
      exact w4 q hq hn
  · rw [ej _ 0 (by omega)] at h0
    exact absurd h0 hk
theorem WK_qx (w : WK F p K) (hC : HC 0 m tg ln F) (o : own m p) (t : tg p = 8) (hf : ∀ b i, own m b → b ≠ x → F_q b i = F b i) (tx : tg x = 8) (s : F x 103 = 0) (hp : p ≠ x) : WK F_q p K := by
  refine WK_c w (fun q _ => hf _ _ o hp) (fun q hq hn sx => ?_) (fun hn => hf _ _ (WK_3 hC o t hn).1 (ne_t (WK_3 hC o t hn).2 tx (by decide)))
  have y := WK_t hC o t hq hn
  have n : F p q ≠ x := fun e => by rw [e, s] at sx; exact absurd sx (by decide)
  exact ⟨(hf _ _ y.1 n).trans sx, hf _ _ y.1 n, hf _ _ y.1 n⟩
end
theorem i32_up {x : Int} (h1 : -2147483648 ≤ x) (h2 : x ≤ 2147483648) : (i32 x).toInt ≤ x := by
  by_cases h : x ≤ 2147483647
  · rw [i32_to h1 h]
    exact Int.le_refl _
  · have e : x = 2147483648 := by omega
    subst e
    decide
/-- no new machine -/
def NM (m m_q : Nat) (tg_q : Int → Int) : Prop := ∀ b, own m_q b → 64 + (m : Int) ≤ b → tg_q b ≠ 6 ∧ tg_q b ≠ 13
theorem NM_0 {m : Nat} {tg : Int → Int} : NM m m tg := fun b o h => by
  have := o.2.1
  omega
theorem NM_n {m m1 m2 : Nat} {tg1 ln1 tg2 ln2 : Int → Int} {n t : Int} (h : NM m m1 tg1) (hm : 89 ≤ m1) (ex : Ex m1 tg1 ln1 m2 tg2 ln2) (en : n = 64 + (m1 : Int)) (em : m2 = m1 + 1) (ht : tg2 n = t) (hn : t ≠ 6 ∧ t ≠ 13) : NM m m2 tg2 := fun b o hb => by
  subst em
  rcases (own_s hm).mp o with w | w
  · rw [(ex.2 b w).1]
    exact h b w hb
  · rw [← en] at w
    subst w
    rw [ht]
    exact hn
theorem NM_t {m m1 m2 : Nat} {tg1 ln1 tg2 ln2 : Int → Int} (h : NM m m1 tg1) (ex : Ex m1 tg1 ln1 m2 tg2 ln2) (g : NM m1 m2 tg2) : NM m m2 tg2 := fun b o hb => by
  by_cases ob : own m1 b
  · rw [(ex.2 b ob).1]
    exact h b ob hb
  · refine g b o ?_
    have q : ¬ (64 ≤ b ∧ b < 64 + (m1 : Int) ∧ ¬ (66 ≤ b ∧ b < 153)) := ob
    have r1 := o.1
    have r2 := o.2.2
    omega
theorem SB_n {m1 m2 : Nat} {tg1 ln1 tg2 ln2 : Int → Int} {F1 F2 : Int → Int → Int} {n t k : Int} (h : SB m1 tg1 F1 k) (hm : 89 ≤ m1) (ex : Ex m1 tg1 ln1 m2 tg2 ln2) (en : n = 64 + (m1 : Int)) (em : m2 = m1 + 1) (hf : ∀ b i, b ≠ n → F2 b i = F1 b i) (ht : tg2 n = t) (hn : t ≠ 6 ∨ F2 n 6 ≤ k) : SB m2 tg2 F2 k := fun b o tb => by
  subst em
  rcases (own_s hm).mp o with w | w
  · rw [hf b 6 (ne_n w en)]
    exact h b w ((ex.2 b w).1.symm.trans tb)
  · rw [← en] at w
    subst w
    rcases hn with hn | hn
    · exact absurd (ht.symm.trans tb) hn
    · exact hn
