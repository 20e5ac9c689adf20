/-! RESET MAKES THE MACHINE -/
/-- links lead from one core to another -/
def LKs (lk : Int) (A : Nat → Nat → Int) : Prop := lk ≤ 12 ∧ ∀ l : Int, 0 ≤ l → l < lk → (0 ≤ A 34 l.toNat ∧ A 34 l.toNat ≤ 5) ∧ (0 ≤ A 35 l.toNat ∧ A 35 l.toNat ≤ 5) ∧ A 34 l.toNat ≠ A 35 l.toNat
/-- all is made that a core needs to begin -/
def RD (lk : Int) (A : Nat → Nat → Int) : Prop := LKs lk A ∧ ∀ p : Int, 0 ≤ p → p ≤ 5 → 0 < A 36 p.toNat → (1 ≤ A 37 p.toNat ∧ 0 ≤ A 38 p.toNat ∧ A 37 p.toNat + A 38 p.toNat + 3 ≤ 4000) ∧ (0 ≤ A 54 p.toNat ∧ A 54 p.toNat ≤ 6000) ∧ ∃ (K : Kd) (N bg : Int), St1 K N A p ∧ kP K bg = A 55 p.toNat ∧ Gd K N (fun _ _ => False) bg (pcx0 A lk p)
theorem pcx0_f {A A_q : Nat → Nat → Int} {lk p : Int} (e : ∀ k : Nat, k < 59 → A_q k = A k) : pcx0 A_q lk p = pcx0 A lk p := by
  unfold pcx0 pcap pbt
  rw [e 34 (by decide), e 35 (by decide), e 37 (by decide), e 38 (by decide)]
theorem RD_f {A A_q : Nat → Nat → Int} {lk : Int} (e : ∀ k : Nat, k < 59 → A_q k = A k) (h : RD lk A) : RD lk A_q := by
  obtain ⟨⟨h1, h2⟩, h3⟩ := h
  refine ⟨⟨h1, ?_⟩, fun p p0 p1 => ?_⟩
  · rw [e 34 (by decide), e 35 (by decide)]
    exact h2
  · rw [pcx0_f e, e 36 (by decide), e 37 (by decide), e 38 (by decide), e 54 (by decide), e 55 (by decide)]
    intro w
    obtain ⟨a1, a2, K, N, bg, a3, a4, a5⟩ := h3 p p0 p1 w
    refine ⟨a1, a2, K, N, bg, ?_, a4, a5⟩
    unfold St1 Cby at a3 ⊢
    rw [e 53 (by decide)]
    exact a3
theorem RD_bd {lk : Int} {A : Nat → Nat → Int} (h : RD lk A) : BD A := fun p p0 p1 w => by
  obtain ⟨a1, a2, _⟩ := h.2 p p0 p1 w
  exact ⟨⟨by omega, by omega, by omega⟩, a2.1, a2.2⟩
/-- what the words of a core are at the begin -/
def ty0 (W : Int) (bt : Int → Int) : Int → Int := fun x => if x < 0 then bt (-1 - x) else if x ≤ 13 then 2 else if W - 3 ≤ x ∧ x ≤ W then 6 else 0
theorem ty0_n {W x : Int} {bt : Int → Int} (h : x < 0) : ty0 W bt x = bt (-1 - x) := if_pos h
theorem ty0_2 {W x : Int} {bt : Int → Int} (h : 0 ≤ x) (h1 : x ≤ 13) : ty0 W bt x = 2 := by
  unfold ty0
  rw [if_neg (by omega), if_pos h1]
theorem ty0_6 {W x : Int} {bt : Int → Int} (h : 17 ≤ W) (h0 : W - 3 ≤ x) (h1 : x ≤ W) : ty0 W bt x = 6 := by
  unfold ty0
  rw [if_neg (by omega), if_neg (by omega), if_pos ⟨h0, h1⟩]
theorem ty0_c {W x : Int} {bt : Int → Int} (hb : ∀ y, bt y ≠ 2) (h : ty0 W bt x = 2) : 0 ≤ x ∧ x ≤ 13 := by
  by_cases a : x < 0
  · rw [ty0_n a] at h
    exact absurd h (hb _)
  · by_cases b : x ≤ 13
    · omega
    · unfold ty0 at h
      rw [if_neg a, if_neg b] at h
      split at h <;> omega
/-- no frame -/
theorem MI_no {m : Int → Int} {W : Int} {bt : Int → Int} (hb : ∀ y, bt y ≠ 2) (hm : ∀ x, 0 ≤ x → x ≤ 13 → m x = -1) : MI (fun _ => (0, 0, 0)) 0 m (ty0 W bt) (fun _ => fo) := by
  refine ⟨fun w h => absurd h (show ¬ (0 : Int) = 1 by decide), fun w w_q h => absurd h (show ¬ (0 : Int) = 1 by decide), fun x h => Or.inl ?_⟩
  have := ty0_c hb h
  exact hm x this.1 this.2
/-- the first frame of a processor -/
def frm0 (W bg : Int) (c : Cx) : Fm := (1, 0, 0, 1, 0, 0, 0, 16, W + cZ c, bg, c, 0, c)
theorem MI_one {K : Kd} {N : Int} {m : Int → Int} {A : Nat → Nat → Int} {lk p W bg : Int} (hm : ∀ x, 0 ≤ x → x ≤ 13 → m x = -1) (hW : W = 19 + A 38 p.toNat) (h37 : 1 ≤ A 37 p.toNat) (h38 : 0 ≤ A 38 p.toNat) (h40 : A 37 p.toNat + A 38 p.toNat + 3 ≤ 4000) (hb : ∀ y, pbt A lk p y ≠ 2) (hg : Gd K N (fun _ _ => False) bg (pcx0 A lk p)) :
    MI K N m (ty0 W (pbt A lk p)) (ug (fun _ => fo) W (frm0 W bg (pcx0 A lk p))) := by
  obtain ⟨f, hf⟩ : ∃ f, f = frm0 W bg (pcx0 A lk p) := ⟨_, rfl⟩
  have on : ∀ V, fOn (ug (fun _ => fo) W f V) = 1 → V = W := fun V h => by
    by_cases w : V = W
    · exact w
    · rw [ug_n w] at h
      exact absurd h (show ¬ (0 : Int) = 1 by decide)
  have cl : ∀ k x u, Cl m W (pcap A lk p) k x u → k = 2 ∧ 0 ≤ x ∧ x ≤ 13 ∧ u = pbt A lk p x := fun k x u ⟨q, hq, hc⟩ => by
    obtain ⟨y, y0, y1, e⟩ := pcap_m hq
    subst e
    unfold Cw at hc
    rcases hc with ⟨h, _⟩ | ⟨h, _⟩ | ⟨h, _⟩ | ⟨h, _⟩ | ⟨h, _⟩ | ⟨h, _⟩ | ⟨_, h1, h2, h3⟩ | ⟨h, _⟩
    · exact absurd h (show ¬ (5 : Int) = 1 by decide)
    · exact absurd h (show ¬ (5 : Int) = 2 by decide)
    · exact absurd h (show ¬ (5 : Int) = 3 by decide)
    · exact absurd h (show ¬ (5 : Int) = 3 by decide)
    · exact absurd h (show ¬ ((5 : Int) = 4 ∨ (5 : Int) = 8 ∨ (5 : Int) = 9) by decide)
    · exact absurd h (show ¬ ((5 : Int) = 4 ∨ (5 : Int) = 8 ∨ (5 : Int) = 9) by decide)
    · have h2 : x = y := h2
      have h3 : u = pbt A lk p y := h3
      subst h2
      exact ⟨h1, y0, y1, h3⟩
    · exact absurd h (show ¬ ((5 : Int) = 6 ∨ (5 : Int) = 7) by decide)
  rw [← hf]
  refine ⟨fun V h => ?_, fun V V_q h h_q n => absurd ((on V h).trans (on V_q h_q).symm) n, fun x h => Or.inl ?_⟩
  · have e := on V h
    subst e
    rw [ug_e]
    subst hf
    have n1 : ¬ (0 : Int) = 1 := by decide
    have n2 : ¬ (0 : Int) = 2 := by decide
    have n3 : ¬ (0 : Int) = 3 := by decide
    have n4 : ¬ (0 : Int) = 4 := by decide
    have n5 : ¬ (0 : Int) = 5 := by decide
    have hq : fQ (frm0 V bg (pcx0 A lk p)) = pcap A lk p := rfl
    refine ⟨?_, ?_, ?_, ?_, ?_, fun w => absurd w n2⟩
    · refine ⟨by show (16 : Int) ≤ 16; omega, by show 16 + 3 + A 38 p.toNat ≤ V; omega, Int.le_refl _, by show V + A 37 p.toNat ≤ 4016; omega, h37, h38, fun w => absurd w n1, Or.inl rfl, by show (0 : Int) ≤ 1; omega, by show (1 : Int) ≤ 1; omega, fun w => absurd w n2, by show (0 : Int) ≤ 0; omega, by show (0 : Int) ≤ 2; omega⟩
    · exact ⟨ty0_6 (by omega) (by omega) (by omega), ty0_6 (by omega) (by omega) (by omega), ty0_6 (by omega) (by omega) (by omega), ty0_6 (by omega) (by omega) (by omega), fun w => absurd w n1, fun w => absurd w n2⟩
    · rw [hq]
      refine ⟨fun k x u hc => ?_, fun q hq => ?_, fun q hq k => ?_⟩
      · obtain ⟨a, b, d, e⟩ := cl k x u hc
        subst a
        refine ⟨ty0_2 b d, b, by omega, Or.inr ⟨rfl, ?_⟩⟩
        rw [ty0_n (by omega), show -1 - (-1 - x) = x by omega, e]
        exact ⟨fun w => w, fun w => w⟩
      · obtain ⟨y, y0, y1, e⟩ := pcap_m hq
        subst e
        have m3 : ¬ (5 : Int) = 3 := by decide
        have m4 : ¬ (5 : Int) = 4 := by decide
        refine ⟨⟨by show (1 : Int) ≤ 1; omega, fun w => absurd w (show ¬ (5 : Int) = 2 by decide)⟩, Or.inl rfl, ⟨fun w => absurd w m3, fun w => absurd w m4, fun w => absurd w (show ¬ ((5 : Int) = 8 ∨ (5 : Int) = 9) by decide)⟩, fun w => absurd w (show ¬ (5 : Int) = 7 by decide), fun w => ?_, fun _ => ⟨y0, y1⟩⟩
        rcases w with w | w
        · exact absurd w (show ¬ (5 : Int) = 9 by decide)
        · exact absurd w.1 m3
      · obtain ⟨y, _, _, e⟩ := pcap_m hq
        subst e
        exact absurd k (show ¬ (5 : Int) = 4 by decide)
    · refine ⟨hg, fun w => absurd w n2, fun w => absurd w n1, fun _ => n2, fun w => absurd w n1, ⟨by show (0 : Int) ≤ 0; omega, by show (0 : Int) ≤ 2; omega⟩, s0, s0, s0, fun w => ?_, fun w => ?_, fun w => ?_, fun w => absurd w n4, fun w => absurd w n3, fun w => absurd w n2, fun w => absurd w n3, fun w => absurd w n5⟩
      · rcases w with w | w | w | w
        · exact absurd w n2
        · exact absurd w n3
        · exact absurd w n4
        · exact absurd w n5
      · rcases w with w | w
        · exact absurd w n2
        · exact absurd w n3
      · rcases w with w | w | w
        · exact absurd w n2
        · exact absurd w n3
        · exact absurd w n4
    · exact ⟨fun w => absurd w n1, fun w => absurd w n2, fun _ => rfl⟩
  · have := ty0_c hb h
    exact hm x this.1 this.2
theorem Rdy_no {g : Int → Fm} {b n : Int} {rd : Int → Int} (h : n = 0) : Rdy g b n rd := by
  subst h
  exact ⟨Int.le_refl _, fun i a c => absurd c (by omega), fun i j a b c => absurd c (by omega)⟩
theorem pbt_2 {T : Nat → Nat → Int} {lk p y : Int} : pbt T lk p y ≠ 2 := by
  by_cases w : 0 ≤ y ∧ y < lk
  · exact (pbt_l w.1 w.2).2.2
  · obtain ⟨a, b, c⟩ := pbt_o (T := T) (p := p) w
    by_cases u : y = 12 ∧ p = 0
    · rw [a u]
      decide
    · by_cases v : y = 13 ∧ p = 0
      · rw [b v]
        decide
      · rw [c u v]
        decide
theorem RS_m {A A_q : Nat → Nat → Int} {p : Int} (h : RS A A_q) (p0 : 0 ≤ p) (p1 : p ≤ 5) : ∀ x, 0 ≤ x → x ≤ 13 → ldM A_q p x = -1 := fun x x0 x1 => by
  unfold ldM
  rw [if_pos (by omega), h.1 p x p0 p1 x0 (by omega), if_pos (by omega)]
/-- reset: the machine is in order -/
theorem GS_rs {A A_q : Nat → Nat → Int} {lk : Int} (h : RS A A_q) (e : ∀ k : Nat, k < 59 → A_q k = A k) (hr : RD lk A) : GZ lk A_q := by
  have hr' := RD_f e hr
  have core : ∀ p : Int, 0 ≤ p → p ≤ 5 → ∃ (K : Kd) (N : Int) (ty : Int → Int) (g : Int → Fm), Cor K N ty g A_q p := fun p p0 p1 => by
    have m := RS_m h p0 p1
    obtain ⟨q1, q2, q3, q4, q5, q6, q7, q8, q9, q10⟩ := h.2.1 p p0 (by omega)
    by_cases w : 0 < A 36 p.toNat
    · obtain ⟨⟨a1, a2, a3⟩, _, K, N, bg, a5, a6, a7⟩ := hr'.2 p p0 p1 (by rw [e 36 (by decide)]; exact w)
      have d38 : A_q 38 p.toNat = A 38 p.toNat := by rw [e 38 (by decide)]
      obtain ⟨w64, w66⟩ := q9 w (by omega) (by omega)
      obtain ⟨W, hW⟩ : ∃ W, W = 19 + A_q 38 p.toNat := ⟨_, rfl⟩
      have hM := MI_one (N := N) (lk := lk) (bg := bg) m hW a1 a2 a3 (fun y => pbt_2) a7
      obtain ⟨f, hf⟩ : ∃ f, f = frm0 W bg (pcx0 A_q lk p) := ⟨_, rfl⟩
      rw [← hf] at hM
      have on : ∀ V, fOn (ug (fun _ => fo) W f V) = 1 → V = W := fun V h => by
        by_cases w : V = W
        · exact w
        · rw [ug_n w] at h
          exact absurd h (show ¬ (0 : Int) = 1 by decide)
      have sx0 : fSx (ug (fun _ => fo) W f W) = 0 := by
        rw [ug_e, hf]
        rfl
      refine ⟨K, N, ty0 W (pbt A_q lk p), ug (fun _ => fo) W f, a5, ⟨⟨hM, Rdy_no q1, Rdy_no q2, fun V v1 v2 => ?_, fun v => absurd q3 v, fun V v1 v2 => ?_⟩, Or.inr ⟨W, ?_, fun V v1 _ => on V v1⟩⟩, ⟨fun V v1 v2 => ?_, fun V v1 v2 => ?_⟩, ⟨fun l l0 l1 => ?_, ?_, fun x x0 x1 => ty0_2 x0 x1⟩⟩
      · rw [on V v1, sx0] at v2
        exact absurd v2 (by decide)
      · rw [on V v1, sx0] at v2
        exact absurd v2 (by decide)
      · have fr : fR (ug (fun _ => fo) W f) W = W := by
          show W + cDw (fCx (ug (fun _ => fo) W f W)) = W
          rw [ug_e, hf]
          show W + 0 = W
          omega
        unfold RN
        rw [fr, ug_e, w64, w66, q8, q3, q7, q4, q5, q6]
        refine ⟨by rw [hf]; rfl, by rw [hf]; rfl, ?_, by omega, ?_, ?_, fun v => absurd rfl v⟩
        · rw [hf]
          show _ = 2 * W + 1
          omega
        · refine Or.inl ?_
          have e55 : A_q 55 p.toNat = A 55 p.toNat := by rw [e 55 (by decide)]
          rw [hf, ← e55, ← a6]
          exact Pos_0 a5.1 a7
        · unfold Rgs
          rw [ug_e, hf]
          exact ⟨Rok_0, Rok_0, Rok_0⟩
      · rw [on V v1, ug_e, hf] at v2
        exact absurd v2 (show ¬ (0 : Int) = 2 by decide)
      · rw [on V v1, ug_e, hf] at v2
        exact absurd v2 (show ¬ (0 : Int) = 2 by decide)
      · rw [ty0_n (by omega), show -1 - (-1 - l) = l by omega]
        by_cases v : l < lk
        · have z := pbt_l (T := A_q) (p := p) l0 v
          have k := hr'.1.2 l l0 v
          exact ⟨fun u => ⟨z.1.mp u, k.2.2⟩, fun u => z.2.1.mp u⟩
        · have z := (pbt_o (T := A_q) (lk := lk) (p := p) (x := l) (by omega)).2.2 (by omega) (by omega)
          rw [z]
          exact ⟨fun u => absurd u (by decide), fun u => absurd u (by decide)⟩
      · rw [ty0_n (by decide)]
        have l12 := hr.1.1
        by_cases v : p = 0
        · have z := (pbt_o (T := A_q) (lk := lk) (p := p) (x := 13) (by omega)).2.1 ⟨rfl, v⟩
          show pbt A_q lk p 13 / 4 % 2 = 0
          rw [z]
          decide
        · have z := (pbt_o (T := A_q) (lk := lk) (p := p) (x := 13) (by omega)).2.2 (by omega) (by omega)
          show pbt A_q lk p 13 / 4 % 2 = 0
          rw [z]
          decide
    · have hM := MI_no (W := 0) (bt := fun _ => 0) (fun _ => by decide) m
      refine ⟨fun _ => (0, 0, 0), 0, ty0 0 (fun _ => 0), fun _ => fo, ⟨fun j j0 j1 => absurd j1 (by omega), fun t => ⟨by show (-2147483648 : Int) ≤ 0; omega, by show (0 : Int) ≤ 2147483647; omega⟩, fun j _ _ => ⟨by show (0 : Int) ≤ 0; omega, by show (0 : Int) ≤ 6000; omega⟩, fun j => ⟨by show (-2147483648 : Int) ≤ 0; omega, by show (0 : Int) ≤ 2147483647; omega⟩, fun j i j0 j1 => absurd j1 (by omega)⟩, ⟨⟨hM, Rdy_no q1, Rdy_no q2, fun V v1 => absurd v1 (show ¬ (0 : Int) = 1 by decide), fun v => absurd q3 v, fun V v1 => absurd v1 (show ¬ (0 : Int) = 1 by decide)⟩, Or.inl ⟨q10 (by omega), fun V v1 => absurd v1 (show ¬ (0 : Int) = 1 by decide)⟩⟩, ⟨fun V v1 => absurd v1 (show ¬ (0 : Int) = 1 by decide), fun V v1 => absurd v1 (show ¬ (0 : Int) = 1 by decide)⟩, ⟨fun l l0 l1 => ?_, ?_, fun x x0 x1 => ty0_2 x0 x1⟩⟩
      · rw [ty0_n (by omega)]
        exact ⟨fun u => absurd u (show ¬ (0 : Int) / 4 % 2 = 1 by decide), fun u => absurd u (show ¬ (0 : Int) / 8 % 2 = 1 by decide)⟩
      · rw [ty0_n (by decide)]
        show (0 : Int) / 4 % 2 = 0
        decide
  have gs : GS A_q := by
    have c : ∀ p : Int, ∃ (K : Kd) (N : Int) (ty : Int → Int) (g : Int → Fm), 0 ≤ p → p ≤ 5 → Cor K N ty g A_q p := fun p => by
      by_cases w : 0 ≤ p ∧ p ≤ 5
      · obtain ⟨K, N, ty, g, z⟩ := core p w.1 w.2
        exact ⟨K, N, ty, g, fun _ _ => z⟩
      · exact ⟨fun _ => (0, 0, 0), 0, fun _ => 0, fun _ => fo, fun a b => absurd ⟨a, b⟩ w⟩
    refine ⟨fun p => (c p).choose, fun p => (c p).choose_spec.choose, fun p => (c p).choose_spec.choose_spec.choose, fun p => (c p).choose_spec.choose_spec.choose_spec.choose, fun p p0 p1 => (c p).choose_spec.choose_spec.choose_spec.choose_spec p0 p1, fun l l0 l1 => ?_⟩
    obtain ⟨z1, z2, z3⟩ := h.2.2 l l0 (by omega)
    exact ⟨fun w => absurd z1 w, fun w => absurd z3 w, fun w => absurd (z2.symm.trans w) (by decide)⟩
  exact ⟨gs, fun l l0 l1 => ⟨(hr'.1.2 l l0 l1).1, (hr'.1.2 l l0 l1).2.1⟩⟩
