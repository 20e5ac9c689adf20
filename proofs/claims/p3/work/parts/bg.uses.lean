/-! USES: what is written down of them, and what that means -/
theorem hb_t {a b c : Int} (h : hb a b) (g : hb b c) : hb a c := ⟨fun w => h.1 (g.1 w), fun w => h.2.1 (g.2.1 w), fun w => h.2.2.1 (g.2.2.1 w), fun w => h.2.2.2 (g.2.2.2 w)⟩
/-- exactly what writing a use down does -/
def adR (A A_q : Nat → Nat → Int) (uf us us2 s al el u : Int) : Prop :=
  (∃ i d : Int, uf ≤ i ∧ i < us ∧ us2 = us ∧ eqk A i s al el ∧ d = (i32 (A 42 i.toNat) ||| i32 u).toInt ∧ A_q = uA A 42 i.toNat d) ∨
  (us2 = us + 1 ∧ NF A uf us s al el ∧ ∃ A1 A2 A3 : Nat → Nat → Int, A1 = uA A 39 us.toNat s ∧ A2 = uA A1 40 us.toNat (if al = 1 then 0 else el) ∧ A3 = uA A2 41 us.toNat al ∧ A_q = uA A3 42 us.toNat u)
/-- two uses of one thing are one use -/
def Clo (Q : Us) : Prop := ∀ s al e b b_q : Int, 0 ≤ b → b ≤ 15 → 0 ≤ b_q → b_q ≤ 15 → Q s al e b → Q s al e b_q → Q s al e (i32 b ||| i32 b_q).toInt
/-- covered by the uses from f on -/
def Cov (A : Nat → Nat → Int) (f t : Int) : Us := fun s al e b => ∃ j : Int, f ≤ j ∧ j < t ∧ A 39 j.toNat = s ∧ A 41 j.toNat = al ∧ A 40 j.toNat = e ∧ hb (A 42 j.toNat) b
/-- the uses are in order; Fm: what they may be of -/
def UI (Fm : Int → Int → Int → Prop) (A : Nat → Nat → Int) (uf us : Int) : Prop := (0 ≤ uf ∧ uf ≤ us) ∧ Ds A uf us ∧ (∀ j : Int, 0 ≤ j → j < us → 0 ≤ A 42 j.toNat ∧ A 42 j.toNat ≤ 15) ∧ (∀ j : Int, 0 ≤ j → j < us → A 41 j.toNat = 1 → A 40 j.toNat = 0) ∧ ∀ j : Int, uf ≤ j → j < us → Fm (A 39 j.toNat) (A 41 j.toNat) (A 40 j.toNat)
def Fbd (Fm : Int → Int → Int → Prop) (M : Int) : Prop := ∀ (A : Nat → Nat → Int) (f t : Int), f ≤ t → Ds A f t → (∀ j : Int, f ≤ j → j < t → Fm (A 39 j.toNat) (A 41 j.toNat) (A 40 j.toNat)) → t - f ≤ M
theorem UI_le {Fm : Int → Int → Int → Prop} {A : Nat → Nat → Int} {uf us M : Int} (h : UI Fm A uf us) (b : Fbd Fm M) : us ≤ uf + M := by
  have := b A uf us h.1.2 h.2.1 h.2.2.2.2
  omega
/-- what a piece of work on the uses does: entries only grow, what is used (Z) is covered, and nothing else is written down -/
def UX (A A_q : Nat → Nat → Int) (uf us us2 : Int) (Z : Us → Prop) : Prop := us ≤ us2 ∧ (∀ j : Int, 0 ≤ j → j < us → A_q 39 j.toNat = A 39 j.toNat ∧ A_q 40 j.toNat = A 40 j.toNat ∧ A_q 41 j.toNat = A 41 j.toNat ∧ hb (A_q 42 j.toNat) (A 42 j.toNat) ∧ (j < uf → A_q 42 j.toNat = A 42 j.toNat)) ∧ Z (Cov A_q uf us2) ∧ ∀ Q : Us, Clo Q → Z Q → (∀ j : Int, uf ≤ j → j < us → Q (A 39 j.toNat) (A 41 j.toNat) (A 40 j.toNat) (A 42 j.toNat)) → ∀ j : Int, uf ≤ j → j < us2 → Q (A_q 39 j.toNat) (A_q 41 j.toNat) (A_q 40 j.toNat) (A_q 42 j.toNat)
def Mon (Z : Us → Prop) : Prop := ∀ U U' : Us, (∀ s al e b, U s al e b → U' s al e b) → Z U → Z U'
theorem UX_0 {A : Nat → Nat → Int} {uf us : Int} : UX A A uf us us (fun _ => True) := ⟨Int.le_refl _, fun j _ _ => ⟨rfl, rfl, rfl, hb_rf, fun _ => rfl⟩, trivial, fun Q _ _ h => h⟩
theorem UX_cov {A A_q : Nat → Nat → Int} {uf us us2 : Int} {Z : Us → Prop} (h0 : 0 ≤ uf) (h : UX A A_q uf us us2 Z) : ∀ s al e b, Cov A uf us s al e b → Cov A_q uf us2 s al e b := fun s al e b ⟨j, j0, j1, k1, k2, k3, k4⟩ => by
  obtain ⟨g1, g2, g3, g4, _⟩ := h.2.1 j (by omega) j1
  have := h.1
  exact ⟨j, j0, by omega, g1.trans k1, g3.trans k2, g2.trans k3, hb_t g4 k4⟩
/-- one after the other -/
theorem UX_t {A A1 A2 : Nat → Nat → Int} {uf us us1 us2 : Int} {Z1 Z2 : Us → Prop} (h0 : 0 ≤ uf) (m : Mon Z1) (h : UX A A1 uf us us1 Z1) (g : UX A1 A2 uf us1 us2 Z2) : UX A A2 uf us us2 (fun Q => Z1 Q ∧ Z2 Q) := by
  have a := h.1
  refine ⟨by have := g.1; omega, fun j j0 j1 => ?_, ⟨m _ _ (UX_cov h0 g) h.2.2.1, g.2.2.1⟩, fun Q c z i => g.2.2.2 Q c z.2 (h.2.2.2 Q c z.1 i)⟩
  obtain ⟨x1, x2, x3, x4, x5⟩ := h.2.1 j j0 j1
  obtain ⟨y1, y2, y3, y4, y5⟩ := g.2.1 j j0 (by omega)
  exact ⟨y1.trans x1, y2.trans x2, y3.trans x3, hb_t y4 x4, fun w => (y5 w).trans (x5 w)⟩
theorem UX_z {A A_q : Nat → Nat → Int} {uf us us2 : Int} {Z Z' : Us → Prop} (e : ∀ Q, Z' Q ↔ Z Q) (h : UX A A_q uf us us2 Z) : UX A A_q uf us us2 Z' := ⟨h.1, h.2.1, (e _).mpr h.2.2.1, fun Q c z i => h.2.2.2 Q c ((e Q).mp z) i⟩
theorem Mon_a {Z1 Z2 : Us → Prop} (a : Mon Z1) (b : Mon Z2) : Mon (fun Q => Z1 Q ∧ Z2 Q) := fun U U' s h => ⟨a U U' s h.1, b U U' s h.2⟩
/-- one use -/
theorem UX_ad {Fm : Int → Int → Int → Prop} {A A_q : Nat → Nat → Int} {uf us us2 s al el u : Int} (h : UI Fm A uf us) (hu : 0 ≤ u ∧ u ≤ 15) (ha : al = 0 ∨ al = 1) (f : Fm s al (if al = 1 then 0 else el)) (ad : adR A A_q uf us us2 s al el u) : UI Fm A_q uf us2 ∧ UX A A_q uf us us2 (fun Q => Q s al (if al = 1 then 0 else el) u) := by
  obtain ⟨⟨h0, h1⟩, h2, h3, h4, h5⟩ := h
  rcases ad with ⟨i, d, i0, i1, e2, k, hd, e⟩ | ⟨e2, nf, A1, A2, A3, e1, e2', e3, e4⟩
  · subst e2
    have r : ∀ k : Nat, k ≠ 42 → A_q k = A k := fun k hk => by rw [e]; exact uA_ne hk
    have r39 := r 39 (by decide)
    have r40 := r 40 (by decide)
    have r41 := r 41 (by decide)
    have r42 : A_q 42 i.toNat = d := by rw [e]; exact uA_eq
    have n42 : ∀ j : Int, 0 ≤ j → j ≠ i → A_q 42 j.toNat = A 42 j.toNat := fun j a b => by rw [e]; exact uA_ni (by omega)
    have hi := h3 i (by omega) i1
    have ob := or_b hi.1 hi.2 hu.1 hu.2
    rw [← hd] at ob
    have e40 : A 40 i.toNat = if al = 1 then 0 else el := by
      by_cases w : al = 1
      · rw [if_pos w]
        exact h4 i (by omega) i1 (k.2.1.trans w)
      · rw [if_neg w]
        rcases k.2.2 with z | z
        · exact absurd z w
        · exact z
    refine ⟨⟨⟨h0, h1⟩, fun a b a0 b0 c0 => ?_, fun j j0 j1 => ?_, fun j j0 j1 => ?_, fun j j0 j1 => ?_⟩, Int.le_refl _, fun j j0 j1 => ⟨by rw [r39], by rw [r40], by rw [r41], ?_, fun w => n42 j j0 (by omega)⟩, ⟨i, i0, i1, by rw [r39]; exact k.1, by rw [r41]; exact k.2.1, by rw [r40]; exact e40, by rw [r42]; exact ob.2.2.2⟩, fun Q c z hq j j0 j1 => ?_⟩
    · unfold eqk
      rw [r39, r40, r41]
      exact h2 a b a0 b0 c0
    · by_cases q : j = i
      · subst q
        rw [r42]
        exact ⟨ob.1, ob.2.1⟩
      · rw [n42 j j0 q]
        exact h3 j j0 j1
    · rw [r40, r41]
      exact h4 j j0 j1
    · rw [r39, r40, r41]
      exact h5 j j0 j1
    · by_cases q : j = i
      · subst q
        rw [r42]
        exact ob.2.2.1
      · rw [n42 j j0 q]
        exact hb_rf
    · rw [r39, r40, r41]
      by_cases q : j = i
      · subst q
        rw [r42, hd]
        refine c _ _ _ _ _ hi.1 hi.2 hu.1 hu.2 (hq j j0 j1) ?_
        rw [k.1, k.2.1, e40]
        exact z
      · rw [n42 j (by omega) q]
        exact hq j j0 j1
  · subst e2
    have r39 : A_q 39 = A1 39 := by rw [e4, uA_ne (by decide), e3, uA_ne (by decide), e2', uA_ne (by decide)]
    have r40 : A_q 40 = A2 40 := by rw [e4, uA_ne (by decide), e3, uA_ne (by decide)]
    have r41 : A_q 41 = A3 41 := by rw [e4, uA_ne (by decide)]
    have l40 : A1 40 = A 40 := by rw [e1, uA_ne (by decide)]
    have l41 : A2 41 = A 41 := by rw [e2', uA_ne (by decide), e1, uA_ne (by decide)]
    have l42 : A3 42 = A 42 := by rw [e3, uA_ne (by decide), e2', uA_ne (by decide), e1, uA_ne (by decide)]
    have q39 : A_q 39 us.toNat = s := by rw [r39, e1]; exact uA_eq
    have q40 : A_q 40 us.toNat = if al = 1 then 0 else el := by rw [r40, e2']; exact uA_eq
    have q41 : A_q 41 us.toNat = al := by rw [r41, e3]; exact uA_eq
    have q42 : A_q 42 us.toNat = u := by rw [e4]; exact uA_eq
    have n : ∀ j : Int, 0 ≤ j → j < us → A_q 39 j.toNat = A 39 j.toNat ∧ A_q 40 j.toNat = A 40 j.toNat ∧ A_q 41 j.toNat = A 41 j.toNat ∧ A_q 42 j.toNat = A 42 j.toNat := fun j j0 j1 => by
      refine ⟨by rw [r39, e1]; exact uA_ni (by omega), ?_, ?_, ?_⟩
      · rw [r40, e2', uA_ni (by omega), l40]
      · rw [r41, e3, uA_ni (by omega), l41]
      · rw [e4, uA_ni (by omega), l42]
    refine ⟨⟨⟨h0, by omega⟩, fun a b a0 b0 c0 => ?_, fun j j0 j1 => ?_, fun j j0 j1 => ?_, fun j j0 j1 => ?_⟩, by omega, fun j j0 j1 => ?_, ⟨us, h1, by omega, q39, q41, q40, by rw [q42]; exact hb_rf⟩, fun Q c z hq j j0 j1 => ?_⟩
    · obtain ⟨g1, g2, g3, g4⟩ := n a (by omega) (by omega)
      unfold eqk
      rw [g1, g2, g3]
      by_cases q : b = us
      · subst q
        rw [q39, q40, q41]
        intro w
        refine nf a a0 b0 ⟨w.1, w.2.1, ?_⟩
        by_cases z : al = 1
        · exact Or.inl z
        · have w3 := w.2.2
          rw [if_neg z] at w3
          exact w3
      · obtain ⟨k1, k2, k3, k4⟩ := n b (by omega) (by omega)
        rw [k1, k2, k3]
        exact h2 a b a0 b0 (by omega)
    · by_cases q : j = us
      · subst q
        rw [q42]
        exact hu
      · rw [(n j j0 (by omega)).2.2.2]
        exact h3 j j0 (by omega)
    · by_cases q : j = us
      · subst q
        rw [q40, q41]
        exact fun w => if_pos w
      · rw [(n j j0 (by omega)).2.2.1, (n j j0 (by omega)).2.1]
        exact h4 j j0 (by omega)
    · by_cases q : j = us
      · subst q
        rw [q39, q40, q41]
        exact f
      · obtain ⟨g1, g2, g3, g4⟩ := n j (by omega) (by omega)
        rw [g1, g2, g3]
        exact h5 j j0 (by omega)
    · obtain ⟨g1, g2, g3, g4⟩ := n j j0 j1
      refine ⟨g1, g2, g3, ?_, fun _ => g4⟩
      rw [g4]
      exact hb_rf
    · by_cases q : j = us
      · subst q
        rw [q39, q40, q41, q42]
        exact z
      · obtain ⟨g1, g2, g3, g4⟩ := n j (by omega) (by omega)
        rw [g1, g2, g3, g4]
        exact hq j j0 (by omega)
