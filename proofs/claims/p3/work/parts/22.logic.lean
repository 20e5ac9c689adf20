/-! J'S LOGIC: a run that ends, for all fuel from some on -/
def wj (X : jX) (d : Nat) (e : jM) (S : jS) (Q : jO → jH → Prop) : Prop := ∃ f0 o V_q, Q o V_q ∧ ∀ f g, f0 ≤ f → f0 ≤ g → jLoop (jRun X g d) X e f S = some (o, V_q)
def wk (X : jX) (d t : Nat) (as : List Value) (V : jH) (Q : jO → jH → Prop) : Prop := ∃ f0 o V_q, Q o V_q ∧ ∀ g, f0 ≤ g → jRun X g d t as V = some (o, V_q)
theorem wj_step {X : jX} {d : Nat} {e : jM} {S S_q : jS} {Q : jO → jH → Prop} (h : ∀ call, jStep call X e S = some (.inl S_q)) (k : wj X d e S_q Q) : wj X d e S Q := by
  obtain ⟨f0, o, V_q, hq, hk⟩ := k
  refine ⟨f0 + 1, o, V_q, hq, fun f g hf hg => ?_⟩
  cases f with
  | zero => exact absurd hf (by omega)
  | succ f =>
    unfold jLoop
    rw [h]
    exact hk f g (by omega) (by omega)
theorem wj_out {X : jX} {d : Nat} {e : jM} {S : jS} {o : jO} {V : jH} {Q : jO → jH → Prop} (h : ∀ call, jStep call X e S = some (.inr (o, V))) (hq : Q o V) : wj X d e S Q := by
  refine ⟨1, o, V, hq, fun f g hf hg => ?_⟩
  cases f with
  | zero => exact absurd hf (by omega)
  | succ f =>
    unfold jLoop
    rw [h]
theorem wk_mono {X : jX} {d t : Nat} {as : List Value} {V : jH} {Q Q_q : jO → jH → Prop} (h : ∀ o V, Q o V → Q_q o V) (k : wk X d t as V Q) : wk X d t as V Q_q := by
  obtain ⟨f0, o, V_q, hq, hk⟩ := k
  exact ⟨f0, o, V_q, h _ _ hq, hk⟩
theorem wk_of {X : jX} {d t : Nat} {e : jM} {as : List Value} {V : jH} {Q : jO → jH → Prop} (he : jMs[t]? = some e) (hs : jSum as ≤ e.2.2.2.1) (k : wj X d e (0, lv_args 0 as, [], V) Q) : wk X (d + 1) t as V Q := by
  obtain ⟨f0, o, V_q, hq, hk⟩ := k
  refine ⟨f0, o, V_q, hq, fun g hg => ?_⟩
  unfold jRun
  rw [he]
  simp only
  rw [if_pos hs]
  exact hk g g hg hg
/-- a call that comes back -/
theorem wj_call {X : jX} {d : Nat} {e : jM} {pc t : Nat} {l : jL} {st : List Value} {as : List Value} {V : jH} {S : jS} {Q Q_q : jO → jH → Prop}
    (h : ∀ call r, jBack e e.2.1 pc l st (call t as V) = some r → jStep call X e S = some r) (hk : wk X d t as V Q_q)
    (k : ∀ o V_q, Q_q o V_q → (o = .inl none ∧ wj X d e (pc + 3, l, st, V_q) Q) ∨ (∃ v, o = .inl (some v) ∧ wj X d e (pc + 3, l, v :: st, V_q) Q) ∨ (∃ a c hh, o = .inr a ∧ jExc V_q a = some c ∧ jCatch e.2.1 pc c e.2.2.2.2.2.1 = some hh ∧ wj X d e (hh, l, [.ref a], V_q) Q) ∨ (∃ a c, o = .inr a ∧ jExc V_q a = some c ∧ jCatch e.2.1 pc c e.2.2.2.2.2.1 = none ∧ Q (.inr a) V_q)) : wj X d e S Q := by
  obtain ⟨f1, o, V_q, hq, hr⟩ := hk
  rcases k o V_q hq with ⟨rfl, f2, o2, V2, hq2, hw⟩ | ⟨v, rfl, f2, o2, V2, hq2, hw⟩ | ⟨a, c, hh, rfl, hc, hC, f2, o2, V2, hq2, hw⟩ | ⟨a, c, rfl, hc, hC, hq2⟩
  · refine ⟨f1 + f2 + 1, o2, V2, hq2, fun f g hf hg => ?_⟩
    cases f with
    | zero => exact absurd hf (by omega)
    | succ f =>
      unfold jLoop
      rw [h (jRun X g d) (.inl (pc + 3, l, st, V_q)) (by rw [hr g (by omega)]; rfl)]
      exact hw f g (by omega) (by omega)
  · refine ⟨f1 + f2 + 1, o2, V2, hq2, fun f g hf hg => ?_⟩
    cases f with
    | zero => exact absurd hf (by omega)
    | succ f =>
      unfold jLoop
      rw [h (jRun X g d) (.inl (pc + 3, l, v :: st, V_q)) (by rw [hr g (by omega)]; rfl)]
      exact hw f g (by omega) (by omega)
  · refine ⟨f1 + f2 + 1, o2, V2, hq2, fun f g hf hg => ?_⟩
    cases f with
    | zero => exact absurd hf (by omega)
    | succ f =>
      unfold jLoop
      rw [h (jRun X g d) (.inl (hh, l, [.ref a], V_q)) (by rw [hr g (by omega)]; simp only [jBack, hc, hC])]
      exact hw f g (by omega) (by omega)
  · refine ⟨f1 + 1, .inr a, V_q, hq2, fun f g hf hg => ?_⟩
    cases f with
    | zero => exact absurd hf (by omega)
    | succ f =>
      unfold jLoop
      rw [h (jRun X g d) (.inr (.inr a, V_q)) (by rw [hr g (by omega)]; simp only [jBack, hc, hC])]
