/-! J's heap never shrinks -/
theorem jm_put {V : jH} {a : Nat} {x y : jC} (h : jAt V a = some x) (hs : jSl1 y = jSl1 x) : V.length ≤ (jPut V a y).length ∧ jSl V ≤ jSl (jPut V a y) := by
  obtain ⟨-, hV⟩ := jAt_of h
  unfold jPut
  rw [jSl_set hV hs, List.length_set]
  exact ⟨Nat.le_refl _, Nat.le_refl _⟩
theorem jm_push {V : jH} {x : jC} : V.length ≤ (V ++ [x]).length ∧ jSl V ≤ jSl (V ++ [x]) := by
  rw [jSl_push, List.length_append]
  exact ⟨Nat.le_add_right _ _, Nat.le_add_right _ _⟩
theorem jm_refl {V : jH} : V.length ≤ V.length ∧ jSl V ≤ jSl V := ⟨Nat.le_refl _, Nat.le_refl _⟩
set_option maxHeartbeats 4000000 in
theorem jm_heap {X : jX} {ow : Nat} {ini : Bool} {i : Instr} {n : Nat} {st : List Value} {V : jH} {r : List Value × jH} (h : jHeap X ow ini i n st V = some r) : V.length ≤ r.2.length ∧ jSl V ≤ jSl r.2 := by
  unfold jHeap at h
  split at h
  · split at h
    · split at h
      · obtain ⟨v, hv, rfl⟩ := Option.map_eq_some_iff.mp h
        exact jm_refl
      · cases h
    · cases h
  · split at h
    · rename_i q o hl hat
      split at h
      · split at h
        · cases h
          obtain ⟨oc, fs⟩ := o
          exact jm_put hat rfl
        · cases h
      · cases h
    · cases h
  · split at h
    · split at h
      · cases h; exact jm_refl
      · cases h
    · split at h
      · split at h
        · cases h; exact jm_refl
        · cases h
      · cases h
  · split at h
    · split at h
      · cases h; exact jm_refl
      · cases h
    · split at h
      · cases h; exact jm_refl
      · cases h
    · cases h
  · split at h
    · split at h
      · cases h; exact jm_refl
      · cases h
    · cases h
  · split at h
    · split at h
      · cases h; exact jm_refl
      · cases h
    · cases h
  · split at h
    · rename_i hat
      split at h
      · cases h; exact jm_put hat rfl
      · cases h
    · cases h
  · split at h
    · rename_i hat
      split at h
      · cases h; exact jm_put hat rfl
      · cases h
    · rename_i hat
      split at h
      · cases h; exact jm_put hat rfl
      · cases h
    · cases h
  · split at h
    · rename_i hat
      split at h
      · cases h; exact jm_put hat rfl
      · cases h
    · cases h
  · split at h
    · rename_i hat
      split at h
      · cases h; exact jm_put hat rfl
      · cases h
    · cases h
  · split at h
    · rename_i hat hbt
      split at h
      · cases h; exact jm_put hat rfl
      · cases h
    · cases h
  · split at h
    · cases h; exact jm_refl
    · split at h
      · split at h
        · cases h; exact jm_refl
        · cases h
      · cases h
  · split at h
    · cases h
    · split at h
      · cases h; exact jm_push
      · cases h; exact jm_push
      · cases h; exact jm_push
      · cases h; exact jm_push
      · cases h
  · split at h
    · cases h
    · split at h
      · cases h; exact jm_push
      · cases h
  · split at h
    · split at h
      · cases h; exact jm_push
      · cases h
    · cases h
  · split at h
    · cases h; exact jm_refl
    · cases h; exact jm_refl
    · cases h
  · split at h
    · cases h; exact jm_refl
    · cases h; exact jm_refl
    · cases h
  · split at h
    · cases h; exact jm_refl
    · cases h
  · cases h
/-- calls that never shrink the heap -/
def jMono (call : jCall) : Prop := ∀ t as V o V', call t as V = some (o, V') → V.length ≤ V'.length ∧ jSl V ≤ jSl V'
theorem jm_back {f : jM} {ow pc t : Nat} {l : jL} {st as : List Value} {V : jH} {call : jCall} {r : jR} (hm : jMono call) (h : jBack f ow pc l st (call t as V) = some r) : V.length ≤ (jRh r).length ∧ jSl V ≤ jSl (jRh r) := by
  cases hcl : call t as V with
  | none => rw [hcl] at h; simp [jBack] at h
  | some q =>
    obtain ⟨o, V'⟩ := q
    have h1 := hm t as V o V' hcl
    rw [hcl] at h
    have : jRh r = V' := by
      cases o with
      | inl v => cases v <;> (simp [jBack] at h; rw [← h]; rfl)
      | inr a =>
        simp only [jBack] at h
        split at h
        · split at h <;> (cases h; rfl)
        · cases h
    rw [this]
    exact h1
set_option maxHeartbeats 4000000 in
theorem jm_invoke {call : jCall} {f : jM} {ow n pc : Nat} {i : Instr} {l : jL} {st : List Value} {V : jH} {r : jR} (hm : jMono call) (h : jInvoke call f ow i n pc l st V = some r) : V.length ≤ (jRh r).length ∧ jSl V ≤ jSl (jRh r) := by
  unfold jInvoke at h
  split at h
  · split at h
    · split at h
      · split at h
        · split at h
          · exact jm_back hm h
          · cases h
        · cases h
      · cases h
    · split at h
      · split at h
        · split at h
          · cases h; exact jm_refl
          · cases h
        · cases h
      · cases h
    · split at h
      · split at h
        · split at h
          · cases h; exact jm_refl
          · cases h
        · cases h
      · cases h
    · split at h
      · split at h
        · split at h
          · cases h; exact jm_refl
          · cases h
        · cases h
      · cases h
    · cases h
  · split at h
    · split at h
      · exact jm_back hm h
      · cases h
    · split at h
      · split at h
        · rename_i hat hbt
          split at h
          · cases h; exact jm_put hbt rfl
          · cases h
        · cases h
      · cases h
    · cases h
  · split at h
    · split at h
      · split at h
        · cases h; exact jm_refl
        · cases h
      · cases h
    · split at h
      · split at h
        · split at h
          · exact jm_back hm h
          · cases h
        · cases h
      · cases h
    · cases h
  · cases h
theorem jm_throw {f : jM} {ow n pc : Nat} {i : Instr} {st : List Value} {V : jH} {r : jR} (h : jThrow f ow i n pc st V = some r) : (V.length ≤ (jRh r).length ∧ jSl V ≤ jSl (jRh r)) ∧ ∃ c, 13 ≤ c ∧ c < 18 ∧ r = .inr (.inr (64 + V.length), V ++ [.inr (c, [])]) := by
  unfold jThrow at h
  split at h
  · split at h
    · split at h
      · rename_i hc
        split at h
        · split at h
          · cases h; exact ⟨jm_push, _, hc.1, hc.2.1, rfl⟩
          · cases h
        · cases h
      · cases h
    · split at h
      · rename_i hc
        split at h
        · split at h
          · cases h; exact ⟨jm_push, _, hc.1, hc.2.1, rfl⟩
          · cases h
        · cases h
      · cases h
    · cases h
  · cases h
theorem jm_step {call : jCall} {X : jX} {f : jM} {S : jS} {r : jR} (hm : jMono call) (h : jStep call X f S = some r) : S.2.2.2.length ≤ (jRh r).length ∧ jSl S.2.2.2 ≤ jSl (jRh r) := by
  unfold jStep at h
  split at h
  · cases h
  · split at h
    · cases h; exact jm_refl
    · split at h
      · cases h; exact jm_refl
      · split at h
        · cases h; exact jm_refl
        · split at h
          · rename_i hh
            cases h
            exact jm_heap hh
          · split at h
            · cases h; exact jm_refl
            · split at h
              · rename_i hh
                cases h
                exact jm_invoke hm hh
              · exact (jm_throw h).1
theorem jm_loop {call : jCall} {X : jX} {f : jM} (hm : jMono call) : ∀ (n : Nat) (S : jS) (o : jO) (V' : jH), jLoop call X f n S = some (o, V') → S.2.2.2.length ≤ V'.length ∧ jSl S.2.2.2 ≤ jSl V' := by
  intro n
  induction n with
  | zero => intro S o V' h; cases h
  | succ n ih =>
    intro S o V' h
    unfold jLoop at h
    split at h
    · rename_i S' hs
      have h1 := jm_step hm hs
      have h2 := ih S' o V' h
      exact ⟨Nat.le_trans h1.1 h2.1, Nat.le_trans h1.2 h2.2⟩
    · rename_i q hs
      cases h
      exact jm_step hm hs
    · cases h
theorem jm_run {X : jX} {f : Nat} : ∀ d, jMono (jRun X f d) := by
  intro d
  induction d with
  | zero => intro t as V o V' h; cases h
  | succ d ih =>
    intro t as V o V' h
    unfold jRun at h
    split at h
    · split at h
      · exact jm_loop ih _ _ _ _ h
      · cases h
    · cases h
