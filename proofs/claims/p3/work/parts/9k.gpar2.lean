/-! PAR keeps the rules: its steps -/
/-- of two branches' rights -/
theorem Kc_frn {T : Nat → Nat → Int} {F : Int → Int} {nw : Int} {V : Nat → Prop} {U : Us} {z f mk d e : Int} {u w : Int × Int × Int × Int} {q s : Cp} (hG : Eg T F nw V U z f) (hq : KcC T F nw V mk d u q) (hs : KcC T F nw V mk e w s) (uu : U u.1 u.2.1 u.2.2.1 u.2.2.2) (uw : U w.1 w.2.1 w.2.2.1 w.2.2.2) (hc : u.1 = w.1 → (u.2.1 = 1 ∨ w.2.1 = 1 ∨ u.2.2.1 = w.2.2.1 ∨ T 7 u.1.toNat ≠ 4) → NC u.2.2.2 w.2.2.2) : Frn d q e s := by
  obtain ⟨g1, g2, g3, g4⟩ := hG
  obtain ⟨u0, uv, um, a⟩ := hq
  obtain ⟨w0, wv, wm, b⟩ := hs
  have eu : ((u.1.toNat : Nat) : Int) = u.1 := by omega
  have ew : ((w.1.toNat : Nat) : Int) = w.1 := by omega
  have gu := fun k => g2 u.1.toNat uv k
  have gw := fun k => g2 w.1.toNat wv k
  rw [eu] at gu
  rw [ew] at gw
  have g1' := g1 u.1.toNat w.1.toNat uv wv
  have g3' := g3 u.1.toNat w.1.toNat uv wv
  rw [eu, ew] at g1' g3'
  have ne : u.1 ≠ w.1 → u.1.toNat ≠ w.1.toNat := fun x y => x (by omega)
  have n48 : ¬ (T 7 u.1.toNat = 8 ∧ 11 ≤ T 7 w.1.toNat ∧ T 7 w.1.toNat ≤ 13) ∧ ¬ (T 7 w.1.toNat = 8 ∧ 11 ≤ T 7 u.1.toNat ∧ T 7 u.1.toNat ≤ 13) := by
    rcases g4 with g4 | g4
    · exact ⟨fun y => g4 _ uv y.1, fun y => g4 _ wv y.1⟩
    · have y1 := g4 u.1.toNat _ _ _ uv (by rw [eu]; exact uu)
      have y2 := g4 w.1.toNat _ _ _ wv (by rw [ew]; exact uw)
      omega
  intro _ _
  -- what each is: kind, stretch (in words of the frame around), bits
  have form : ∀ {u : Int × Int × Int × Int} {q : Cp} {d : Int}, ((T 7 u.1.toNat = 3 ∧ q = (2, wd T F nw u.1 + d, 1, u.2.2.2, r0)) ∨ (T 7 u.1.toNat = 4 ∧ u.2.1 = 1 ∧ q = (2, wd T F nw u.1 + d, T 8 u.1.toNat, u.2.2.2, r0)) ∨ (T 7 u.1.toNat = 4 ∧ u.2.1 ≠ 1 ∧ 0 ≤ u.2.2.1 ∧ u.2.2.1 < T 8 u.1.toNat ∧ q = (2, wd T F nw u.1 + u.2.2.1 + d, 1, u.2.2.2, r0)) ∨ (T 7 u.1.toNat = 8 ∧ q = (4, wd T F nw u.1 + d, 1, u.2.2.2, r0)) ∨ (11 ≤ T 7 u.1.toNat ∧ T 7 u.1.toNat ≤ 13 ∧ q = (5, adv T F nw u.1, 1, u.2.2.2, r0))) → (T 7 u.1.toNat = 3 → T 8 u.1.toNat = 1) → qU q = u.2.2.2 ∧ (((T 7 u.1.toNat = 3 ∨ T 7 u.1.toNat = 4) ∧ qK q = 2 ∧ wd T F nw u.1 ≤ qO q - d ∧ qO q - d + qN q ≤ wd T F nw u.1 + T 8 u.1.toNat ∧ (T 7 u.1.toNat = 4 → u.2.1 ≠ 1 → qO q - d = wd T F nw u.1 + u.2.2.1 ∧ qN q = 1)) ∨ (T 7 u.1.toNat = 8 ∧ qK q = 4 ∧ qO q - d = wd T F nw u.1) ∨ (11 ≤ T 7 u.1.toNat ∧ T 7 u.1.toNat ≤ 13 ∧ qK q = 5 ∧ qO q = adv T F nw u.1)) := fun {u q d} a h3 => by
    rcases a with a | a | a | a | a
    · have := h3 a.1
      rw [a.2]
      exact ⟨rfl, Or.inl ⟨Or.inl a.1, rfl, by show wd T F nw u.1 ≤ wd T F nw u.1 + d - d; omega, by show wd T F nw u.1 + d - d + 1 ≤ _; omega, fun k => by omega⟩⟩
    · rw [a.2.2]
      exact ⟨rfl, Or.inl ⟨Or.inr a.1, rfl, by show wd T F nw u.1 ≤ wd T F nw u.1 + d - d; omega, by show wd T F nw u.1 + d - d + T 8 u.1.toNat ≤ _; omega, fun _ k => absurd a.2.1 k⟩⟩
    · rw [a.2.2.2.2]
      exact ⟨rfl, Or.inl ⟨Or.inr a.1, rfl, by show wd T F nw u.1 ≤ wd T F nw u.1 + u.2.2.1 + d - d; omega, by show wd T F nw u.1 + u.2.2.1 + d - d + 1 ≤ _; omega, fun _ _ => ⟨by show wd T F nw u.1 + u.2.2.1 + d - d = _; omega, rfl⟩⟩⟩
    · rw [a.2]
      exact ⟨rfl, Or.inr (Or.inl ⟨a.1, rfl, by show wd T F nw u.1 + d - d = _; omega⟩)⟩
    · rw [a.2.2]
      exact ⟨rfl, Or.inr (Or.inr ⟨a.1, a.2.1, rfl, rfl⟩)⟩
  obtain ⟨qu, fa⟩ := form a (fun k => (gu (by omega)).2.2.1 (Or.inl k))
  obtain ⟨su, fb⟩ := form b (fun k => (gw (by omega)).2.2.1 (Or.inl k))
  rw [qu, su]
  by_cases same : u.1 = w.1
  · by_cases el : u.2.1 = 1 ∨ w.2.1 = 1 ∨ u.2.2.1 = w.2.2.1 ∨ T 7 u.1.toNat ≠ 4
    · exact Or.inl (hc same el)
    · have et : T 7 u.1.toNat = T 7 w.1.toNat := by rw [same]
      have ewd : wd T F nw u.1 = wd T F nw w.1 := by rw [same]
      rcases fa with fa | fa | fa <;> rcases fb with fb | fb | fb <;> first | omega | skip
      have k4 : T 7 u.1.toNat = 4 := by omega
      have y1 := fa.2.2.2.2 k4 (by omega)
      have y2 := fb.2.2.2.2 (by omega) (by omega)
      refine Or.inr (Or.inl ⟨fa.2.1, fb.2.1, fun v => ?_⟩)
      unfold Ov at v
      omega
  · have ne' := ne same
    rcases fa with fa | fa | fa <;> rcases fb with fb | fb | fb
    · refine Or.inr (Or.inl ⟨fa.2.1, fb.2.1, fun v => ?_⟩)
      have := g1' ne' (by omega) (by omega)
      unfold Ov at v this
      omega
    · exact Or.inr (Or.inr (Or.inr (Or.inr (Or.inr (Or.inr (Or.inl ⟨fa.2.1, fb.2.1⟩))))))
    · exact Or.inr (Or.inr (Or.inr (Or.inr (Or.inl ⟨fa.2.1, fb.2.2.1⟩))))
    · exact Or.inr (Or.inr (Or.inr (Or.inr (Or.inr (Or.inr (Or.inr ⟨fa.2.1, fb.2.1⟩))))))
    · have t8 := (gu (by omega)).2.2.1 (Or.inr fa.1)
      have t8' := (gw (by omega)).2.2.1 (Or.inr fb.1)
      have := g1' ne' (by omega) (by omega)
      refine Or.inr (Or.inr (Or.inl ⟨fa.2.1, fb.2.1, fun v => ?_⟩))
      unfold Ov at this
      omega
    · exact absurd ⟨fa.1, fb.1, fb.2.1⟩ n48.1
    · exact Or.inr (Or.inr (Or.inr (Or.inr (Or.inr (Or.inl ⟨fa.2.2.1, fb.2.1⟩)))))
    · exact absurd ⟨fb.1, fa.1, fa.2.1⟩ n48.2
    · refine Or.inr (Or.inr (Or.inr (Or.inl ⟨fa.2.2.1, fb.2.2.1, ?_⟩)))
      rw [fa.2.2.2, fb.2.2.2]
      exact g3' ne' ⟨_, _, _, uu⟩ ⟨_, _, _, uw⟩ fa.1 fa.2.1 fb.1 fb.2.1
