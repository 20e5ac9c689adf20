/-! THE LAW: from its start on -/
def Gs0 (i : Nat) : Int := if i = 17 ∨ i = 18 then -1 else 0
def As0 (_ _ : Nat) : Int := 0
def tgs0 (a : Int) : Int := if a = 64 then 1 else if a = 65 then 20 else if a = 153 then 22 else 0
def lns0 (a : Int) : Int := if a = 65 then 3000 else if a = 153 then 1 else 0
def Fs0 (a q : Int) : Int := if a = 64 ∧ q = 0 then 65 else if a = 64 ∧ (q = 3 ∨ q = 4) then -1 else if a = 65 ∧ q = -1 then 4 else 0
set_option maxRecDepth 100000 in
theorem st_V : jzv181 = cV (rR Gs0 As0) 90 tgs0 lns0 Fs0 := rfl
theorem own_0 {a : Int} (o : own 90 a) : a = 64 ∨ a = 65 ∨ a = 153 := by
  have h1 := o.1
  have h2 := o.2.1
  have h3 := o.2.2
  omega
theorem own_64 : own 90 64 := ⟨by decide, by decide, by decide⟩
theorem own_65 : own 90 65 := ⟨by decide, by decide, by decide⟩
theorem own_153 : own 90 153 := ⟨by decide, by decide, by decide⟩
theorem HC_0 : HC 0 90 tgs0 lns0 Fs0 := by
  refine ⟨by decide, fun a o c q ht hq => ?_, fun a o h => ?_, fun a o h j hj => ?_, fun a o h j hj => ?_, fun a o _ => ?_⟩
  · rcases own_0 o with rfl | rfl | rfl
    · have hc : c = 0 := by
        have w : (1 : Int) = (c : Int) + 1 := ht
        omega
      subst hc
      have hq7 : q < 7 := hq
      have hs : q = 0 ∨ q = 1 ∨ q = 2 ∨ q = 3 ∨ q = 4 ∨ q = 5 ∨ q = 6 := by omega
      rcases hs with rfl | rfl | rfl | rfl | rfl | rfl | rfl
      · exact ⟨fun h => absurd h (by decide), fun _ => Or.inr ⟨own_65, rfl, fun _ => rfl, fun _ => rfl⟩, fun _ _ => by decide⟩
      · exact ⟨fun _ => by decide, fun _ => Or.inl rfl, fun h => absurd h (by decide)⟩
      · exact ⟨fun _ => by decide, fun _ => Or.inl rfl, fun h => absurd h (by decide)⟩
      · exact ⟨fun _ => by decide, fun h => absurd h (by decide), fun h => absurd h (by decide)⟩
      · exact ⟨fun _ => by decide, fun h => absurd h (by decide), fun h => absurd h (by decide)⟩
      · exact ⟨fun h => absurd h (by decide), fun _ => Or.inl rfl, fun h => absurd h (by decide)⟩
      · exact ⟨fun h => absurd h (by decide), fun _ => Or.inl rfl, fun h => absurd h (by decide)⟩
    · have hc : c = 19 := by
        have w : (20 : Int) = (c : Int) + 1 := ht
        omega
      subst hc
      exact absurd (show q < 0 from hq) (Nat.not_lt_zero q)
    · have hc : c = 21 := by
        have w : (22 : Int) = (c : Int) + 1 := ht
        omega
      subst hc
      exact absurd (show q < 0 from hq) (Nat.not_lt_zero q)
  · rcases own_0 o with rfl | rfl | rfl
    · exact absurd h (by decide)
    · exact ⟨by decide, by decide⟩
    · exact ⟨by decide, by decide⟩
  · rcases own_0 o with rfl | rfl | rfl
    · exact absurd h (by decide)
    · have e : Fs0 65 j = 0 := by
        unfold Fs0
        rw [if_neg (fun w => absurd w.1 (by decide)), if_neg (fun w => absurd w.1 (by decide)), if_neg (by omega)]
      rw [e]
      exact ⟨by decide, by decide⟩
    · exact absurd h (by decide)
  · rcases own_0 o with rfl | rfl | rfl
    · exact absurd h (by decide)
    · exact absurd h (by decide)
    · exact absurd h (by decide)
  · rcases own_0 o with rfl | rfl | rfl
    · exact ⟨fun w => absurd w (by decide), fun w => absurd w (by decide)⟩
    · exact ⟨fun w => absurd w (by decide), fun w => absurd w (by decide)⟩
    · exact ⟨fun w => absurd w (by decide), fun w => absurd w (by decide)⟩
theorem tag_0 {a t : Int} (o : own 90 a) (h : tgs0 a = t) : t = 1 ∨ t = 20 ∨ t = 22 := by
  rcases own_0 o with rfl | rfl | rfl
  · exact Or.inl h.symm
  · exact Or.inr (Or.inl h.symm)
  · exact Or.inr (Or.inr h.symm)
theorem NP_0 : NP 90 tgs0 Fs0 := ⟨⟨fun a o t _ => absurd (tag_0 o t) (by decide), fun a o t => absurd (tag_0 o t) (by decide)⟩, ⟨fun a o t _ _ _ => absurd (tag_0 o t) (by decide), fun a o t => absurd (tag_0 o t) (by decide)⟩, fun a o t _ _ _ _ => absurd (tag_0 o t) (by decide)⟩
theorem SB_0 {k : Int} : SB 90 tgs0 Fs0 k := fun a o t => absurd (tag_0 o t) (by decide)
theorem T3_0 : T3 90 tgs0 := fun a o t => absurd (tag_0 o t) (by decide)
set_option maxRecDepth 100000 in
theorem Wk_0 : Wk Gs0 As0 := by
  constructor
  · intro i
    by_cases h : i < 122
    · have k : ∀ i : Fin 122, gLo i.1 ≤ Gs0 i.1 ∧ Gs0 i.1 ≤ gHi i.1 := by decide +kernel
      exact k ⟨i, h⟩
    · have e : gB.getD i (-2147483648, 2147483647) = (-2147483648, 2147483647) := by
        rw [List.getD_eq_getElem?_getD, List.getElem?_eq_none (show gB.length ≤ i from Nat.le_trans (Nat.le_of_ble_eq_true rfl) (Nat.le_of_not_lt h))]
        rfl
      have g : Gs0 i = 0 := if_neg (by omega)
      unfold gLo gHi
      rw [e, g]
      decide
  · intro k n
    show aLo k ≤ 0 ∧ 0 ≤ aHi k
    by_cases h : k < 86
    · have w : ∀ i : Fin 86, aLo i.1 ≤ 0 ∧ 0 ≤ aHi i.1 := by decide +kernel
      exact w ⟨k, h⟩
    · have e : aB.getD k (-2147483648, 2147483647) = (-2147483648, 2147483647) := by
        rw [List.getD_eq_getElem?_getD, List.getElem?_eq_none (show aB.length ≤ k from Nat.le_trans (Nat.le_of_ble_eq_true rfl) (Nat.le_of_not_lt h))]
        rfl
      unfold aLo aHi
      rw [e]
      decide
theorem RI_st : RI Gs0 As0 0 := ⟨Wk_0, ⟨by decide, by decide, by decide⟩, ⟨by decide, by decide⟩, fun h => absurd h (by decide), fun h => absurd h (by decide)⟩
theorem szD_0 : szD 90 tgs0 lns0 = 3028 := by decide +kernel
theorem p2_goal : ∀ (L : Nat) (xs : Nat → Int32), L ≤ 2048 → ∃ (fu d : Nat) (VF : jH), d + 1 ≤ 1300 ∧ jRun (L, xs) fu (d + 1) 18 [.ref 63] [] = some (.inl (some (.int 1)), VF) ∧ VF.length ≤ 601024 ∧ jSl VF ≤ 7293034 := fun L xs hL => by
  have hw : wk (L, xs) (1299 + 1) 18 [.ref 63] [] (fun o V => o = .inl (some (.int (i32 1))) ∧ V.length ≤ 601024 ∧ jSl V ≤ 7293034) := by
    refine wk_of (e := jm18) rfl (Nat.le_of_ble_eq_true rfl) ?_
    refine jzl3 (by decide) ?_
    rw [st_V]
    exact law_loop (X := (L, xs)) hL (by decide) _ _ Gs0 As0 90 tgs0 lns0 Fs0 0 0 rfl rfl rfl rfl rfl rfl HC_0 NP_0 SB_0 T3_0 RI_st ⟨own_64, rfl⟩ ⟨own_153, rfl⟩ rfl rfl ⟨by decide, by decide⟩ (by show (0 : Int) ≤ (L : Int); omega) rfl (by rw [szD_0]; decide) (by decide)
  obtain ⟨f0, o, V_q, ⟨h1, h2, h3⟩, hr⟩ := hw
  refine ⟨f0, 1299, V_q, by decide, ?_, h2, h3⟩
  rw [hr f0 (Nat.le_refl _), h1]
  rfl
