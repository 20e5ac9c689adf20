/-! WHAT IS USED in an expression, at a place -/
theorem adR_m {A Ax A_q : Nat → Nat → Int} {uf us us2 s al el u i d : Int} (e0 : Ax = A) (e : A_q = uA Ax 42 i.toNat d) (hi : uf ≤ i) (hi2 : i < us) (hu2 : us2 = us) (hd : d = (i32 (Ax 42 i.toNat) ||| i32 u).toInt) (hk : eqk Ax i s al el) : adR A A_q uf us us2 s al el u := by
  subst e0
  exact Or.inl ⟨i, d, hi, hi2, hu2, hk, hd, e⟩
theorem adR_a {A Ax A1 A2 A3 A_q : Nat → Nat → Int} {uf us us2 s al el el2 u : Int} (e0 : Ax = A) (e1 : A1 = uA Ax 39 us.toNat s) (e2 : A2 = uA A1 40 us.toNat el2) (e3 : A3 = uA A2 41 us.toNat al) (e4 : A_q = uA A3 42 us.toNat u) (hu2 : us2 = us + 1) (hel : (al = 1 ∧ el2 = 0) ∨ (al ≠ 1 ∧ el2 = el)) (hn : NF Ax uf us s al el) : adR A A_q uf us us2 s al el u := by
  subst e0
  refine Or.inr ⟨hu2, hn, A1, A2, A3, e1, ?_, e3, e4⟩
  rw [e2]
  congr 1
  rcases hel with h | h
  · rw [if_pos h.1]
    exact h.2
  · rw [if_neg h.1]
    exact h.2
/-- all of a row is meant by its name -/
def ar1 (k : Int) : Int := if k = 2 ∨ k = 7 ∨ k = 4 then 1 else 0
def rU1 (T : Nat → Nat → Int) (R : Nat → Int) (Q : Us) (x d : Int) : Prop := (d ≠ 0 → iC T (T 18 x.toNat) → Q (T 17 x.toNat) 0 (cv T R (T 18 x.toNat)) d) ∧ (d ≠ 0 → ¬ iC T (T 18 x.toNat) → Q (T 17 x.toNat) 1 0 d)
/-- what is used where a place x is used as d says -/
def rU (T : Nat → Nat → Int) (R : Nat → Int) (E : Us → Int → Prop) (Q : Us) (x d : Int) : Prop := (T 15 x.toNat = 2 → d ≠ 0 → Q (T 17 x.toNat) (ar1 (T 7 (T 17 x.toNat).toNat)) 0 d) ∧ (T 15 x.toNat = 3 → rU1 T R Q x d ∧ E Q (T 18 x.toNat))
def eU (T : Nat → Nat → Int) (R : Nat → Int) : Nat → Us → Int → Prop
  | 0, _, _ => True
  | n + 1, Q, e => (T 15 e.toNat = 2 ∨ T 15 e.toNat = 3 → rU T R (eU T R n) Q e 1) ∧ (T 15 e.toNat = 4 → eU T R n Q (T 18 e.toNat) ∧ eU T R n Q (T 19 e.toNat)) ∧ (T 15 e.toNat = 5 ∨ T 15 e.toNat = 6 ∨ T 15 e.toNat = 7 → eU T R n Q (T 17 e.toNat))
/-- a place: a name, or an element -/
def qX (T : Nat → Nat → Int) (V : Nat → Prop) (sb : Int) (n : Nat) (x lo hi : Int) : Prop := lo ≤ x ∧ x < hi ∧ SY V sb (T 17 x.toNat) ∧ (T 15 x.toNat = 2 ∨ (T 15 x.toNat = 3 ∧ wE T V sb n (T 18 x.toNat) lo x))
theorem qX_e {T : Nat → Nat → Int} {V : Nat → Prop} {sb x lo hi : Int} {n : Nat} (h : qX T V sb n x lo hi) (k : T 15 x.toNat ≠ 2) : wE T V sb n (T 18 x.toNat) lo x ∧ T 15 x.toNat = 3 := by
  rcases h.2.2.2 with w | w
  · exact absurd w k
  · exact ⟨w.2, w.1⟩
theorem qX_wE {T : Nat → Nat → Int} {V : Nat → Prop} {sb e lo hi : Int} {n : Nat} (h : wE T V sb (n + 1) e lo hi) (k : T 15 e.toNat = 2 ∨ T 15 e.toNat = 3) : qX T V sb n e lo hi := by
  have i := wE_in h
  rcases k with k | k
  · exact ⟨i.1, i.2, (wE_i2 h k).1, Or.inl k⟩
  · have z := wE_i3 h k
    exact ⟨i.1, i.2, z.1, Or.inr ⟨k, z.2.2⟩⟩
theorem qX_pX {T : Nat → Nat → Int} {V : Nat → Prop} {sb x lo hi : Int} {n : Nat} (h : pX T V sb n x lo hi) : qX T V sb n x lo hi := by
  obtain ⟨h1, h2, h3, h4 | h4⟩ := h
  · exact ⟨h1, h2, h3, Or.inr ⟨h4.1, h4.2.2⟩⟩
  · exact ⟨h1, h2, h3, Or.inl h4.1⟩
theorem rU1_mon {T : Nat → Nat → Int} {R : Nat → Int} {x d : Int} : Mon (fun Q => rU1 T R Q x d) := fun U U' s h => ⟨fun a b => s _ _ _ _ (h.1 a b), fun a b => s _ _ _ _ (h.2 a b)⟩
theorem rU_mon {T : Nat → Nat → Int} {R : Nat → Int} {E : Us → Int → Prop} {x d : Int} (m : ∀ e, Mon (fun Q => E Q e)) : Mon (fun Q => rU T R E Q x d) := fun U U' s h => ⟨fun a b => s _ _ _ _ (h.1 a b), fun a => ⟨rU1_mon U U' s (h.2 a).1, m _ U U' s (h.2 a).2⟩⟩
theorem eU_mon {T : Nat → Nat → Int} {R : Nat → Int} : ∀ {n : Nat} {e : Int}, Mon (fun Q => eU T R n Q e)
  | 0, _ => fun _ _ _ h => h
  | n + 1, e => fun U U' s h => ⟨fun a => rU_mon (fun _ => eU_mon) U U' s (h.1 a), fun a => ⟨eU_mon U U' s (h.2.1 a).1, eU_mon U U' s (h.2.1 a).2⟩, fun a => eU_mon U U' s (h.2.2 a)⟩
/-- a name is used -/
theorem ur_var {Fm : Int → Int → Int → Prop} {T A A_q : Nat → Nat → Int} {R : Nat → Int} {E : Us → Int → Prop} {uf us us2 s al x d : Int} (h : UI Fm A uf us) (hs : s = T 17 x.toNat) (k : T 15 x.toNat = 2) (hd : 1 ≤ d ∧ d ≤ 15) (ha : al = ar1 (T 7 (T 17 x.toNat).toNat)) (z : rU T R E (fun s al e _ => Fm s al e) x d) (ad : adR A A_q uf us us2 s al 0 d) : UI Fm A_q uf us2 ∧ UX A A_q uf us us2 (fun Q => rU T R E Q x d) := by
  subst hs
  have a01 : al = 0 ∨ al = 1 := by
    rw [ha]
    unfold ar1
    split
    · exact Or.inr rfl
    · exact Or.inl rfl
  have e0 : (if al = 1 then 0 else (0 : Int)) = 0 := by split <;> rfl
  have f := z.1 k (by omega)
  rw [← ha] at f
  obtain ⟨u1, u2⟩ := UX_ad h (by omega) a01 (by rw [e0]; exact f) ad
  refine ⟨u1, UX_z (fun Q => ⟨fun w => ?_, fun w => ⟨fun _ _ => ?_, fun w_q => absurd (k.symm.trans w_q) (by decide)⟩⟩) u2⟩
  · rw [e0, ha]
    exact w.1 k (by omega)
  · rw [← ha]
    have w : Q (T 17 x.toNat) al (if al = 1 then 0 else 0) d := w
    rw [e0] at w
    exact w
theorem ur_var0 {T A : Nat → Nat → Int} {R : Nat → Int} {E : Us → Int → Prop} {uf us x d : Int} (k : T 15 x.toNat = 2) (hd : d = 0) : UX A A uf us us (fun Q => rU T R E Q x d) := UX_z (fun Q => ⟨fun _ => trivial, fun _ => ⟨fun _ w => absurd hd w, fun w_q => absurd (k.symm.trans w_q) (by decide)⟩⟩) UX_0
/-- an element: the name first -/
theorem ur_el {Fm : Int → Int → Int → Prop} {T A A_q : Nat → Nat → Int} {R : Nat → Int} {E : Us → Int → Prop} {uf us us2 s al el x d : Int} (h : UI Fm A uf us) (hs : s = T 17 x.toNat) (k : T 15 x.toNat = 3) (hd : 1 ≤ d ∧ d ≤ 15) (ha : (iC T (T 18 x.toNat) ∧ al = 0 ∧ el = cv T R (T 18 x.toNat)) ∨ (¬ iC T (T 18 x.toNat) ∧ al = 1)) (z : rU T R E (fun s al e _ => Fm s al e) x d) (ad : adR A A_q uf us us2 s al el d) : UI Fm A_q uf us2 ∧ UX A A_q uf us us2 (fun Q => rU1 T R Q x d) := by
  subst hs
  have z1 := (z.2 k).1
  rcases ha with ⟨i, a0, e0⟩ | ⟨i, a1⟩
  · subst a0
    have i0 : (if (0 : Int) = 1 then 0 else el) = el := if_neg (by decide)
    obtain ⟨u1, u2⟩ := UX_ad h (by omega) (Or.inl rfl) (by rw [i0, e0]; exact z1.1 (by omega) i) ad
    refine ⟨u1, UX_z (fun Q => ⟨fun w => ?_, fun w => ⟨fun _ _ => ?_, fun _ n => absurd i n⟩⟩) u2⟩
    · rw [i0, e0]
      exact w.1 (by omega) i
    · have w : Q (T 17 x.toNat) 0 (if (0 : Int) = 1 then 0 else el) d := w
      rw [i0, e0] at w
      exact w
  · subst a1
    have i0 : (if (1 : Int) = 1 then 0 else el) = 0 := if_pos rfl
    obtain ⟨u1, u2⟩ := UX_ad h (by omega) (Or.inr rfl) (by rw [i0]; exact z1.2 (by omega) i) ad
    refine ⟨u1, UX_z (fun Q => ⟨fun w => ?_, fun w => ⟨fun _ n => absurd n i, fun _ _ => ?_⟩⟩) u2⟩
    · rw [i0]
      exact w.2 (by omega) i
    · have w : Q (T 17 x.toNat) 1 (if (1 : Int) = 1 then 0 else el) d := w
      rw [i0] at w
      exact w
theorem ur_el0 {T A : Nat → Nat → Int} {R : Nat → Int} {uf us x d : Int} (hd : d = 0) : UX A A uf us us (fun Q => rU1 T R Q x d) := UX_z (fun Q => ⟨fun _ => trivial, fun _ => ⟨fun w => absurd hd w, fun w => absurd hd w⟩⟩) UX_0
/-- .. then its index -/
theorem ur_ix {T A A1 A2 : Nat → Nat → Int} {R : Nat → Int} {E : Us → Int → Prop} {uf us us1 us2 x d : Int} (h0 : 0 ≤ uf) (k : T 15 x.toNat = 3) (h : UX A A1 uf us us1 (fun Q => rU1 T R Q x d)) (g : UX A1 A2 uf us1 us2 (fun Q => E Q (T 18 x.toNat))) : UX A A2 uf us us2 (fun Q => rU T R E Q x d) :=
  UX_z (fun Q => ⟨fun w => w.2 k, fun w => ⟨fun w_q => absurd (k.symm.trans w_q) (by decide), fun _ => w⟩⟩) (UX_t h0 rU1_mon h g)
/-- expressions -/
theorem ue_1 {T A : Nat → Nat → Int} {R : Nat → Int} {uf us e : Int} {n : Nat} (k : T 15 e.toNat = 1) : UX A A uf us us (fun Q => eU T R (n + 1) Q e) := UX_z (fun Q => ⟨fun _ => trivial, fun _ => ⟨fun w => by omega, fun w => by omega, fun w => by omega⟩⟩) UX_0
theorem ue_r {T A A_q : Nat → Nat → Int} {R : Nat → Int} {uf us us2 e : Int} {n : Nat} (k : T 15 e.toNat = 2 ∨ T 15 e.toNat = 3) (h : UX A A_q uf us us2 (fun Q => rU T R (eU T R n) Q e 1)) : UX A A_q uf us us2 (fun Q => eU T R (n + 1) Q e) := UX_z (fun Q => ⟨fun w => w.1 k, fun w => ⟨fun _ => w, fun w_q => by omega, fun w_q => by omega⟩⟩) h
theorem ue_2 {T A A1 A2 : Nat → Nat → Int} {R : Nat → Int} {uf us us1 us2 e : Int} {n : Nat} (h0 : 0 ≤ uf) (k : T 15 e.toNat = 4) (h : UX A A1 uf us us1 (fun Q => eU T R n Q (T 18 e.toNat))) (g : UX A1 A2 uf us1 us2 (fun Q => eU T R n Q (T 19 e.toNat))) : UX A A2 uf us us2 (fun Q => eU T R (n + 1) Q e) := UX_z (fun Q => ⟨fun w => w.2.1 k, fun w => ⟨fun w_q => by omega, fun _ => w, fun w_q => by omega⟩⟩) (UX_t h0 eU_mon h g)
theorem ue_5 {T A A_q : Nat → Nat → Int} {R : Nat → Int} {uf us us2 e : Int} {n : Nat} (k : T 15 e.toNat = 5 ∨ T 15 e.toNat = 6 ∨ T 15 e.toNat = 7) (h : UX A A_q uf us us2 (fun Q => eU T R n Q (T 17 e.toNat))) : UX A A_q uf us us2 (fun Q => eU T R (n + 1) Q e) := UX_z (fun Q => ⟨fun w => w.2.2 k, fun w => ⟨fun w_q => by omega, fun w_q => by omega, fun _ => w⟩⟩) h
