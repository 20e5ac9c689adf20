/-! WHAT IS USED in a process -/
/-- rows: those before c are done -/
def UXq (T : Nat → Nat → Int) (W : Us → Int → Prop) (A A_q : Nat → Nat → Int) (uf us us2 n c : Int) : Prop := ∃ u v : List Int, CH T (T 21 n.toNat) (u ++ v) ∧ CH T c v ∧ UX A A_q uf us us2 (fun Q => ∀ x ∈ u, W Q x)
theorem UXq_0 {T : Nat → Nat → Int} {W : Us → Int → Prop} {A : Nat → Nat → Int} {uf us n c : Int} (h : ∃ l, CH T (T 21 n.toNat) l) (hc : c = T 21 n.toNat) : UXq T W A A uf us us n c := by
  obtain ⟨l, h⟩ := h
  exact ⟨[], l, h, hc ▸ h, UX_z (fun Q => ⟨fun _ => trivial, fun _ x hx => absurd hx List.not_mem_nil⟩) UX_0⟩
theorem Mon_l {W : Us → Int → Prop} {u : List Int} (m : ∀ x, Mon (fun Q => W Q x)) : Mon (fun Q => ∀ x ∈ u, W Q x) := fun U U' s h x hx => m x U U' s (h x hx)
theorem UXq_nx {T : Nat → Nat → Int} {W : Us → Int → Prop} {A A1 A2 : Nat → Nat → Int} {uf us us1 us2 n c d : Int} (h0 : 0 ≤ uf) (h : UXq T W A A1 uf us us1 n c) (hc : 0 < c) (hd : d = T 22 c.toNat) (m : ∀ x, Mon (fun Q => W Q x)) (g : UX A1 A2 uf us1 us2 (fun Q => W Q c)) : UXq T W A A2 uf us us2 n d := by
  obtain ⟨u, v, g1, g2, g3⟩ := h
  cases v with
  | nil =>
    have : c = 0 := g2
    omega
  | cons e v =>
    obtain ⟨rfl, _, g4⟩ := g2
    refine ⟨u ++ [c], v, ?_, hd ▸ g4, UX_z (fun Q => ⟨fun w => ⟨fun x hx => w x (List.mem_append.mpr (Or.inl hx)), w c (List.mem_append.mpr (Or.inr (List.mem_singleton.mpr rfl)))⟩, fun w x hx => ?_⟩) (UX_t h0 (Mon_l m) g3 g)⟩
    · rw [List.append_assoc]
      exact g1
    · rcases List.mem_append.mp hx with hx | hx
      · exact w.1 x hx
      · rw [List.mem_singleton.mp hx]
        exact w.2
theorem UXq_end {T : Nat → Nat → Int} {W : Us → Int → Prop} {A A_q : Nat → Nat → Int} {uf us us2 n c : Int} (h : UXq T W A A_q uf us us2 n c) (hc : c ≤ 0) : UX A A_q uf us us2 (fun Q => ∀ l, CH T (T 21 n.toNat) l → ∀ x ∈ l, W Q x) := by
  obtain ⟨u, v, g1, g2, g3⟩ := h
  cases v with
  | cons e v =>
    obtain ⟨g4, g5, _⟩ := g2
    omega
  | nil =>
    rw [List.append_nil] at g1
    exact UX_z (fun Q => ⟨fun w => w u g1, fun w l hl x hx => w x (CH_u hl g1 ▸ hx)⟩) g3
/-- an argument -/
def aU (T : Nat → Nat → Int) (Bu : Int → Int) (R : Nat → Int) (Q : Us) (a : Int) : Prop := (T 7 (T 18 a.toNat).toNat = 5 → eU T R 30 Q (T 17 a.toNat)) ∧ (T 7 (T 18 a.toNat).toNat ≠ 5 → rU T R (eU T R 30) Q (T 17 a.toNat) (Bu (T 18 a.toNat)) ∧ (T 15 (T 17 a.toNat).toNat = 3 → eU T R 30 Q (T 18 (T 17 a.toNat).toNat)))
/-- a choice, a guard -/
def cU (T : Nat → Nat → Int) (R : Nat → Int) (W : Us → Int → Prop) (Q : Us) (c : Int) : Prop := (0 < T 17 c.toNat → eU T R 30 Q (T 17 c.toNat)) ∧ (T 15 c.toNat = 33 → 0 < T 18 c.toNat → rU T R (eU T R 30) Q (T 18 c.toNat) 8 ∧ rU T R (eU T R 30) Q (T 19 c.toNat) 2) ∧ W Q (T 21 c.toNat)
def vS (T : Nat → Nat → Int) (Bu : Int → Int) (W : (Int → Int) → Us → Int → Prop) (S : Int → Int) (Q : Us) (p : Int) : Prop :=
  (T 15 p.toNat = 22 → eU T (Rf S) 30 Q (T 18 p.toNat) ∧ rU T (Rf S) (eU T (Rf S) 30) Q (T 17 p.toNat) 2) ∧
  (T 15 p.toNat = 23 → eU T (Rf S) 30 Q (T 18 p.toNat) ∧ rU T (Rf S) (eU T (Rf S) 30) Q (T 17 p.toNat) 4) ∧
  (T 15 p.toNat = 24 → rU T (Rf S) (eU T (Rf S) 30) Q (T 17 p.toNat) 8 ∧ rU T (Rf S) (eU T (Rf S) 30) Q (T 18 p.toNat) 2) ∧
  (T 15 p.toNat = 25 → ∀ l, CH T (T 21 p.toNat) l → ∀ a ∈ l, aU T Bu (Rf S) Q a) ∧
  (T 15 p.toNat = 26 ∨ T 15 p.toNat = 28 → ∀ l, CH T (T 21 p.toNat) l → ∀ c ∈ l, W S Q c) ∧
  (T 15 p.toNat = 27 → (eU T (Rf S) 30 Q (T 19 p.toNat) ∧ eU T (Rf S) 30 Q (T 20 p.toNat)) ∧ W S Q (T 21 p.toNat)) ∧
  (T 15 p.toNat = 29 → ∀ k : Nat, (k : Int) < T 20 p.toNat → W (sB T S p k) Q (T 21 p.toNat)) ∧
  (T 15 p.toNat = 31 → eU T (Rf S) 30 Q (T 17 p.toNat) ∧ W S Q (T 21 p.toNat)) ∧
  (T 15 p.toNat = 30 ∨ T 15 p.toNat = 32 → ∀ l, CH T (T 21 p.toNat) l → ∀ c ∈ l, cU T (Rf S) (W S) Q c)
def vP (T : Nat → Nat → Int) (Bu : Int → Int) : Nat → (Int → Int) → Us → Int → Prop
  | 0, _, _, _ => True
  | n + 1, S, Q, p => vS T Bu (vP T Bu n) S Q p
theorem aU_mon {T : Nat → Nat → Int} {Bu : Int → Int} {R : Nat → Int} {a : Int} : Mon (fun Q => aU T Bu R Q a) := fun U U' s h => ⟨fun k => eU_mon U U' s (h.1 k), fun k => ⟨rU_mon (fun _ => eU_mon) U U' s (h.2 k).1, fun j => eU_mon U U' s ((h.2 k).2 j)⟩⟩
theorem cU_mon {T : Nat → Nat → Int} {R : Nat → Int} {W : Us → Int → Prop} {c : Int} (m : ∀ x, Mon (fun Q => W Q x)) : Mon (fun Q => cU T R W Q c) := fun U U' s h => ⟨fun k => eU_mon U U' s (h.1 k), fun k j => ⟨rU_mon (fun _ => eU_mon) U U' s (h.2.1 k j).1, rU_mon (fun _ => eU_mon) U U' s (h.2.1 k j).2⟩, m _ U U' s h.2.2⟩
theorem vP_mon {T : Nat → Nat → Int} {Bu : Int → Int} : ∀ {n : Nat} {S : Int → Int} {p : Int}, Mon (fun Q => vP T Bu n S Q p)
  | 0, _, _ => fun _ _ _ h => h
  | n + 1, S, p => fun U U' s ⟨h1, h2, h3, h4, h5, h6, h7, h8, h9⟩ =>
    have r : ∀ {x d}, rU T (Rf S) (eU T (Rf S) 30) U x d → rU T (Rf S) (eU T (Rf S) 30) U' x d := fun w => rU_mon (fun _ => eU_mon) U U' s w
    have e : ∀ {x}, eU T (Rf S) 30 U x → eU T (Rf S) 30 U' x := fun w => eU_mon U U' s w
    ⟨fun k => ⟨e (h1 k).1, r (h1 k).2⟩, fun k => ⟨e (h2 k).1, r (h2 k).2⟩, fun k => ⟨r (h3 k).1, r (h3 k).2⟩, fun k l hl a ha => aU_mon U U' s (h4 k l hl a ha), fun k l hl c hc => vP_mon U U' s (h5 k l hl c hc), fun k => ⟨⟨e (h6 k).1.1, e (h6 k).1.2⟩, vP_mon U U' s (h6 k).2⟩, fun k j hj => vP_mon U U' s (h7 k j hj), fun k => ⟨e (h8 k).1, vP_mon U U' s (h8 k).2⟩, fun k l hl c hc => cU_mon (fun _ => vP_mon) U U' s (h9 k l hl c hc)⟩
/-- the values of the names of kind 10 that are seen are what counts -/
theorem bK_sy {T : Nat → Nat → Int} {V : Nat → Prop} {sb e lo hi : Int} {n : Nat} (w : wE T V sb n e lo hi) : wE T V sb n (bK T 30 e) lo hi := bK_w w
def Agr (T : Nat → Nat → Int) (V : Nat → Prop) (R R_q : Nat → Int) : Prop := ∀ s : Nat, V s → T 7 s = 10 → R_q s = R s
theorem cP_agr {T : Nat → Nat → Int} {V : Nat → Prop} {R R_q : Nat → Int} {sb e lo hi : Int} {n : Nat} (h : Agr T V R R_q) (w : wE T V sb n e lo hi) (k : pC T e) : cP T R_q e = cP T R e := by
  unfold cP
  rcases k with k | ⟨k, k10⟩
  · rw [if_pos k, if_pos k]
  · rw [if_neg (by omega), if_neg (by omega)]
    obtain ⟨m, rfl⟩ := wE_pos w
    exact h _ (wE_i2 w k).1.2.2 k10
theorem cv_agr {T : Nat → Nat → Int} {V : Nat → Prop} {R R_q : Nat → Int} {sb e lo hi : Int} {n : Nat} (h : Agr T V R R_q) (w : wE T V sb n e lo hi) (k : iC T e) : cv T R_q e = cv T R e := by
  have wb := bK_sy w
  unfold cv
  rcases k with ⟨k1, k2, k3, k4⟩ | ⟨k1, k2⟩
  · obtain ⟨m, rfl⟩ := wE_pos wb
    obtain ⟨m4, _, _, g3, g4⟩ := wE_i4 wb k1
    rw [if_pos k1, if_pos k1, cP_agr h (bK_sy g3) k4, cP_agr h (bK_sy g4) (Or.inl k3)]
  · rw [if_neg k1, if_neg k1]
    exact cP_agr h wb k2
theorem rU_agr {T : Nat → Nat → Int} {V : Nat → Prop} {R R_q : Nat → Int} {E E' : Us → Int → Prop} {Q : Us} {sb x d lo hi : Int} {n : Nat} (h : Agr T V R R_q) (w : qX T V sb n x lo hi) (e : T 15 x.toNat = 3 → (E' Q (T 18 x.toNat) ↔ E Q (T 18 x.toNat))) : rU T R_q E' Q x d ↔ rU T R E Q x d := by
  unfold rU rU1
  by_cases k : T 15 x.toNat = 3
  · have we := (qX_e w (by omega)).1
    have c : iC T (T 18 x.toNat) → cv T R_q (T 18 x.toNat) = cv T R (T 18 x.toNat) := fun i => cv_agr h we i
    constructor
    · intro ⟨a, b⟩
      refine ⟨a, fun k_q => ⟨⟨fun d0 i => ?_, (b k_q).1.2⟩, (e k).mp (b k_q).2⟩⟩
      rw [← c i]
      exact (b k_q).1.1 d0 i
    · intro ⟨a, b⟩
      refine ⟨a, fun k_q => ⟨⟨fun d0 i => ?_, (b k_q).1.2⟩, (e k).mpr (b k_q).2⟩⟩
      rw [c i]
      exact (b k_q).1.1 d0 i
  · exact ⟨fun a => ⟨a.1, fun k_q => absurd k_q k⟩, fun a => ⟨a.1, fun k_q => absurd k_q k⟩⟩
theorem eU_agr {T : Nat → Nat → Int} {V : Nat → Prop} {R R_q : Nat → Int} {Q : Us} {sb : Int} (h : Agr T V R R_q) : ∀ {n : Nat} {e lo hi : Int}, wE T V sb n e lo hi → (eU T R_q n Q e ↔ eU T R n Q e)
  | 0, _, _, _, w => w.elim
  | n + 1, e, lo, hi, w => by
    have r : T 15 e.toNat = 2 ∨ T 15 e.toNat = 3 → (rU T R_q (eU T R_q n) Q e 1 ↔ rU T R (eU T R n) Q e 1) := fun k => rU_agr h (qX_wE w k) (fun k3 => eU_agr h (qX_e (qX_wE w k) (by omega)).1)
    have t : T 15 e.toNat = 4 → ((eU T R_q n Q (T 18 e.toNat) ∧ eU T R_q n Q (T 19 e.toNat)) ↔ (eU T R n Q (T 18 e.toNat) ∧ eU T R n Q (T 19 e.toNat))) := fun k => by
      obtain ⟨m4, _, _, g3, g4⟩ := wE_i4 w k
      rw [eU_agr h g3, eU_agr h g4]
    have o : T 15 e.toNat = 5 ∨ T 15 e.toNat = 6 ∨ T 15 e.toNat = 7 → (eU T R_q n Q (T 17 e.toNat) ↔ eU T R n Q (T 17 e.toNat)) := fun k => eU_agr h (wE_i5 w k)
    exact ⟨fun a => ⟨fun k => (r k).mp (a.1 k), fun k => (t k).mp (a.2.1 k), fun k => (o k).mp (a.2.2 k)⟩, fun a => ⟨fun k => (r k).mpr (a.1 k), fun k => (t k).mpr (a.2.1 k), fun k => (o k).mpr (a.2.2 k)⟩⟩
