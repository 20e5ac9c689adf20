/-! what is seen, and how it grows; statements and processes put together -/
def YD (A : Nat → Nat → Int) (s k z : Int) : Prop := A 7 s.toNat = k ∧ A 8 s.toNat = z
theorem YD_fx {A A_q : Nat → Nat → Int} {s k z w : Int} (h0 : 0 ≤ s) (hs : s < w) (f : Fx sr w A A_q) (h : YD A s k z) : YD A_q s k z := ⟨(f 7 s.toNat rfl (by omega)).trans h.1, (f 8 s.toNat rfl (by omega)).trans h.2⟩
theorem wD_nil {A : Nat → Nat → Int} {s0 : Int} : wD A s0 s0 := fun s h1 h2 => by omega
theorem wD_fx {A A_q : Nat → Nat → Int} {s0 s1 w : Int} (f : Fx sr w A A_q) (hs : s1 ≤ w) (h : wD A s0 s1) : wD A_q s0 s1 := fun s h1 h2 => by
  rw [f 7 s rfl (by omega), f 8 s rfl (by omega)]
  exact h s h1 h2
theorem wD_add {A : Nat → Nat → Int} {s0 s1 t k z : Int} (h : wD A s0 s1) (y : YD A s1 k z) (h0 : 0 ≤ s1) (ht : t = s1 + 1) (h1 : 1 ≤ k ∧ k ≤ 4) (h2 : 1 ≤ z ∧ z ≤ 64) (h3 : (k = 1 ∨ k = 3) → z = 1) : wD A s0 t := fun s g1 g2 => by
  by_cases hc : (s : Int) = s1
  · have e : s = s1.toNat := by omega
    subst e
    rw [y.1, y.2]
    exact ⟨h1.1, h1.2, h2.1, h2.2, h3⟩
  · exact h s g1 (by omega)
/-- the names that came to be seen were made since -/
def DS (A : Nat → Nat → Int) (v0 v1 s0 s1 : Int) : Prop := ∀ k : Nat, v0 ≤ (k : Int) → (k : Int) < v1 → s0 ≤ A 14 k ∧ A 14 k < s1
theorem DS_nil {A : Nat → Nat → Int} {v0 s0 s1 : Int} : DS A v0 v0 s0 s1 := fun k h1 h2 => by omega
theorem DS_ext {A A_q : Nat → Nat → Int} {v0 v1 s0 s1 : Int} (e : A_q 14 = A 14) (h : DS A v0 v1 s0 s1) : DS A_q v0 v1 s0 s1 := fun k h1 h2 => by
  rw [e]
  exact h k h1 h2
theorem DS_fx {A A_q : Nat → Nat → Int} {v0 v1 s0 s1 w : Int} (f : Fx [14] w A A_q) (hw : v1 ≤ w) (h : DS A v0 v1 s0 s1) : DS A_q v0 v1 s0 s1 := fun k h1 h2 => by
  rw [f 14 k rfl (by omega)]
  exact h k h1 h2
theorem DS_add {A : Nat → Nat → Int} {v0 v1 v2 s0 s1 s : Int} (h : DS A v0 v1 s0 s1) (e : A 14 v1.toNat = s) (h0 : 0 ≤ v1) (hv : v2 = v1 + 1) (h1 : s0 ≤ s) (h2 : s < s1) : DS A v0 v2 s0 s1 := fun k g1 g2 => by
  by_cases hc : (k : Int) = v1
  · have e_q : k = v1.toNat := by omega
    subst e_q
    rw [e]
    exact ⟨h1, h2⟩
  · exact h k g1 (by omega)
theorem DS_wd {A : Nat → Nat → Int} {v0 v1 s0 s1 t0 t1 : Int} (h : DS A v0 v1 s0 s1) (h0 : t0 ≤ s0) (h1 : s1 ≤ t1) : DS A v0 v1 t0 t1 := fun k g1 g2 => by
  have := h k g1 g2
  omega
theorem DS_tr {A : Nat → Nat → Int} {v0 v1 v2 s0 s1 : Int} (h : DS A v0 v1 s0 s1) (h2 : DS A v1 v2 s0 s1) : DS A v0 v2 s0 s1 := fun k g1 g2 => by
  by_cases hc : (k : Int) < v1
  · exact h k g1 hc
  · exact h2 k (by omega) g2
/-- what is seen stays so where its first part is as it was -/
theorem SV_fx {V : Nat → Prop} {sb vi t : Int} {G G_q : Nat → Int} {A A_q : Nat → Nat → Int} (h : SV V sb G A) (hg : G 29 = vi) (hg' : G_q 29 = t) (ht : t = vi) (f : Fx [14] vi A A_q) : SV V sb G_q A_q := fun k hk => by
  rw [hg', ht] at hk
  rw [f 14 k rfl hk]
  exact h k (by omega)
theorem PQ_fx {V : Nat → Prop} {sb pb w : Int} {G G_q : Nat → Int} {A A_q : Nat → Nat → Int} (h : PQ V sb pb G A) (f : Fx sr w A A_q) (hw : sb ≤ w) (e29 : A_q 29 = A 29) (e30 : A_q 30 = A 30) : PQ V sb pb G_q A_q := fun s hv hs hk => by
  have q7 : A_q 7 s = A 7 s := f 7 s rfl (by omega)
  have q12 : A_q 12 s = A 12 s := f 12 s rfl (by omega)
  rw [q7] at hk
  have := h s hv hs hk
  rw [q12, e29, e30]
  refine ⟨this.1, this.2.1, this.2.2.1, this.2.2.2.1, this.2.2.2.2.1, this.2.2.2.2.2.1, fun k h1 h2 => ?_⟩
  have q := this.2.2.2.2.2.2 k h1 h2
  have b := this.2.2.2.2.2.1
  have c := this.2.2.2.2.1
  rw [f 7 _ rfl (by omega)]
  exact q
/-- behind declarations -/
theorem SV_dec {V : Nat → Prop} {sb vi v1 s0 s1 : Int} {G G_q : Nat → Int} {A A_q : Nat → Nat → Int} (h : SV V sb G A) (hg : G 29 = vi) (hg' : G_q 29 = v1) (hb : sb ≤ s1) (f : Fx [14] vi A A_q) (d : DS A_q vi v1 s0 s1) (h0 : 0 ≤ s0) : SV (Vd V s0 s1) s1 G_q A_q := fun k hk => by
  rw [hg'] at hk
  by_cases hc : (k : Int) < vi
  · rw [f 14 k rfl hc]
    have q := h k (by omega)
    exact ⟨q.1, Int.lt_of_lt_of_le q.2.1 hb, .inl q.2.2⟩
  · have q := d k (by omega) hk
    refine ⟨by omega, q.2, .inr ?_⟩
    omega
theorem PQ_dec {V : Nat → Prop} {sb pb s0 s1 : Int} {G G_q : Nat → Int} {A A_q : Nat → Nat → Int} (h : PQ V sb pb G A) (f : Fx sr s0 A A_q) (hb : sb ≤ s0) (h01 : s0 ≤ s1) (e29 : A_q 29 = A 29) (e30 : A_q 30 = A 30) (hd : wD A_q s0 s1) (hv : ∀ s, V s → (s : Int) < sb) : PQ (Vd V s0 s1) s1 pb G_q A_q := fun s hs1 hs2 hk => by
  rcases hs1 with hs1 | hs1
  · have := PQ_fx (G_q := G_q) h f hb e29 e30 s hs1 (hv s hs1) hk
    exact ⟨this.1, this.2.1, this.2.2.1, this.2.2.2.1, this.2.2.2.2.1, by have := this.2.2.2.2.2.1; omega, this.2.2.2.2.2.2⟩
  · have := hd s hs1.1 hs1.2
    omega
/-- behind an index's name -/
theorem SV_show {V : Nat → Prop} {sb vi v1 s w : Int} {G G_q : Nat → Int} {A A_q : Nat → Nat → Int} (h : SV V sb G A) (hg : G 29 = vi) (hg' : G_q 29 = v1) (hv : v1 = vi + 1) (f : Fx [14] vi A A_q) (e : A_q 14 vi.toNat = s) (h0 : 0 ≤ s) (hs : s < w) (hb : sb ≤ w) (hvi : 0 ≤ vi) : SV (Vu V s) w G_q A_q := fun k hk => by
  rw [hg'] at hk
  by_cases hc : (k : Int) < vi
  · rw [f 14 k rfl hc]
    have q := h k (by omega)
    exact ⟨q.1, Int.lt_of_lt_of_le q.2.1 hb, .inl q.2.2⟩
  · have e_q : k = vi.toNat := by omega
    subst e_q
    rw [e]
    exact ⟨h0, hs, .inr (by omega)⟩
theorem PQ_show {V : Nat → Prop} {sb pb s w kd : Int} {G G_q : Nat → Int} {A A_q : Nat → Nat → Int} (h : PQ V sb pb G A) (f : Fx sr sb A A_q) (hb : sb ≤ w) (e29 : A_q 29 = A 29) (e30 : A_q 30 = A 30) (h0 : 0 ≤ s) (hk : A_q 7 s.toNat = kd) (hne : kd ≠ 14) (hv : ∀ s, V s → (s : Int) < sb) : PQ (Vu V s) w pb G_q A_q := fun j hs1 hs2 h7 => by
  rcases hs1 with hs1 | hs1
  · have := PQ_fx (G_q := G_q) h f (Int.le_refl _) e29 e30 j hs1 (hv j hs1) h7
    exact ⟨this.1, this.2.1, this.2.2.1, this.2.2.2.1, this.2.2.2.2.1, by have := this.2.2.2.2.2.1; omega, this.2.2.2.2.2.2⟩
  · have e_q : j = s.toNat := by omega
    subst e_q
    rw [hk] at h7
    exact absurd h7 hne
/-- names that are seen lie below sb -/
def VB (V : Nat → Prop) (sb : Int) : Prop := ∀ s, V s → (s : Int) < sb
theorem VB_d {V : Nat → Prop} {sb s0 s1 : Int} (h : VB V sb) (h1 : sb ≤ s1) : VB (Vd V s0 s1) s1 := fun s hs => by
  rcases hs with hs | hs
  · have := h s hs
    omega
  · exact hs.2
theorem VB_u {V : Nat → Prop} {sb s w : Int} (h : VB V sb) (h1 : sb ≤ w) (h2 : s < w) : VB (Vu V s) w := fun j hs => by
  rcases hs with hs | hs
  · have := h j hs
    omega
  · omega
/-- a row, as the statement says it -/
def RL (t : Nat) (A : Nat → Nat → Int) (sb pb : Int) (k : Nat) (V : Nat → Prop) (n many lo hi s0 s1 : Int) : Prop := ∃ l : List Int, CH A (A 21 n.toNat) l ∧ wCs (RQ t A sb pb k V) l lo hi s0 s1 ∧ (l.length : Int) = many
theorem RL_cl {t : Nat} {A : Nat → Nat → Int} {sb pb : Int} {k : Nat} {V : Nat → Prop} {n last many lo hi s0 s1 : Int} (h : CL t A sb pb k V n last many lo hi s0 s1) : RL t A sb pb k V n many lo hi s0 s1 := by
  obtain ⟨l, h1, h2, h3, _⟩ := h
  exact ⟨l, h1, h2, h3⟩
theorem wI_mk {A : Nat → Nat → Int} {V : Nat → Prop} {sb : Int} {R : Int → Int → Int → Int → Int → Prop} {e a b c d f x lo hi m s0 s1 : Int} (h : ND A e 34 a b c d f x) (h1 : e = lo) (h3 : e + 1 ≤ m) (h4 : m ≤ hi) (h5 : wE A V sb 20 a (e + 1) m) (h6 : R f m hi s0 s1) : wI A V sb R e lo hi s0 s1 := ⟨h1, h.1, m, h3, h4, by rw [h.2.1]; exact h5, by rw [h.2.2.2.2.2.1]; exact h6⟩
theorem wG_mk {A : Nat → Nat → Int} {V : Nat → Prop} {sb : Int} {R : Int → Int → Int → Int → Int → Prop} {e f lo hi m s0 s1 : Int} (h : wU A V sb e lo m) (hf : A 21 e.toNat = f) (h3 : e + 1 ≤ m) (h4 : m ≤ hi) (h6 : R f m hi s0 s1) : wG A V sb R e lo hi s0 s1 := ⟨h.1, h.2.2.1, m, h3, h4, by rw [hf]; exact h6, h.2.2.2⟩
theorem wU_f {A A_q : Nat → Nat → Int} {V : Nat → Prop} {sb e lo hi v : Int} (e0 : A_q = uA A 21 e.toNat v) (h0 : 0 ≤ e) (h : wU A V sb e lo hi) : wU A_q V sb e lo hi := by
  obtain ⟨h1, h2, h3, h4⟩ := h
  have q : ∀ k, k ≠ 21 → A_q k e.toNat = A k e.toNat := fun k hk => by
    rw [e0]
    exact congrFun (uA_ne hk) _
  have sg : Sg sb A A_q := Sg_ne e0 rfl
  have ag : Ag (e + 1) hi A A_q := Ag_st e0 h0 (.inl (by omega))
  refine ⟨h1, h2, ?_⟩
  rw [q 15 (by decide), q 17 (by decide), q 18 (by decide), q 19 (by decide)]
  refine ⟨h3, ?_⟩
  rcases h4 with ⟨g1, a, g2, g3, g4, g5⟩ | ⟨g1, g2⟩ | ⟨a, b, g1, g2, g3, g4, g5, g6⟩
  · exact .inl ⟨g1, a, g2, g3, wR_ag (by omega) sg (Ag_su ag (Int.le_refl _) g3) g4, wR_ag (by omega) sg (Ag_su ag g2 (Int.le_refl _)) g5⟩
  · exact .inr (.inl ⟨g1, wE_ag (by omega) sg ag g2⟩)
  · exact .inr (.inr ⟨a, b, g1, g2, g3, wE_ag (by omega) sg (Ag_su ag (Int.le_refl _) (by omega)) g4, wR_ag (by omega) sg (Ag_su ag (by omega) g3) g5, wR_ag (by omega) sg (Ag_su ag (by omega) (Int.le_refl _)) g6⟩)
