/-! code of processes: names, frames, rows of children -/
theorem zS_le {A : Nat → Nat → Int} {s : Int} {m : Nat} (h : ∀ j : Nat, j < m → 0 ≤ A 8 (s + (j : Int)).toNat) : ∀ {j : Nat}, j ≤ m → 0 ≤ zS A s j ∧ zS A s j ≤ zS A s m := by
  induction m with
  | zero =>
    intro j hj
    have : j = 0 := by omega
    subst this
    exact ⟨Int.le_refl _, Int.le_refl _⟩
  | succ m ih =>
    intro j hj
    have e : zS A s (m + 1) = zS A s m + A 8 (s + (m : Int)).toNat := rfl
    have h0 := h m (by omega)
    have i := fun j hj => ih (fun j hj => h j (by omega)) (j := j) hj
    by_cases q : j = m + 1
    · subst q
      have := i m (Nat.le_refl _)
      omega
    · have := i j (by omega)
      omega
theorem VW_d {T : Nat → Nat → Int} {V : Nat → Prop} {nw s0 f : Int} {m : Nat} (h : VW T V nw) (h0 : 0 ≤ s0) (hn : 0 ≤ nw) (w : wD T s0 (s0 + (m : Int))) (l : lD T s0 m f nw) (hf : 0 ≤ f) (hz : f + zS T s0 m ≤ 1000000) : VW T (Vd V s0 (s0 + (m : Int))) nw := fun s hs hk => by
  rcases hs with hs | hs
  · exact h s hs hk
  · obtain ⟨j, rfl⟩ : ∃ j : Nat, s = (s0 + (j : Int)).toNat := ⟨(s : Int).toNat - s0.toNat, by omega⟩
    have g := l j (by omega)
    have b := zS_le (A := T) (s := s0) (m := m) (fun i hi => by
      have := w (s0 + (i : Int)).toNat (by omega) (by omega)
      omega) (j := j) (by omega)
    omega
theorem VW_u {T : Nat → Nat → Int} {V : Nat → Prop} {nw t : Int} (h : VW T V nw) (hn : 0 ≤ nw) (h9 : 0 ≤ T 9 t.toNat ∧ T 9 t.toNat ≤ 1000000) (h10 : T 10 t.toNat = nw) : VW T (Vu V t) nw := fun s hs hk => by
  rcases hs with hs | hs
  · exact h s hs hk
  · have : s = t.toNat := by omega
    subst this
    omega
theorem FA_st {F F_q : Int → Int} {nw z f : Int} {A A_q : Nat → Nat → Int} (e : A_q = uA A 51 z.toNat f) (h : FA F nw A) (hn : 0 ≤ nw) (hz : z = nw + 1) (hF : ∀ l, l ≤ nw → F_q l = F l) (hf : F_q (nw + 1) = f) (h1 : -1000000 ≤ f) (h2 : f ≤ 1000000) : FA F_q (nw + 1) A_q := fun l g1 g2 => by
  subst e hz
  by_cases q : l = nw + 1
  · subst q
    rw [hf]
    exact ⟨uA_eq, h1, h2⟩
  · rw [hF l (by omega), uA_ni (by omega)]
    exact h l g1 (by omega)
theorem FA_dn {F F_q : Int → Int} {nw : Int} {A : Nat → Nat → Int} (h : FA F_q (nw + 1) A) (hF : ∀ l, l ≤ nw → F_q l = F l) : FA F nw A := fun l g1 g2 => by
  rw [← hF l g2]
  exact h l g1 (by omega)
theorem FA_at {F : Int → Int} {nw x : Int} {A : Nat → Nat → Int} (h : FA F nw A) (h0 : 0 ≤ nw) (e : A 51 nw.toNat = x) : F nw = x := ((h nw h0 (Int.le_refl _)).1).symm.trans e
theorem SA_d {T : Nat → Nat → Int} {V : Nat → Prop} {S : Int → Int} {s0 s1 : Int} {A : Nat → Nat → Int} (h : SA T V S A) (w : wD T s0 s1) : SA T (Vd V s0 s1) S A := fun s g1 g2 g3 => by
  rcases g2 with g2 | g2
  · exact h s g1 g2 g3
  · have := w s.toNat g2.1 g2.2
    omega
theorem SA_u {T : Nat → Nat → Int} {V : Nat → Prop} {S : Int → Int} {t : Int} {A : Nat → Nat → Int} (h : SA T V S A) (h7 : T 7 t.toNat ≠ 10) : SA T (Vu V t) S A := fun s g1 g2 g3 => by
  rcases g2 with g2 | g2
  · exact h s g1 g2 g3
  · have : s = t := by omega
    subst this
    exact absurd g3 h7
theorem SA_su {T : Nat → Nat → Int} {V V_q : Nat → Prop} {S : Int → Int} {A : Nat → Nat → Int} (hv : ∀ s, V s → V_q s) (h : SA T V_q S A) : SA T V S A := fun s g1 g2 g3 => h s g1 (hv _ g2) g3
theorem SA_st {T : Nat → Nat → Int} {V : Nat → Prop} {S S_q : Int → Int} {t v : Int} {A A_q : Nat → Nat → Int} (e : A_q = uA A 13 t.toNat v) (ht : 0 ≤ t) (h : SA T V S A) (h1 : S_q t = v) (h2 : ∀ s, s ≠ t → S_q s = S s) : SA T (Vu V t) S_q A_q := fun s g1 g2 g3 => by
  subst e
  by_cases q : s = t
  · subst q
    rw [h1]
    exact uA_eq
  · rw [h2 s q, uA_ni (by omega)]
    rcases g2 with g2 | g2
    · exact h s g1 g2 g3
    · omega
theorem SA_dn {T : Nat → Nat → Int} {V : Nat → Prop} {S S_q : Int → Int} {t b : Int} {A : Nat → Nat → Int} (h : SA T (Vu V t) S_q A) (hv : VB V b) (hb : b ≤ t) (h2 : ∀ s, s ≠ t → S_q s = S s) : SA T V S A := fun s g1 g2 g3 => by
  have := hv _ g2
  rw [← h2 s (by omega)]
  exact h s g1 (.inl g2) g3
theorem Vd_l {V : Nat → Prop} {a b : Int} : ∀ s, V s → Vd V a b s := fun _ h => .inl h
theorem Vu_l {V : Nat → Prop} {a : Int} : ∀ s, V s → Vu V a s := fun _ h => .inl h
/-- the labels of the PROCs -/
def PA (Q : Int → Int) (pb : Int) (A : Nat → Nat → Int) : Prop := ∀ q : Int, 0 ≤ q → q < pb → A 52 q.toNat = Q q
theorem PA_fr {Q : Int → Int} {pb : Int} {A A_q : Nat → Nat → Int} (e : A_q 52 = A 52) (h : PA Q pb A) : PA Q pb A_q := fun q h1 h2 => by
  rw [e]
  exact h q h1 h2
/-- the words of the PROCs' parameters -/
def PV (T : Nat → Nat → Int) (pb : Int) : Prop := ∀ q : Int, 0 ≤ q → q < pb → 0 ≤ T 32 q.toNat ∧ T 32 q.toNat ≤ 4000 ∧ ∀ j : Nat, (j : Int) < T 30 q.toNat → T 9 (T 29 q.toNat + (j : Int)).toNat = 1 + (j : Int) ∧ (j : Int) < 6
/-- a row whose cells are known -/
def PE (r : Nat) (f : Int → Int) (b i : Int) (A : Nat → Nat → Int) : Prop := ∀ j : Int, 0 ≤ j → j < i → A r (b + j).toNat = f j
theorem PE_0 {r : Nat} {f : Int → Int} {b i : Int} {A : Nat → Nat → Int} (h : i ≤ 0) : PE r f b i A := fun j h1 h2 => by omega
theorem PE_fr {r : Nat} {f : Int → Int} {b i : Int} {A A_q : Nat → Nat → Int} (e : A_q r = A r) (h : PE r f b i A) : PE r f b i A_q := fun j h1 h2 => by
  rw [e]
  exact h j h1 h2
theorem PE_fx {L : List Nat} {w : Int} {r : Nat} {f : Int → Int} {b i : Int} {A A_q : Nat → Nat → Int} (g : Fx L w A A_q) (hr : L.elem r = true) (hw : b + i ≤ w) (hb : 0 ≤ b) (h : PE r f b i A) : PE r f b i A_q := fun j h1 h2 => by
  rw [g r (b + j).toNat hr (by omega)]
  exact h j h1 h2
theorem PE_nx {r : Nat} {f : Int → Int} {b i i_q z v : Int} {A A_q : Nat → Nat → Int} (e : A_q = uA A r z.toNat v) (hb : 0 ≤ b) (hz : z = b + i) (hi : i_q = i + 1) (h0 : 0 ≤ i) (hv : f i = v) (h : PE r f b i A) : PE r f b i_q A_q := fun j h1 h2 => by
  subst e hz hi
  by_cases q : j = i
  · subst q
    rw [hv]
    exact uA_eq
  · rw [uA_ni (by omega)]
    exact h j h1 (by omega)
def upf (f : Int → Int) (i v : Int) : Int → Int := fun j => if j = i then v else f j
theorem upf_e {f : Int → Int} {i v : Int} : upf f i v i = v := if_pos rfl
theorem upf_n {f : Int → Int} {i v j : Int} (h : j ≠ i) : upf f i v j = f j := if_neg h
theorem PE_up {r : Nat} {f : Int → Int} {b i v : Int} {A : Nat → Nat → Int} (h : PE r f b i A) : PE r (upf f i v) b i A := fun j h1 h2 => by
  rw [upf_n (by omega)]
  exact h j h1 h2
/-- the numbers of labels -/
def LBd (f : Int → Int) (i : Int) : Prop := ∀ j : Int, 0 ≤ j → j < i → 1 ≤ f j ∧ f j ≤ 19999
theorem LBd_0 {f : Int → Int} {i : Int} (h : i ≤ 0) : LBd f i := fun j h1 h2 => by omega
theorem LBd_nx {f : Int → Int} {i i_q v : Int} (h : LBd f i) (hi : i_q = i + 1) (h1 : 1 ≤ v) (h2 : v ≤ 19999) : LBd (upf f i v) i_q := fun j g1 g2 => by
  by_cases q : j = i
  · subst q
    rw [upf_e]
    exact ⟨h1, h2⟩
  · rw [upf_n q]
    exact h j g1 (by omega)
/-- the frames of the branches -/
def fL (T : Nat → Nat → Int) (F : Int → Int) (nw p : Int) : Int → Int := fun j => F nw - dpt T p j.toNat - T 26 (kid T p j.toNat).toNat
/-- rows of children -/
theorem LQ_lay {A : Nat → Nat → Int} {R : Int → Int → Int → Int → Int → Prop} {N M : List Int → Prop} {P : Int → Prop} {n c lo hi s0 s1 m t : Int} (h : LQ A R N n c lo hi s0 s1 m t) (hc : 0 < c) (g : ∀ l, CH A (A 21 n.toNat) l → ∀ e ∈ l, P e) : P c := by
  obtain ⟨l1, l2, h1, h2, _⟩ := h
  cases l2 with
  | nil =>
    have : c = 0 := h2
    omega
  | cons e l =>
    obtain ⟨rfl, _, _⟩ := h2
    exact g _ h1 c (List.mem_append.mpr (.inr (List.mem_cons_self ..)))
theorem LQ_ch {A : Nat → Nat → Int} {R : Int → Int → Int → Int → Int → Prop} {N : List Int → Prop} {n c lo hi s0 s1 m t : Int} (h : LQ A R N n c lo hi s0 s1 m t) : ∃ l, CH A (A 21 n.toNat) l := by
  obtain ⟨l1, l2, h1, _⟩ := h
  exact ⟨_, h1⟩
/-- counted: i of them stand before c, many in all -/
def LN2 (A : Nat → Nat → Int) (R : Int → Int → Int → Int → Int → Prop) (many n c i lo hi s0 s1 m t : Int) : Prop := LQ A R (fun l => (l.length : Int) = i) n c lo hi s0 s1 m t ∧ ∀ l, CH A (A 21 n.toNat) l → (l.length : Int) = many
theorem LN2_0 {A : Nat → Nat → Int} {R : Int → Int → Int → Int → Int → Prop} {many n c lo hi s0 s1 : Int} {l : List Int} (h : CH A (A 21 n.toNat) l) (w : wCs R l lo hi s0 s1) (hm : (l.length : Int) = many) (hc : c = A 21 n.toNat) : LN2 A R many n c 0 lo hi s0 s1 lo s0 := ⟨LQ_0 h w hc rfl, fun l_q h_q => by
  rw [CH_un h_q h]
  exact hm⟩
theorem LN2_hd {A : Nat → Nat → Int} {R : Int → Int → Int → Int → Int → Prop} {many n c i lo hi s0 s1 m t : Int} (h : LN2 A R many n c i lo hi s0 s1 m t) (hc : 0 < c) : 0 ≤ i ∧ i < many ∧ c = nx A (A 21 n.toNat) i.toNat ∧ ∃ m_q t_q : Int, lo ≤ m ∧ m ≤ m_q ∧ m_q ≤ hi ∧ s0 ≤ t ∧ t ≤ t_q ∧ t_q ≤ s1 ∧ R c m m_q t t_q ∧ ∀ i_q, i_q = i + 1 → LN2 A R many n (A 22 c.toNat) i_q lo hi s0 s1 m_q t_q := by
  obtain ⟨⟨l1, l2, h1, h2, h3, h4, h5⟩, h6⟩ := h
  have e : c = nx A (A 21 n.toNat) i.toNat := by
    have := CH_nxa h1 h2
    rw [show i.toNat = l1.length by omega]
    exact this
  cases l2 with
  | nil =>
    have : c = 0 := h2
    omega
  | cons x l =>
    have hl := h6 _ h1
    rw [List.length_append, List.length_cons] at hl
    obtain ⟨rfl, g2, g3⟩ := h2
    obtain ⟨m_q, t_q, k1, k2, k3, k4, k5, k6⟩ := h4
    have w1 := wCs_le h3
    refine ⟨by omega, by omega, e, m_q, t_q, w1.1, k1, k2, w1.2, k3, k4, k5, fun i_q hi_q => ⟨⟨l1 ++ [c], l, ?_, g3, wCs_add k1 k3 k5 h3, k6, ?_⟩, h6⟩⟩
    · rw [List.append_assoc]
      exact h1
    · show ((l1 ++ [c]).length : Int) = i_q
      rw [List.length_append, List.length_singleton]
      omega
theorem LN2_end {A : Nat → Nat → Int} {R : Int → Int → Int → Int → Int → Prop} {many n c i lo hi s0 s1 m t : Int} (h : LN2 A R many n c i lo hi s0 s1 m t) (hc : c ≤ 0) : i = many := by
  obtain ⟨⟨l1, l2, h1, h2, h3, h4, h5⟩, h6⟩ := h
  cases l2 with
  | nil =>
    have := h6 _ h1
    rw [List.append_nil] at this
    omega
  | cons x l =>
    obtain ⟨g1, g2, _⟩ := h2
    omega
theorem LN2_lay {A : Nat → Nat → Int} {R : Int → Int → Int → Int → Int → Prop} {P : Int → Prop} {many n c i lo hi s0 s1 m t : Int} (h : LN2 A R many n c i lo hi s0 s1 m t) (hc : 0 < c) (g : ∀ l, CH A (A 21 n.toNat) l → ∀ e ∈ l, P e) : P c := LQ_lay (M := fun _ => True) h.1 hc g
/-- arguments: those before c are done -/
def LAr (T : Nat → Nat → Int) (V : Nat → Prop) (sb q n c lo hi m : Int) : Prop := ∃ l1 l2 : List Int, CH T (T 21 n.toNat) (l1 ++ l2) ∧ CH T c l2 ∧ lo ≤ m ∧ m ≤ hi ∧ ((l1 ++ l2).length : Int) = T 30 q.toNat ∧ wAs T V sb (T 29 q.toNat + (l1.length : Int)) l2 m hi
theorem LAr_0 {T : Nat → Nat → Int} {V : Nat → Prop} {sb q n c lo hi : Int} {l : List Int} (h : CH T (T 21 n.toNat) l) (hl : (l.length : Int) = T 30 q.toNat) (w : wAs T V sb (T 29 q.toNat) l lo hi) (hc : c = T 21 n.toNat) : LAr T V sb q n c lo hi lo := ⟨[], l, h, hc ▸ h, Int.le_refl _, wAs_le w, hl, by
  show wAs T V sb (T 29 q.toNat + ((0 : Nat) : Int)) l lo hi
  rw [show T 29 q.toNat + ((0 : Nat) : Int) = T 29 q.toNat by omega]
  exact w⟩
theorem LAr_hd {T : Nat → Nat → Int} {V : Nat → Prop} {sb q n c lo hi m : Int} (h : LAr T V sb q n c lo hi m) (hc : 0 < c) : ∃ (m_q : Int) (j : Nat), lo ≤ m ∧ m < m_q ∧ m_q ≤ hi ∧ m ≤ c ∧ c < m_q ∧ (j : Int) < T 30 q.toNat ∧ T 18 c.toNat = T 29 q.toNat + (j : Int) ∧ 0 ≤ T 18 c.toNat ∧ T 18 c.toNat < sb ∧ (T 7 (T 18 c.toNat).toNat = 5 → wE T V sb 20 (T 17 c.toNat) m c) ∧ (T 7 (T 18 c.toNat).toNat ≠ 5 → pX T V sb 20 (T 17 c.toNat) m c) ∧ LAr T V sb q n (T 22 c.toNat) lo hi m_q := by
  obtain ⟨l1, l2, h1, h2, h3, h4, h5, h6⟩ := h
  cases l2 with
  | nil =>
    have : c = 0 := h2
    omega
  | cons e l =>
    obtain ⟨rfl, g2, g3⟩ := h2
    obtain ⟨m_q, k1, k2, k3, k4⟩ := h6
    have i1 := k3.1
    have i2 := k3.2.1
    have hl := h5
    rw [List.length_append, List.length_cons] at hl
    obtain ⟨_, _, i3, i4, i5, i6, i7⟩ := k3
    refine ⟨m_q, l1.length, h3, by omega, k2, i1, i2, by omega, i4, by omega, by omega, ?_, ?_, l1 ++ [c], l, ?_, g3, by omega, k2, ?_, ?_⟩
    · intro q5
      rw [i4] at q5
      rcases i7 with i7 | i7 | i7 | i7
      · exact i7.2
      · omega
      · omega
      · omega
    · intro q5
      rw [i4] at q5
      rcases i7 with i7 | i7 | i7 | i7
      · omega
      · exact pX_wR i7.2
      · exact pX_wR i7.2
      · exact pX_wW i7.2
    · rw [List.append_assoc]
      exact h1
    · rw [List.append_assoc]
      exact h5
    · rw [List.length_append, List.length_singleton, show T 29 q.toNat + ((l1.length + 1 : Nat) : Int) = T 29 q.toNat + (l1.length : Int) + 1 by omega]
      exact k4
theorem LAr_ch {T : Nat → Nat → Int} {V : Nat → Prop} {sb q n c lo hi m : Int} (h : LAr T V sb q n c lo hi m) : ∃ l, CH T (T 21 n.toNat) l := by
  obtain ⟨l1, l2, h1, _⟩ := h
  exact ⟨_, h1⟩
/-- the branches of a PAR or PAR FOR -/
def vB (T : Nat → Nat → Int) (V : Nat → Prop) (n : Int) : Nat → Prop := fun s => V s ∨ (T 15 n.toNat = 29 ∧ (s : Int) = T 17 n.toNat)
def KD (T : Nat → Nat → Int) (sb pb : Int) (k : Nat) (V : Nat → Prop) (n hi s0 s1 nw D : Int) : Prop := 1 ≤ mny T n ∧ mny T n ≤ 8 ∧ (T 15 n.toNat = 29 → T 17 n.toNat = s0 ∧ 0 ≤ s0 ∧ s0 < s1 ∧ T 7 s0.toNat = 10) ∧ ∀ j : Nat, (j : Int) < mny T n → 0 < kid T n j ∧ (∃ a b u v, n + 1 ≤ a ∧ b ≤ hi ∧ s0 ≤ u ∧ (T 15 n.toNat = 29 → s0 + 1 ≤ u) ∧ v ≤ s1 ∧ wP T sb pb k (vB T V n) (kid T n j) a b u v) ∧ lP T k (kid T n j) 1 (nw + 1) (T 26 (kid T n j).toNat) (T 27 (kid T n j).toNat) ∧ 1 ≤ T 26 (kid T n j).toNat ∧ 0 ≤ T 27 (kid T n j).toNat ∧ 3 ≤ dpt T n j ∧ dpt T n j + T 26 (kid T n j).toNat + T 27 (kid T n j).toNat + 3 ≤ D
theorem sD_pos {A : Nat → Nat → Int} : ∀ {l : List Int}, (∀ c ∈ l, 1 ≤ A 26 c.toNat ∧ 0 ≤ A 27 c.toNat) → 0 ≤ sD A l
  | [], _ => Int.le_refl _
  | c :: l, h => by
    have h1 := h c (List.mem_cons_self ..)
    have h2 := sD_pos (A := A) (l := l) (fun e he => h e (List.mem_cons_of_mem _ he))
    show 0 ≤ A 26 c.toNat + A 27 c.toNat + 3 + sD A l
    omega
/-- what lies below the j-th of a row -/
def dq (A : Nat → Nat → Int) (c : Int) : Nat → Int
  | 0 => 3
  | j + 1 => dq A c j + A 26 (nx A c j).toNat + A 27 (nx A c j).toNat + 3
theorem dq_sh {A : Nat → Nat → Int} {c : Int} : ∀ {j : Nat}, dq A c (j + 1) = A 26 c.toNat + A 27 c.toNat + 3 + dq A (A 22 c.toNat) j
  | 0 => by
    show 3 + A 26 c.toNat + A 27 c.toNat + 3 = A 26 c.toNat + A 27 c.toNat + 3 + 3
    omega
  | j + 1 => by
    show dq A c (j + 1) + A 26 (nx A c (j + 1)).toNat + A 27 (nx A c (j + 1)).toNat + 3 = A 26 c.toNat + A 27 c.toNat + 3 + (dq A (A 22 c.toNat) j + A 26 (nx A (A 22 c.toNat) j).toNat + A 27 (nx A (A 22 c.toNat) j).toNat + 3)
    rw [dq_sh, nx_sh]
    omega
theorem dq_sD {A : Nat → Nat → Int} : ∀ {l : List Int} {c : Int} {j : Nat}, CH A c l → (∀ e ∈ l, 1 ≤ A 26 e.toNat ∧ 0 ≤ A 27 e.toNat) → j < l.length → 3 ≤ dq A c j ∧ dq A c j + A 26 (nx A c j).toNat + A 27 (nx A c j).toNat + 3 ≤ 3 + sD A l
  | [], _, _, _, _, hj => absurd hj (by simp)
  | e :: l, c, 0, h, g, _ => by
    obtain ⟨rfl, _, _⟩ := h
    have := sD_pos (A := A) (l := l) (fun e he => g e (List.mem_cons_of_mem _ he))
    show 3 ≤ 3 ∧ 3 + A 26 c.toNat + A 27 c.toNat + 3 ≤ 3 + (A 26 c.toNat + A 27 c.toNat + 3 + sD A l)
    omega
  | e :: l, c, j + 1, h, g, hj => by
    obtain ⟨rfl, _, h2⟩ := h
    have h1 := g c (List.mem_cons_self ..)
    have := dq_sD (j := j) h2 (fun e he => g e (List.mem_cons_of_mem _ he)) (by simpa using hj)
    rw [dq_sh, nx_sh]
    show 3 ≤ _ ∧ _ ≤ 3 + (A 26 c.toNat + A 27 c.toNat + 3 + sD A l)
    omega
theorem kid_28 {T : Nat → Nat → Int} {n : Int} {j : Nat} (h : T 15 n.toNat = 28) : kid T n j = nx T (T 21 n.toNat) j := if_neg (by omega)
theorem kid_29 {T : Nat → Nat → Int} {n : Int} {j : Nat} (h : T 15 n.toNat = 29) : kid T n j = T 21 n.toNat := if_pos h
theorem dpt_28 {T : Nat → Nat → Int} {n : Int} (h : T 15 n.toNat = 28) : ∀ {j : Nat}, dpt T n j = dq T (T 21 n.toNat) j
  | 0 => rfl
  | j + 1 => by
    show dpt T n j + T 26 (kid T n j).toNat + T 27 (kid T n j).toNat + 3 = dq T (T 21 n.toNat) j + T 26 (nx T (T 21 n.toNat) j).toNat + T 27 (nx T (T 21 n.toNat) j).toNat + 3
    rw [dpt_28 h, kid_28 h]
theorem dpt_29 {T : Nat → Nat → Int} {n : Int} (h : T 15 n.toNat = 29) : ∀ {j : Nat}, dpt T n j = 3 + (j : Int) * (T 26 (T 21 n.toNat).toNat + T 27 (T 21 n.toNat).toNat + 3)
  | 0 => by
    show (3 : Int) = 3 + ((0 : Nat) : Int) * _
    rw [show ((0 : Nat) : Int) = 0 from rfl, Int.zero_mul]
    rfl
  | j + 1 => by
    show dpt T n j + T 26 (kid T n j).toNat + T 27 (kid T n j).toNat + 3 = _
    rw [dpt_29 h, kid_29 h, show ((j + 1 : Nat) : Int) = (j : Int) + 1 from rfl, Int.add_mul, Int.one_mul]
    omega
theorem wP_vq {A : Nat → Nat → Int} {sb pb : Int} {n : Nat} {V V_q : Nat → Prop} {p lo hi s0 s1 : Int} (e : V = V_q) (h : wP A sb pb n V p lo hi s0 s1) : wP A sb pb n V_q p lo hi s0 s1 := e ▸ h
theorem vB_28 {T : Nat → Nat → Int} {V : Nat → Prop} {n : Int} (h : T 15 n.toNat = 28) : V = vB T V n := funext (fun s => propext ⟨fun q => .inl q, fun q => by
  rcases q with q | q
  · exact q
  · omega⟩)
theorem vB_29 {T : Nat → Nat → Int} {V : Nat → Prop} {n t : Int} (h : T 15 n.toNat = 29) (ht : T 17 n.toNat = t) : Vu V t = vB T V n := funext (fun s => propext ⟨fun q => by
  rcases q with q | q
  · exact .inl q
  · exact .inr ⟨h, by omega⟩, fun q => by
  rcases q with q | q
  · exact .inl q
  · exact .inr (by omega)⟩)
theorem KD_28 {T : Nat → Nat → Int} {sb pb : Int} {k : Nat} {V : Nat → Prop} {n lo hi s0 s1 f nw z D : Int} (h15 : T 15 n.toNat = 28) (w : wSt T sb pb (wP T sb pb k) V n lo hi s0 s1) (l : lSt T (lP T k) n f nw z D) (hD : D < 1000000) : KD T sb pb k V n hi s0 s1 nw D := by
  obtain ⟨g1, g2, g3, c, g4, g5, g6⟩ := wS_i28 w h15
  obtain ⟨_, _, l3⟩ := l.2.2.2.2.2.1 h15
  obtain ⟨l4, l5⟩ := l3 c g4
  have m : mny T n = T 18 n.toNat := if_neg (by omega)
  refine ⟨by omega, by omega, fun q => by omega, fun j hj => ?_⟩
  have hj' : j < c.length := by omega
  rw [kid_28 h15, dpt_28 h15]
  obtain ⟨n1, n2⟩ := CH_nx g4 hj'
  obtain ⟨b1, b2, _, b4, _⟩ := l4 _ n1
  obtain ⟨a, b, u, v, e1, e2, e3, e4, e5⟩ := wCs_mem g6 n1
  have d := dq_sD g4 (fun e he => ⟨(l4 e he).2.1, (l4 e he).2.2.2.1⟩) hj'
  have l5 := l5 hD
  exact ⟨n2, ⟨a, b, u, v, e1, e2, e3, fun q => by omega, e4, wP_vq (vB_28 h15) e5⟩, b1, b2, b4, d.1, by omega⟩
theorem KD_29 {T : Nat → Nat → Int} {sb pb : Int} {k : Nat} {V : Nat → Prop} {n lo hi s0 s1 f nw z D : Int} (h15 : T 15 n.toNat = 29) (hn : 0 ≤ n) (h0 : 0 ≤ s0) (w : wSt T sb pb (wP T sb pb k) V n lo hi s0 s1) (l : lSt T (lP T k) n f nw z D) (hD : D < 1000000) : KD T sb pb k V n hi s0 s1 nw D := by
  obtain ⟨g1, g2, g3, g4, g5, g6, g7, g8⟩ := wS_i29 w h15
  obtain ⟨_, _, ⟨b1, b2, _, b4, _⟩, l5⟩ := l.2.2.2.2.2.2.1 h15
  have m : mny T n = T 20 n.toNat := if_pos h15
  have l5 := l5 hD
  refine ⟨by omega, by omega, fun _ => ⟨g1, h0, g2, g3⟩, fun j hj => ?_⟩
  rw [kid_29 h15, dpt_29 h15]
  have i := wP_in g8
  have e : (j : Int) * (T 26 (T 21 n.toNat).toNat + T 27 (T 21 n.toNat).toNat + 3) + (T 26 (T 21 n.toNat).toNat + T 27 (T 21 n.toNat).toNat + 3) ≤ T 20 n.toNat * (T 26 (T 21 n.toNat).toNat + T 27 (T 21 n.toNat).toNat + 3) := by
    have : ((j : Int) + 1) * (T 26 (T 21 n.toNat).toNat + T 27 (T 21 n.toNat).toNat + 3) ≤ T 20 n.toNat * (T 26 (T 21 n.toNat).toNat + T 27 (T 21 n.toNat).toNat + 3) := Int.mul_le_mul_of_nonneg_right (by omega) (by omega)
    rw [Int.add_mul, Int.one_mul] at this
    exact this
  have e0 : 0 ≤ (j : Int) * (T 26 (T 21 n.toNat).toNat + T 27 (T 21 n.toNat).toNat + 3) := Int.mul_nonneg (by omega) (by omega)
  exact ⟨by omega, ⟨n + 1, hi, s0 + 1, s1, Int.le_refl _, Int.le_refl _, by omega, fun _ => Int.le_refl _, Int.le_refl _, wP_vq (vB_29 h15 g1) g8⟩, b1, b2, b4, by omega, by omega⟩
