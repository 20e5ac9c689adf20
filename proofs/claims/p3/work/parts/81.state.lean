/-! THE STATE OF A CORE: frames (by their W), what the words of its memory are (ty: 1 data, 2 channels, 3 pointers, 4 kept), the memory m -/
abbrev Fm := Int × Int × Int × Int × Int × Int × Int × Int × Int × Int × Cx × Int × Cx
abbrev fOn (f : Fm) : Int := f.1
abbrev fSu (f : Fm) : Int := f.2.1
abbrev fSx (f : Fm) : Int := f.2.2.1
abbrev fPb (f : Fm) : Int := f.2.2.2.1
abbrev fCh (f : Fm) : Int := f.2.2.2.2.1
abbrev fPa (f : Fm) : Int := f.2.2.2.2.2.1
abbrev fAw (f : Fm) : Int := f.2.2.2.2.2.2.1
abbrev fLo (f : Fm) : Int := f.2.2.2.2.2.2.2.1
abbrev fHi (f : Fm) : Int := f.2.2.2.2.2.2.2.2.1
abbrev fSt (f : Fm) : Int := f.2.2.2.2.2.2.2.2.2.1
abbrev fCx (f : Fm) : Cx := f.2.2.2.2.2.2.2.2.2.2.1
abbrev fRs (f : Fm) : Int := f.2.2.2.2.2.2.2.2.2.2.2.1
abbrev fRx (f : Fm) : Cx := f.2.2.2.2.2.2.2.2.2.2.2.2
/-- the rights that a frame holds: of a PAR those for behind it -/
def fQ (f : Fm) : List Cp := if fSu f = 2 then cCp (fRx f) else cCp (fCx f)
/-- a word that is claimed: as what, with which bits -/
def Cw (m : Int → Int) (W : Int) (q : Cp) (k x u : Int) : Prop :=
  (qK q = 1 ∧ k = 1 ∧ W + qO q ≤ x ∧ x < W + qO q + qN q) ∨ (qK q = 2 ∧ k = 2 ∧ W + qO q ≤ x ∧ x < W + qO q + qN q ∧ u = qU q) ∨
  (qK q = 3 ∧ k = 3 ∧ x = W + qO q) ∨ (qK q = 3 ∧ k = 1 ∧ m (W + qO q) ≤ x ∧ x < m (W + qO q) + qN q) ∨
  ((qK q = 4 ∨ qK q = 8 ∨ qK q = 9) ∧ k = 3 ∧ x = W + qO q) ∨ ((qK q = 4 ∨ qK q = 8 ∨ qK q = 9) ∧ k = 2 ∧ x = m (W + qO q) ∧ u = qU q) ∨
  (qK q = 5 ∧ k = 2 ∧ x = qO q ∧ u = qU q) ∨ ((qK q = 6 ∨ qK q = 7) ∧ k = 4 ∧ x = W + qO q)
def Cl (m : Int → Int) (W : Int) (l : List Cp) (k x u : Int) : Prop := ∃ q ∈ l, Cw m W q k x u
/-- what a register holds (an address only where it can't wrap) -/
def Rok (m : Int → Int) (W b : Int) (r : Rt) (v : Int) : Prop := (r.1 = 1 → 0 ≤ v ∧ v < r.2.1) ∧ (r.1 = 2 → -2000000 ≤ W + r.2.1 → W + r.2.1 + r.2.2 ≤ 2000000 → W + r.2.1 ≤ v ∧ v < W + r.2.1 + r.2.2) ∧ (r.1 = 3 → (r.2.2 = 1 ∨ (-2000000 ≤ m (W + r.2.1) ∧ m (W + r.2.1) + r.2.2 ≤ 2000000)) → m (W + r.2.1) ≤ v ∧ v < m (W + r.2.1) + r.2.2) ∧ (r.1 = 5 → v = r.2.1) ∧ (r.1 = 6 → v = 2 * W + b)
/-- where a right's own words lie -/
def Own (W lo hi z : Int) (q : Cp) : Prop := qK q = 5 ∨ (1 ≤ qO q ∧ qO q + wN q ≤ z) ∨ (qO q + wN q ≤ -3 ∧ lo ≤ W + qO q) ∨ hi ≤ W + qO q
/-- to what its pointers lead: out of the frame's stretch, or to what the frame itself holds -/
def Tgt (m : Int → Int) (W lo hi : Int) (l : List Cp) (q : Cp) : Prop :=
  (qK q = 3 → ∀ x, m (W + qO q) ≤ x → x < m (W + qO q) + qN q → lo ≤ x → x < hi → qO q < 0 ∧ ∃ s ∈ l, qK s = 1 ∧ W + qO s ≤ x ∧ x < W + qO s + qN s) ∧
  (qK q = 4 → ¬ (lo ≤ m (W + qO q) ∧ m (W + qO q) < hi)) ∧
  (qK q = 8 ∨ qK q = 9 → lo ≤ m (W + qO q) → m (W + qO q) < hi → ∃ s ∈ l, qK s = 2 ∧ W + qO s ≤ m (W + qO q) ∧ m (W + qO q) < W + qO s + qN s)
def Cok (m ty : Int → Int) (W b lo hi z : Int) (l : List Cp) : Prop :=
  (∀ k x u, Cl m W l k x u → ty x = k ∧ 0 ≤ x ∧ x < 4016 ∧ (16 ≤ x ∨ (k = 2 ∧ sbt (ty (-1 - x)) u))) ∧
  (∀ q ∈ l, (1 ≤ qN q ∧ (qK q = 2 → 16 ≤ W + qO q)) ∧ Own W lo hi z q ∧ Tgt m W lo hi l q ∧ (qK q = 7 → m (W + qO q) = qU q) ∧ ((qK q = 9 ∨ (qK q = 3 ∧ qO q < 0)) → Rok m W b (qR q) (m (W + qO q)) ∧ Sup l (qR q)) ∧ (qK q = 5 → 0 ≤ qO q ∧ qO q ≤ 13)) ∧
  (∀ q ∈ l, qK q = 4 → (∀ s ∈ l, qK s = 4 → qO q ≠ qO s → m (W + qO q) ≠ m (W + qO s)) ∧ ∀ s ∈ l, qK s = 2 → ¬ (W + qO s ≤ m (W + qO q) ∧ m (W + qO q) < W + qO s + qN s))
/-- a frame's numbers -/
def Hok (W : Int) (f : Fm) : Prop := 16 ≤ fLo f ∧ fLo f + 3 + cD (fCx f) ≤ W ∧ W + cZ (fCx f) ≤ fHi f ∧ fHi f ≤ 4016 ∧ 1 ≤ cZ (fCx f) ∧ 0 ≤ cD (fCx f) ∧ (cEk (fCx f) = 1 → fHi f = W + cZ (fCx f) + 4) ∧ (cDw (fCx f) = 0 ∨ (cEk (fCx f) = 1 ∧ cDw (fCx f) = cZ (fCx f) + 3 ∧ fSu f = 0)) ∧ 0 ≤ fPb f ∧ fPb f ≤ 1 ∧ (fSu f = 2 → (fRx f).1 = (fCx f).1) ∧ 0 ≤ fSu f ∧ fSu f ≤ 2
/-- words that nobody else may write -/
def Tok (ty : Int → Int) (W : Int) (f : Fm) : Prop := ty (W - 3) = 6 ∧ ty (W - 2) = 6 ∧ ty (W - 1) = 6 ∧ ty W = 6 ∧ (cEk (fCx f) = 1 → ty (W + cZ (fCx f)) = 6 ∧ ty (W + cZ (fCx f) + 1) = 6 ∧ ty (W + cZ (fCx f) + 2) = 6 ∧ ty (W + cZ (fCx f) + 3) = 6) ∧ (fSu f = 2 → W + 1 ≤ fAw f ∧ fAw f + 3 ≤ W + cZ (fCx f) ∧ ty (fAw f) = 6 ∧ ty (fAw f + 1) = 5 ∧ ty (fAw f + 2) = 6)
/-- what the words of a frame hold: where it goes on, what it waits for -/
def Wok (K : Kd) (N : Int) (m : Int → Int) (W : Int) (f : Fm) : Prop :=
  Gd K N (fun _ _ => False) (fSt f) (fCx f) ∧
  (fSu f = 2 → Gd K N (fun _ _ => False) (fRs f) (fRx f) ∧ m (fAw f) = kP K (fRs f) ∧ m (fAw f + 2) = 2 * W + fPb f ∧ Abv (fRx f) ∧ cMd (fRx f) = 0 ∧ cMd (fCx f) = 2 ∧ cWs (fCx f) = [fAw f - W] ∧ (fRx f).2.2.1 = (r0, r0, r0)) ∧
  (fSu f = 1 → Abv (fCx f) ∧ cMd (fCx f) = 0 ∧ fSx f = 6 ∧ (fCx f).2.2.1 = (r0, r0, r0)) ∧
  (fSu f = 0 → cMd (fCx f) ≠ 2) ∧
  (cMd (fCx f) = 1 → (m (W - 3) ≠ 0 ∧ (m (W - 3) = 2 → fSx f = 4)) ∧ (m W = -1 ∨ m W ∈ cWs (fCx f)) ∧ ∀ e ∈ cPe (fCx f), (∃ q ∈ cCp (fCx f), qK q = 8 ∧ qO q = e.2 ∧ qU q / 8 % 2 = 1) ∧ ∃ q ∈ cCp (fCx f), qK q = 6 ∧ qO q = e.1) ∧
  (0 ≤ cMd (fCx f) ∧ cMd (fCx f) ≤ 2) ∧
  Sup (cCp (fCx f)) (cA (fCx f)) ∧ Sup (cCp (fCx f)) (cB (fCx f)) ∧ Sup (cCp (fCx f)) (cC (fCx f)) ∧
  ((fSx f = 2 ∨ fSx f = 3 ∨ fSx f = 4 ∨ fSx f = 5) → fSu f = 0 ∧ (fCx f).2.2.1 = (r0, r0, r0)) ∧
  ((fSx f = 2 ∨ fSx f = 3) → m (W - 3) = 0 ∧ cMd (fCx f) = 0) ∧
  ((fSx f = 2 ∨ fSx f = 3 ∨ fSx f = 4) → cDw (fCx f) = 0 ∧ m (W - 1) = kP K (fSt f)) ∧
  (fSx f = 4 → cMd (fCx f) = 1) ∧
  (fSx f = 3 → ∃ u, Cl m W (fQ f) 1 (m (W - 2)) u) ∧
  (fSx f = 2 → ∃ u, u / 4 % 2 = 1 ∧ Cl m W (fQ f) 2 (fCh f) u) ∧ (fSx f = 3 → ∃ u, u / 8 % 2 = 1 ∧ Cl m W (fQ f) 2 (fCh f) u) ∧
  (fSx f = 5 → cEk (fCx f) = 2 ∧ cMd (fCx f) = 0 ∧ cDw (fCx f) = 0 ∧ Abv (fCx f))
/-- two frames: apart, or one below the other -/
def Apt (m : Int → Int) (W : Int) (f : Fm) (W_q : Int) (f_q : Fm) : Prop := (fHi f ≤ fLo f_q ∨ fHi f_q ≤ fLo f) ∧ (∀ k x u, Cl m W (fQ f) k x u → ¬ (fLo f_q ≤ x ∧ x < fHi f_q)) ∧ (∀ k x u, Cl m W_q (fQ f_q) k x u → ¬ (fLo f ≤ x ∧ x < fHi f)) ∧ ∀ x u u_q, Cl m W (fQ f) 2 x u → Cl m W_q (fQ f_q) 2 x u_q → NC u u_q
def Blw (m : Int → Int) (W : Int) (f : Fm) (f_q : Fm) : Prop := fLo f ≤ fLo f_q ∧ fHi f_q ≤ W - 3 ∧ fSu f ≠ 0 ∧ ∀ k x u, Cl m W (fQ f) k x u → ¬ (fLo f_q ≤ x ∧ x < fHi f_q)
def Prs (m : Int → Int) (W : Int) (f : Fm) (W_q : Int) (f_q : Fm) : Prop := Apt m W f W_q f_q ∨ Blw m W f f_q ∨ Blw m W_q f_q f
/-- the frame that a frame goes back to -/
def Bck (K : Kd) (m : Int → Int) (g : Int → Fm) (W : Int) (f : Fm) : Prop :=
  (cEk (fCx f) = 1 → fOn (g (W + cZ (fCx f) + 7)) = 1 ∧ fSu (g (W + cZ (fCx f) + 7)) = 1 ∧ fLo (g (W + cZ (fCx f) + 7)) = fLo f ∧ fPb (g (W + cZ (fCx f) + 7)) = fPb f ∧ m (W + cZ (fCx f) + 3) = kP K (fSt (g (W + cZ (fCx f) + 7)))) ∧
  (cEk (fCx f) = 2 → fPa f = W + cPd (fCx f) ∧ ∃ V, fOn (g V) = 1 ∧ fSu (g V) = 2 ∧ fAw (g V) = fPa f ∧ fLo (g V) ≤ fLo f ∧ fHi f ≤ V - 3) ∧
  (cEk (fCx f) ≠ 2 → fPa f = 0)
def cnt (g : Int → Fm) (a : Int) : Nat → Int
  | 0 => 0
  | n + 1 => cnt g a n + (if fOn (g (n : Int)) = 1 ∧ fPa (g (n : Int)) = a then 1 else 0)
/-- the branches of a PAR -/
def Brs (m : Int → Int) (g : Int → Fm) (W : Int) (f : Fm) : Prop :=
  fSu f = 2 → (∀ e ∈ cPe (fCx f), fOn (g (W - e.1)) = 1 ∧ fSx (g (W - e.1)) = 5 ∧ fSt (g (W - e.1)) = e.2 ∧ fPa (g (W - e.1)) = fAw f) ∧ (cPe (fCx f)).Pairwise (fun e e_q => e.1 ≠ e_q.1) ∧ cnt g (fAw f) 4016 ≤ m (fAw f + 1) ∧
  ∀ V, fOn (g V) = 1 → fLo f ≤ fLo (g V) → fHi (g V) ≤ W - 3 → ∃ U, fOn (g U) = 1 ∧ fPa (g U) = fAw f ∧ fLo (g U) ≤ fLo (g V) ∧ fHi (g V) ≤ fHi (g U)
/-- who is at a channel -/
def Att (m : Int → Int) (g : Int → Fm) (x : Int) (W : Int) : Prop := fOn (g W) = 1 ∧ m x = 2 * W + fPb (g W) ∧ cDw (fCx (g W)) = 0 ∧ (((fSx (g W) = 2 ∨ fSx (g W) = 3) ∧ fCh (g W) = x) ∨ (cMd (fCx (g W)) = 1 ∧ ∃ e ∈ cPe (fCx (g W)), m (W + e.2) = x ∧ m (W + e.1) ≠ 0))
def Chs (m ty : Int → Int) (g : Int → Fm) : Prop := ∀ x, ty x = 2 → m x = -1 ∨ ∃ W, Att m g x W
def Loc (K : Kd) (N : Int) (m ty : Int → Int) (g : Int → Fm) (W : Int) (f : Fm) : Prop := Hok W f ∧ Tok ty W f ∧ Cok m ty W (fPb f) (fLo f) (fHi f) (cZ (fCx f)) (fQ f) ∧ Wok K N m W f ∧ Bck K m g W f ∧ Brs m g W f
def MI (K : Kd) (N : Int) (m ty : Int → Int) (g : Int → Fm) : Prop := (∀ W, fOn (g W) = 1 → Loc K N m ty g W (g W)) ∧ (∀ W W_q, fOn (g W) = 1 → fOn (g W_q) = 1 → W ≠ W_q → Prs m W (g W) W_q (g W_q)) ∧ Chs m ty g
/-! memories that agree where it counts -/
theorem Cw_m {m m_q : Int → Int} {W : Int} {q : Cp} {k x u : Int} (h : qK q = 3 ∨ qK q = 4 ∨ qK q = 8 ∨ qK q = 9 → m_q (W + qO q) = m (W + qO q)) : Cw m_q W q k x u ↔ Cw m W q k x u := by
  unfold Cw
  by_cases h3 : qK q = 3
  · rw [h (Or.inl h3)]
  · by_cases h4 : qK q = 4 ∨ qK q = 8 ∨ qK q = 9
    · rw [h (Or.inr h4)]
    · constructor <;> intro a <;> rcases a with a | a | a | a | a | a | a | a
      · exact Or.inl a
      · exact Or.inr (Or.inl a)
      · exact absurd a.1 h3
      · exact absurd a.1 h3
      · exact absurd a.1 h4
      · exact absurd a.1 h4
      · exact Or.inr (Or.inr (Or.inr (Or.inr (Or.inr (Or.inr (Or.inl a))))))
      · exact Or.inr (Or.inr (Or.inr (Or.inr (Or.inr (Or.inr (Or.inr a))))))
      · exact Or.inl a
      · exact Or.inr (Or.inl a)
      · exact absurd a.1 h3
      · exact absurd a.1 h3
      · exact absurd a.1 h4
      · exact absurd a.1 h4
      · exact Or.inr (Or.inr (Or.inr (Or.inr (Or.inr (Or.inr (Or.inl a))))))
      · exact Or.inr (Or.inr (Or.inr (Or.inr (Or.inr (Or.inr (Or.inr a))))))
/-- pointers' words hold what they held -/
def Pnt (m m_q : Int → Int) (W : Int) (l : List Cp) : Prop := ∀ q ∈ l, (qK q = 3 ∨ qK q = 4 ∨ qK q = 8 ∨ qK q = 9) → m_q (W + qO q) = m (W + qO q)
theorem Cl_m {m m_q : Int → Int} {W : Int} {l : List Cp} {k x u : Int} (h : Pnt m m_q W l) : Cl m_q W l k x u ↔ Cl m W l k x u := by
  unfold Cl
  constructor <;> intro ⟨q, hq, a⟩
  · exact ⟨q, hq, (Cw_m (h q hq)).mp a⟩
  · exact ⟨q, hq, (Cw_m (h q hq)).mpr a⟩
/-- a pointer's word is claimed as one -/
theorem Cl_p {m : Int → Int} {W : Int} {l : List Cp} {q : Cp} (hq : q ∈ l) (h : qK q = 3 ∨ qK q = 4 ∨ qK q = 8 ∨ qK q = 9) : Cl m W l 3 (W + qO q) 0 := by
  rcases h with h | h
  · exact ⟨q, hq, Or.inr (Or.inr (Or.inl ⟨h, rfl, rfl⟩))⟩
  · exact ⟨q, hq, Or.inr (Or.inr (Or.inr (Or.inr (Or.inl ⟨h, rfl, rfl⟩))))⟩
theorem Cl_k {m : Int → Int} {W : Int} {l : List Cp} {q : Cp} (hq : q ∈ l) (h : qK q = 6 ∨ qK q = 7) : Cl m W l 4 (W + qO q) 0 := ⟨q, hq, Or.inr (Or.inr (Or.inr (Or.inr (Or.inr (Or.inr (Or.inr ⟨h, rfl, rfl⟩))))))⟩
/-- what others may do to a frame's words: nothing that it claims but as data -/
def Sam (m ty m_q ty_q : Int → Int) (W hi : Int) (l : List Cp) : Prop := (∀ x, W - 3 ≤ x → x < hi → ty_q x = ty x ∧ (ty x = 6 → m_q x = m x)) ∧ (∀ k x u, Cl m W l k x u → ty_q x = ty x ∧ (ty x ≠ 1 → ty x ≠ 2 → m_q x = m x)) ∧ ∀ x, x < 0 → ty_q x = ty x
theorem Sam_p {m ty m_q ty_q : Int → Int} {W b lo hi z : Int} {l : List Cp} {hh : Int} (h : Sam m ty m_q ty_q W hh l) (c : Cok m ty W b lo hi z l) : Pnt m m_q W l := fun q hq hk => by
  have a := Cl_p (m := m) (W := W) hq hk
  have b := (c.1 _ _ _ a).1
  exact (h.2.1 _ _ _ a).2 (by omega) (by omega)
theorem Rok_m {m m_q : Int → Int} {W b : Int} {r : Rt} {v : Int} (h : r.1 = 3 → m_q (W + r.2.1) = m (W + r.2.1)) (a : Rok m W b r v) : Rok m_q W b r v := by
  refine ⟨a.1, a.2.1, fun q => ?_, a.2.2.2⟩
  rw [h q]
  exact a.2.2.1 q
/-- what a register is known by doesn't change -/
theorem Kpt_m {m ty m_q ty_q : Int → Int} {W b lo hi z hh : Int} {l : List Cp} {o : Int} (h : Sam m ty m_q ty_q W hh l) (c : Cok m ty W b lo hi z l) (k : Kpt l o) : m_q (W + o) = m (W + o) := by
  obtain ⟨q, hq, ho, hk⟩ := k
  subst ho
  rcases hk with hk | hk | hk | hk
  · exact Sam_p h c q hq (Or.inl hk)
  · exact Sam_p h c q hq (Or.inr (Or.inl hk))
  · have a := Cl_k (m := m) (W := W) hq (Or.inl hk)
    have b := (c.1 _ _ _ a).1
    exact (h.2.1 _ _ _ a).2 (by omega) (by omega)
  · exact Sam_p h c q hq (Or.inr (Or.inr (Or.inl hk)))
theorem Cok_m {m ty m_q ty_q : Int → Int} {W b lo hi z hh : Int} {l : List Cp} (h : Sam m ty m_q ty_q W hh l) (c : Cok m ty W b lo hi z l) : Cok m_q ty_q W b lo hi z l := by
  have hp := Sam_p h c
  refine ⟨fun k x u a => ?_, fun q hq => ?_, fun q hq hk => ?_⟩
  · have a_q := (Cl_m hp).mp a
    have q := c.1 k x u a_q
    rw [(h.2.1 _ _ _ a_q).1, h.2.2 (-1 - x) (by omega)]
    exact q
  · obtain ⟨c1, c2, c3, c4, c5, c6⟩ := c.2.1 q hq
    refine ⟨c1, c2, ⟨fun k => ?_, fun k => ?_, fun k => ?_⟩, fun k => ?_, fun k => ⟨Rok_m (fun r => Kpt_m h c ((c5 k).2 r)) ?_, (c5 k).2⟩, c6⟩
    · rw [hp q hq (Or.inl k)]
      exact c3.1 k
    · rw [hp q hq (Or.inr (Or.inl k))]
      exact c3.2.1 k
    · rw [hp q hq (Or.inr (Or.inr k))]
      exact c3.2.2 k
    · have a := Cl_k (m := m) (W := W) hq (Or.inr k)
      have b := (c.1 _ _ _ a).1
      rw [(h.2.1 _ _ _ a).2 (by omega) (by omega)]
      exact c4 k
    · rw [hp q hq (by rcases k with k | k; exact Or.inr (Or.inr (Or.inr k)); exact Or.inl k.1)]
      exact (c5 k).1
  · obtain ⟨c1, c2⟩ := c.2.2 q hq hk
    refine ⟨fun s hs ks => ?_, fun s hs ks => ?_⟩
    · rw [hp q hq (Or.inr (Or.inl hk)), hp s hs (Or.inr (Or.inl ks))]
      exact c1 s hs ks
    · rw [hp q hq (Or.inr (Or.inl hk))]
      exact c2 s hs ks
theorem Tok_m {m ty m_q ty_q : Int → Int} {W : Int} {f : Fm} {l : List Cp} (h : Sam m ty m_q ty_q W (fHi f) l) (hH : Hok W f) (t : Tok ty W f) : Tok ty_q W f := by
  obtain ⟨a1, a2, a3, a4, a5, a6, a7, a8, a9⟩ := hH
  obtain ⟨t1, t2, t3, t4, t5, t6⟩ := t
  refine ⟨?_, ?_, ?_, ?_, fun k => ?_, fun k => ?_⟩
  · rw [(h.1 _ (by omega) (by omega)).1]; exact t1
  · rw [(h.1 _ (by omega) (by omega)).1]; exact t2
  · rw [(h.1 _ (by omega) (by omega)).1]; exact t3
  · rw [(h.1 _ (by omega) (by omega)).1]; exact t4
  · obtain ⟨b1, b2, b3, b4⟩ := t5 k
    have hk := a7 k
    rw [(h.1 _ (by omega) (by omega)).1, (h.1 _ (by omega) (by omega)).1, (h.1 _ (by omega) (by omega)).1, (h.1 _ (by omega) (by omega)).1]
    exact ⟨b1, b2, b3, b4⟩
  · obtain ⟨b1, b2, b3, b4, b5⟩ := t6 k
    refine ⟨b1, b2, ?_⟩
    rw [(h.1 _ (by omega) (by omega)).1, (h.1 _ (by omega) (by omega)).1, (h.1 _ (by omega) (by omega)).1]
    exact ⟨b3, b4, b5⟩
theorem Wok_m {K : Kd} {N : Int} {m ty m_q ty_q : Int → Int} {W : Int} {f : Fm} (h : Sam m ty m_q ty_q W (fHi f) (fQ f)) (hH : Hok W f) (t : Tok ty W f) (c : Cok m ty W (fPb f) (fLo f) (fHi f) (cZ (fCx f)) (fQ f)) (w : Wok K N m W f) : Wok K N m_q W f := by
  obtain ⟨a1, a2, a3, a4, a5, a6, a7, a8, a9⟩ := hH
  obtain ⟨t1, t2, t3, t4, t5, t6⟩ := t
  have e3 : m_q (W - 3) = m (W - 3) := (h.1 _ (by omega) (by omega)).2 t1
  have e2 : m_q (W - 2) = m (W - 2) := (h.1 _ (by omega) (by omega)).2 t2
  have e1 : m_q (W - 1) = m (W - 1) := (h.1 _ (by omega) (by omega)).2 t3
  have e0 : m_q W = m W := (h.1 _ (by omega) (by omega)).2 t4
  have hp := Sam_p h c
  obtain ⟨w1, w2, w3, w4, w5, w6, w7, w8, w9, w10, w11, w12, w13, w14, w15, w16, w17⟩ := w
  refine ⟨w1, fun k => ?_, w3, w4, fun k => ?_, w6, w7, w8, w9, w10, fun k => ?_, fun k => ?_, w13, fun k => ?_, fun k => ?_, fun k => ?_, w17⟩
  · obtain ⟨b1, b2, b3, b4, b5⟩ := t6 k
    rw [(h.1 _ (by omega) (by omega)).2 b3, (h.1 _ (by omega) (by omega)).2 b5]
    exact w2 k
  · rw [e3, e0]
    exact w5 k
  · rw [e3]
    exact w11 k
  · rw [e1]
    exact w12 k
  · rw [e2]
    obtain ⟨u, a⟩ := w14 k
    exact ⟨u, (Cl_m hp).mpr a⟩
  · obtain ⟨u, a, b⟩ := w15 k
    exact ⟨u, a, (Cl_m hp).mpr b⟩
  · obtain ⟨u, a, b⟩ := w16 k
    exact ⟨u, a, (Cl_m hp).mpr b⟩
def ug (g : Int → Fm) (r : Int) (f : Fm) : Int → Fm := fun W => if W = r then f else g W
theorem ug_e {g : Int → Fm} {r : Int} {f : Fm} : ug g r f r = f := if_pos rfl
theorem ug_n {g : Int → Fm} {r W : Int} {f : Fm} (h : W ≠ r) : ug g r f W = g W := if_neg h
theorem cnt_c {g g_q : Int → Fm} {a : Int} (h : ∀ W, (fOn (g_q W) = 1 ∧ fPa (g_q W) = a) ↔ (fOn (g W) = 1 ∧ fPa (g W) = a)) : ∀ n : Nat, cnt g_q a n = cnt g a n
  | 0 => rfl
  | n + 1 => by
    show cnt g_q a n + _ = cnt g a n + _
    rw [cnt_c h n]
    by_cases q : fOn (g (n : Int)) = 1 ∧ fPa (g (n : Int)) = a
    · rw [if_pos q, if_pos ((h _).mpr q)]
    · rw [if_neg q, if_neg (fun p => q ((h _).mp p))]
/-- what stays of a frame when it does something, and who leans on it -/
def Stay (g : Int → Fm) (r : Int) (f : Fm) : Prop := (fOn f = fOn (g r) ∧ fLo f = fLo (g r) ∧ fHi f = fHi (g r) ∧ fPa f = fPa (g r)) ∧ (∀ W, fOn (g W) = 1 → cEk (fCx (g W)) = 1 → W + cZ (fCx (g W)) + 7 ≠ r) ∧ (∀ W, fOn (g W) = 1 → fSu (g W) = 2 → ∀ e ∈ cPe (fCx (g W)), W - e.1 ≠ r) ∧ ∀ W, fOn (g W) = 1 → cEk (fCx (g W)) = 2 → fSu (g r) = 2 → fAw (g r) = fPa (g W) → fLo (g r) ≤ fLo (g W) → fHi (g W) ≤ r - 3 → fSu f = 2 ∧ fAw f = fAw (g r)
theorem ug_l {g : Int → Fm} {r : Int} {f : Fm} (s : Stay g r f) (W : Int) : fOn (ug g r f W) = fOn (g W) ∧ fLo (ug g r f W) = fLo (g W) ∧ fHi (ug g r f W) = fHi (g W) ∧ fPa (ug g r f W) = fPa (g W) := by
  by_cases h : W = r
  · subst h
    rw [ug_e]
    exact s.1
  · rw [ug_n h]
    exact ⟨rfl, rfl, rfl, rfl⟩
theorem Stay_l {K : Kd} {N : Int} {m ty : Int → Int} {g : Int → Fm} {r : Int} {f : Fm} (h : MI K N m ty g) (e : fOn f = fOn (g r) ∧ fLo f = fLo (g r) ∧ fHi f = fHi (g r) ∧ fPa f = fPa (g r)) (h1 : fSu (g r) ≠ 1) (h5 : fSx (g r) ≠ 5) (h2 : fSu (g r) = 2 → fSu f = 2 ∧ fAw f = fAw (g r)) : Stay g r f := by
  refine ⟨e, fun W hW k q => ?_, fun W hW k e he q => ?_, fun W hW k q _ _ _ => h2 q⟩
  · have := ((h.1 W hW).2.2.2.2.1.1 k).2.1
    rw [q] at this
    exact h1 this
  · have := (((h.1 W hW).2.2.2.2.2 k).1 e he).2.1
    rw [q] at this
    exact h5 this
theorem Bck_m {K : Kd} {m m_q : Int → Int} {g : Int → Fm} {r W : Int} {f : Fm} (s : Stay g r f) (hW : fOn (g W) = 1) (hm : cEk (fCx (g W)) = 1 → m_q (W + cZ (fCx (g W)) + 3) = m (W + cZ (fCx (g W)) + 3)) (b : Bck K m g W (g W)) : Bck K m_q (ug g r f) W (g W) := by
  obtain ⟨b1, b2, b3⟩ := b
  refine ⟨fun k => ?_, fun k => ?_, b3⟩
  · obtain ⟨c1, c2, c3, c4, c5⟩ := b1 k
    rw [ug_n (s.2.1 W hW k), hm k]
    exact ⟨c1, c2, c3, c4, c5⟩
  · obtain ⟨c1, V, c2, c3, c4, c5, c6⟩ := b2 k
    refine ⟨c1, V, ?_⟩
    by_cases hV : V = r
    · subst hV
      have l := ug_l s V
      rw [l.1, l.2.1, ug_e]
      obtain ⟨d1, d2⟩ := s.2.2.2 W hW k c3 c4 c5 c6
      exact ⟨c2, d1, d2.trans c4, c5, c6⟩
    · rw [ug_n hV]
      exact ⟨c2, c3, c4, c5, c6⟩
theorem Brs_m {m m_q : Int → Int} {g : Int → Fm} {r W : Int} {f : Fm} (s : Stay g r f) (hW : fOn (g W) = 1) (hm : fSu (g W) = 2 → m_q (fAw (g W) + 1) = m (fAw (g W) + 1)) (b : Brs m g W (g W)) : Brs m_q (ug g r f) W (g W) := fun k => by
  obtain ⟨b1, b2, b3, b4⟩ := b k
  refine ⟨fun e he => ?_, b2, ?_, fun V v1 v2 v3 => ?_⟩
  · obtain ⟨c1, c2, c3, c4⟩ := b1 e he
    rw [ug_n (s.2.2.1 W hW k e he)]
    exact ⟨c1, c2, c3, c4⟩
  · rw [cnt_c (g := g) (fun V => by rw [(ug_l s V).1, (ug_l s V).2.2.2]) 4016, hm k]
    exact b3
  · have l := ug_l s V
    rw [l.1] at v1
    rw [l.2.1] at v2
    rw [l.2.2.1] at v3
    obtain ⟨U, u1, u2, u3, u4⟩ := b4 V v1 v2 v3
    refine ⟨U, ?_⟩
    have lu := ug_l s U
    rw [lu.1, lu.2.1, lu.2.2.1, lu.2.2.2, l.2.1, l.2.2.1]
    exact ⟨u1, u2, u3, u4⟩
theorem Loc_m {K : Kd} {N : Int} {m ty m_q ty_q : Int → Int} {g : Int → Fm} {r W : Int} {f : Fm} (s : Stay g r f) (hW : fOn (g W) = 1) (h : Sam m ty m_q ty_q W (fHi (g W)) (fQ (g W))) (hq : fSu (g W) = 2 → m_q (fAw (g W) + 1) = m (fAw (g W) + 1)) (a : Loc K N m ty g W (g W)) : Loc K N m_q ty_q (ug g r f) W (g W) := by
  obtain ⟨a1, a2, a3, a4, a5, a6⟩ := a
  refine ⟨a1, Tok_m h a1 a2, Cok_m h a3, Wok_m h a1 a2 a3 a4, Bck_m s hW (fun k => ?_) a5, Brs_m s hW hq a6⟩
  obtain ⟨b1, b2, b3, b4, b5, b6, b7, b8⟩ := a1
  have hk := b7 k
  exact (h.1 _ (by omega) (by omega)).2 (a2.2.2.2.2.1 k).2.2.2
theorem Apt_m {m m_q : Int → Int} {W W_q : Int} {f f_q : Fm} (h1 : Pnt m m_q W (fQ f)) (h2 : Pnt m m_q W_q (fQ f_q)) (a : Apt m W f W_q f_q) : Apt m_q W f W_q f_q := ⟨a.1, fun k x u c => a.2.1 k x u ((Cl_m h1).mp c), fun k x u c => a.2.2.1 k x u ((Cl_m h2).mp c), fun x u u_q c d => a.2.2.2 x u u_q ((Cl_m h1).mp c) ((Cl_m h2).mp d)⟩
theorem Blw_m {m m_q : Int → Int} {W : Int} {f f_q : Fm} (h1 : Pnt m m_q W (fQ f)) (a : Blw m W f f_q) : Blw m_q W f f_q := ⟨a.1, a.2.1, a.2.2.1, fun k x u c => a.2.2.2 k x u ((Cl_m h1).mp c)⟩
theorem Prs_m {m m_q : Int → Int} {W W_q : Int} {f f_q : Fm} (h1 : Pnt m m_q W (fQ f)) (h2 : Pnt m m_q W_q (fQ f_q)) (a : Prs m W f W_q f_q) : Prs m_q W f W_q f_q := by
  rcases a with a | a | a
  · exact Or.inl (Apt_m h1 h2 a)
  · exact Or.inr (Or.inl (Blw_m h1 a))
  · exact Or.inr (Or.inr (Blw_m h2 a))
theorem Apt_s {m : Int → Int} {W W_q : Int} {f f_q : Fm} (a : Apt m W f W_q f_q) : Apt m W_q f_q W f := ⟨a.1.symm, a.2.2.1, a.2.1, fun x u u_q c d => by
  have := a.2.2.2 x u_q u d c
  unfold NC at this ⊢
  omega⟩
theorem Prs_s {m : Int → Int} {W W_q : Int} {f f_q : Fm} (a : Prs m W f W_q f_q) : Prs m W_q f_q W f := by
  rcases a with a | a | a
  · exact Or.inl (Apt_s a)
  · exact Or.inr (Or.inr a)
  · exact Or.inr (Or.inl a)
/-- the frame that runs does something: the others stay as they are -/
theorem MI_own {K : Kd} {N : Int} {m ty m_q ty_q : Int → Int} {g : Int → Fm} {r : Int} {f : Fm} (h : MI K N m ty g) (s : Stay g r f) (hS : ∀ W, fOn (g W) = 1 → W ≠ r → Sam m ty m_q ty_q W (fHi (g W)) (fQ (g W)) ∧ (fSu (g W) = 2 → m_q (fAw (g W) + 1) = m (fAw (g W) + 1))) (hL : Loc K N m_q ty_q (ug g r f) r f) (hP : ∀ W, fOn (g W) = 1 → W ≠ r → Prs m_q r f W (g W)) (hC : Chs m_q ty_q (ug g r f)) : MI K N m_q ty_q (ug g r f) := by
  obtain ⟨h1, h2, h3⟩ := h
  refine ⟨fun W hW => ?_, fun W W_q hW hW' hn => ?_, hC⟩
  · by_cases e : W = r
    · subst e
      rw [ug_e]
      exact hL
    · rw [(ug_l s W).1] at hW
      rw [ug_n e]
      exact Loc_m s hW (hS W hW e).1 (hS W hW e).2 (h1 W hW)
  · rw [(ug_l s W).1] at hW
    rw [(ug_l s W_q).1] at hW'
    by_cases e : W = r
    · subst e
      rw [ug_e, ug_n (fun q => hn q.symm)]
      exact hP W_q hW' (fun q => hn q.symm)
    · by_cases e_q : W_q = r
      · subst e_q
        rw [ug_e, ug_n e]
        exact Prs_s (hP W hW e)
      · rw [ug_n e, ug_n e_q]
        exact Prs_m (Sam_p (hS W hW e).1 (h1 W hW).2.2.1) (Sam_p (hS W_q hW' e_q).1 (h1 W_q hW').2.2.1) (h2 W W_q hW hW' hn)
/-- changes in one's own stretch, and of data -/
def Chg (lo hi : Int) (m ty m_q ty_q : Int → Int) : Prop := ∀ x, ¬ (lo ≤ x ∧ x < hi) → ty_q x = ty x ∧ (ty x ≠ 1 → m_q x = m x)
theorem Sam_c {K : Kd} {N : Int} {m ty m_q ty_q : Int → Int} {g : Int → Fm} {r W : Int} (h : MI K N m ty g) (hr : fOn (g r) = 1) (hW : fOn (g W) = 1) (hn : W ≠ r) (hs : fSu (g r) = 0) (c : Chg (fLo (g r)) (fHi (g r)) m ty m_q ty_q) : Sam m ty m_q ty_q W (fHi (g W)) (fQ (g W)) ∧ (fSu (g W) = 2 → m_q (fAw (g W) + 1) = m (fAw (g W) + 1)) := by
  have hw := (h.1 W hW).1
  obtain ⟨a1, a2, a3, a4, a5, a6, a7⟩ := hw
  have ht := (h.1 W hW).2.1.2.2.2.2.2
  have lr := (h.1 r hr).1.1
  rcases h.2.1 W r hW hr hn with p | p | p
  · refine ⟨⟨fun x x1 x2 => ?_, fun k x u q => ?_, fun x hx => (c x (by omega)).1⟩, fun q => ?_⟩
    · have := c x (by rcases p.1 with q | q <;> omega)
      exact ⟨this.1, fun e => this.2 (by omega)⟩
    · have := c x (p.2.1 k x u q)
      exact ⟨this.1, fun e _ => this.2 e⟩
    · obtain ⟨t1, t2, t3, t4, t5⟩ := ht q
      exact (c _ (by rcases p.1 with q | q <;> omega)).2 (by omega)
  · obtain ⟨p1, p2, p3, p4⟩ := p
    refine ⟨⟨fun x x1 x2 => ?_, fun k x u q => ?_, fun x hx => (c x (by omega)).1⟩, fun q => ?_⟩
    · have := c x (by omega)
      exact ⟨this.1, fun e => this.2 (by omega)⟩
    · have := c x (p4 k x u q)
      exact ⟨this.1, fun e _ => this.2 e⟩
    · obtain ⟨t1, t2, t3, t4, t5⟩ := ht q
      exact (c _ (by omega)).2 (by omega)
  · exact absurd hs p.2.2.1
theorem NC_w {a b c : Int} (h : sbt a b) (n : NC a c) : NC b c := ⟨fun q => n.1 ⟨h.1 q.1, q.2⟩, fun q => n.2 ⟨h.2 q.1, q.2⟩⟩
theorem sbt_r {a : Int} : sbt a a := ⟨fun q => q, fun q => q⟩
/-- rights that were there, or lie in one's own stretch -/
theorem Prs_o {m m_q : Int → Int} {r W : Int} {f0 f f1 : Fm} (e1 : fLo f = fLo f0) (e2 : fHi f = fHi f0) (hs : fSu f0 = 0) (hp : Pnt m m_q W (fQ f1)) (hc : ∀ k x u, Cl m_q r (fQ f) k x u → (∃ v, sbt v u ∧ Cl m r (fQ f0) k x v) ∨ (fLo f0 ≤ x ∧ x < fHi f0)) (a : Prs m r f0 W f1) (hl : fHi f1 ≤ 4016) : Prs m_q r f W f1 := by
  rcases a with a | a | a
  · refine Or.inl ⟨by rw [e1, e2]; exact a.1, fun k x u q => ?_, fun k x u q => ?_, fun x u u_q q q_q => ?_⟩
    · rcases hc k x u q with ⟨v, _, b⟩ | b
      · exact a.2.1 k x v b
      · rcases a.1 with d | d <;> omega
    · rw [e1, e2]
      exact a.2.2.1 k x u ((Cl_m hp).mp q)
    · have b_q := a.2.2.1 2 x u_q ((Cl_m hp).mp q_q)
      rcases hc 2 x u q with ⟨v, bv, b⟩ | b
      · exact NC_w bv (a.2.2.2 x v u_q b ((Cl_m hp).mp q_q))
      · exact absurd b b_q
  · exact absurd hs a.2.2.1
  · refine Or.inr (Or.inr ⟨by rw [e1]; exact a.1, by rw [e2]; exact a.2.1, a.2.2.1, fun k x u q => ?_⟩)
    rw [e1, e2]
    exact a.2.2.2 k x u ((Cl_m hp).mp q)
