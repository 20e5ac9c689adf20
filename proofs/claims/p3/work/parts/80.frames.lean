/-! FRAMES OF A CORE (a ghost): what the code that was made may do, step by step -/
abbrev Rt := Int × Int × Int
abbrev Cp := Int × Int × Int × Int × Rt
abbrev Hd := Int × Int × Int × Int × Int
abbrev Mo := Int × List (Int × Int) × List Int
abbrev Cx := Hd × List Cp × (Rt × Rt × Rt) × Mo
abbrev Kd := Int → Int × Int × Int
abbrev cEk (c : Cx) : Int := c.1.1
abbrev cPd (c : Cx) : Int := c.1.2.1
abbrev cZ (c : Cx) : Int := c.1.2.2.1
abbrev cD (c : Cx) : Int := c.1.2.2.2.1
abbrev cDw (c : Cx) : Int := c.1.2.2.2.2
abbrev cCp (c : Cx) : List Cp := c.2.1
abbrev cA (c : Cx) : Rt := c.2.2.1.1
abbrev cB (c : Cx) : Rt := c.2.2.1.2.1
abbrev cC (c : Cx) : Rt := c.2.2.1.2.2
abbrev cMd (c : Cx) : Int := c.2.2.2.1
abbrev cPe (c : Cx) : List (Int × Int) := c.2.2.2.2.1
abbrev cWs (c : Cx) : List Int := c.2.2.2.2.2
abbrev qK (q : Cp) : Int := q.1
abbrev qO (q : Cp) : Int := q.2.1
abbrev qN (q : Cp) : Int := q.2.2.1
abbrev qU (q : Cp) : Int := q.2.2.2.1
abbrev qR (q : Cp) : Rt := q.2.2.2.2
abbrev r0 : Rt := (0, 0, 0)
/-- other registers, other rights, another mode -/
def sR (c : Cx) (a b d : Rt) : Cx := (c.1, c.2.1, (a, b, d), c.2.2.2)
def sC (c : Cx) (l : List Cp) : Cx := (c.1, l, c.2.2.1, c.2.2.2)
def sM (c : Cx) (o : Mo) : Cx := (c.1, c.2.1, c.2.2.1, o)
def sW (c : Cx) (w : Int) : Cx := ((c.1.1, c.1.2.1, c.1.2.2.1, c.1.2.2.2.1, w), c.2.1, c.2.2.1, c.2.2.2)
/-- two stretches that share a word -/
def Ov (a n b k : Int) : Prop := a < b + k ∧ b < a + n
/-- kinds of rights: 1 data, 2 channels, 3 a pointer to data, 4 a pointer to a channel (a parameter), 5 a channel of the outside, 6 a word that is kept, 7 a word that is known, 8 a pointer to a channel (of an ALT), 9 a pointer to a channel (of an argument) -/
def wN (q : Cp) : Int := if qK q = 1 ∨ qK q = 2 then qN q else if qK q = 5 then 0 else 1
def Fre (c : Cx) (o n : Int) : Prop := ((1 ≤ o ∧ o + n ≤ cZ c) ∨ (o + n ≤ -3 ∧ -3 - cD c ≤ o)) ∧ ∀ q ∈ cCp c, qK q = 5 ∨ ¬ Ov o n (qO q) (wN q)
def sbt (a b : Int) : Prop := (b / 4 % 2 = 1 → a / 4 % 2 = 1) ∧ (b / 8 % 2 = 1 → a / 8 % 2 = 1)
theorem sbt_t {a b c : Int} (h : sbt a b) (g : sbt b c) : sbt a c := ⟨fun q => h.1 (g.1 q), fun q => h.2 (g.2 q)⟩
/-- the register's value is a channel's address, the bits u are allowed there -/
def Chr (l : List Cp) (r : Rt) (u : Int) : Prop := ∃ q ∈ l, sbt (qU q) u ∧ ((r.1 = 5 ∧ qK q = 5 ∧ qO q = r.2.1) ∨ (r.1 = 2 ∧ qK q = 2 ∧ qO q ≤ r.2.1 ∧ r.2.1 + r.2.2 ≤ qO q + qN q) ∨ (r.1 = 3 ∧ r.2.2 = 1 ∧ (qK q = 4 ∨ qK q = 8) ∧ qO q = r.2.1))
/-- the register's value is the address of n words of data -/
def Dtr (l : List Cp) (r : Rt) (n : Int) : Prop := ∃ q ∈ l, (r.1 = 2 ∧ qK q = 1 ∧ qO q ≤ r.2.1 ∧ r.2.1 + r.2.2 + n - 1 ≤ qO q + qN q) ∨ (r.1 = 3 ∧ qK q = 3 ∧ qO q = r.2.1 ∧ r.2.2 + n - 1 ≤ qN q)
/-- a word whose value can't change: what a register may be known by -/
def Kpt (l : List Cp) (o : Int) : Prop := ∃ q ∈ l, qO q = o ∧ (qK q = 3 ∨ qK q = 4 ∨ qK q = 6 ∨ qK q = 8)
def Sup (l : List Cp) (r : Rt) : Prop := r.1 = 3 → Kpt l r.2.1
/-- two channels that can't be the same -/
def Sep (l : List Cp) (r s : Rt) : Prop :=
  (r.1 = 5 ∧ s.1 = 5 ∧ r.2.1 ≠ s.2.1) ∨ (r.1 = 2 ∧ s.1 = 2 ∧ ¬ Ov r.2.1 r.2.2 s.2.1 s.2.2) ∨
  (r.1 = 5 ∧ s.1 = 2 ∧ Chr l s 0) ∨ (r.1 = 2 ∧ s.1 = 5 ∧ Chr l r 0) ∨
  (r.1 = 3 ∧ s.1 = 3 ∧ r.2.2 = 1 ∧ s.2.2 = 1 ∧ r.2.1 ≠ s.2.1 ∧ (∃ q ∈ l, qK q = 4 ∧ qO q = r.2.1) ∧ ∃ q ∈ l, qK q = 4 ∧ qO q = s.2.1) ∨
  (r.1 = 3 ∧ s.1 = 2 ∧ r.2.2 = 1 ∧ Chr l s 0 ∧ ∃ q ∈ l, qK q = 4 ∧ qO q = r.2.1) ∨
  (r.1 = 2 ∧ s.1 = 3 ∧ s.2.2 = 1 ∧ Chr l r 0 ∧ ∃ q ∈ l, qK q = 4 ∧ qO q = s.2.1)
/-- weaker: fewer rights, less known of the registers -/
def Wkr (c_q c : Cx) : Prop := c_q.1 = c.1 ∧ (cCp c_q = cCp c ∨ ((∀ q ∈ cCp c_q, q ∈ cCp c) ∧ ∀ q ∈ cCp c_q, qK q ≠ 8 ∧ qK q ≠ 9 ∧ (qK q = 3 → 1 ≤ qO q))) ∧ (cA c_q = cA c ∨ cA c_q = r0) ∧ (cB c_q = cB c ∨ cB c_q = r0) ∧ (cC c_q = cC c ∨ cC c_q = r0) ∧ c_q.2.2.2 = c.2.2.2 ∧ Sup (cCp c_q) (cA c_q) ∧ Sup (cCp c_q) (cB c_q) ∧ Sup (cCp c_q) (cC c_q) ∧ ∀ e ∈ cPe c, cMd c = 1 → (∃ q ∈ cCp c_q, qK q = 8 ∧ qO q = e.2 ∧ qU q / 8 % 2 = 1) ∧ ∃ q ∈ cCp c_q, qK q = 6 ∧ qO q = e.1
abbrev kF (K : Kd) (j : Int) : Int := (K j).1
abbrev kV (K : Kd) (j : Int) : Int := (K j).2.1
abbrev kP (K : Kd) (j : Int) : Int := (K j).2.2
def Psh (K : Kd) (c : Cx) (j : Int) (t : Rt) : Prop :=
  (kF K j = 4 ∧ (t = (5, kV K j, 0) ∨ t = r0)) ∨ (kF K j = 1 ∧ cDw c = 0 ∧ t = (2, kV K j, 1)) ∨ (kF K j = 7 ∧ cDw c = 0 ∧ ((t = (3, kV K j, 1) ∧ Kpt (cCp c) (kV K j)) ∨ t = r0)) ∨ (kF K j = 15 ∧ kV K j = 30 ∧ cDw c = 0 ∧ t = (6, 0, 0))
def Sum2 (c : Cx) (t : Rt) : Prop := t = r0 ∨ ((cA c).1 = 2 ∧ (cA c).2.2 = 1 ∧ (cB c).1 = 5 ∧ 0 ≤ (cB c).2.1 ∧ (cB c).2.1 ≤ 64 ∧ -1000000 ≤ (cA c).2.1 ∧ (cA c).2.1 ≤ 1000000 ∧ t = (2, (cA c).2.1 + (cB c).2.1, 1)) ∨ ((cA c).1 = 2 ∧ (cA c).2.2 = 1 ∧ (cB c).1 = 1 ∧ t = (2, (cA c).2.1, (cB c).2.1)) ∨ ((cA c).1 = 3 ∧ (cA c).2.2 = 1 ∧ (cB c).1 = 1 ∧ t = (3, (cA c).2.1, (cB c).2.1))
/-- what a store into a word may leave: nothing known, or a right -/
def New (c : Cx) (o : Int) (l : List Cp) : Prop :=
  ((∃ q ∈ cCp c, qK q = 1 ∧ qO q ≤ o ∧ o < qO q + qN q) ∧ l = cCp c) ∨
  (Fre c o 1 ∧ (l = cCp c ∨ (∃ n, o < 0 ∧ 1 ≤ n ∧ Dtr (cCp c) (cA c) n ∧ l = (3, o, n, 0, cA c) :: cCp c) ∨ (∃ u, 0 < o ∧ Chr (cCp c) (cA c) u ∧ l = (8, o, 1, u, r0) :: cCp c) ∨
    (∃ u, o < 0 ∧ Chr (cCp c) (cA c) u ∧ Sup (cCp c) (cA c) ∧ l = (9, o, 1, u, cA c) :: cCp c) ∨ l = (6, o, 1, 0, r0) :: cCp c ∨ ((cA c).1 = 5 ∧ l = (7, o, 1, (cA c).2.1, r0) :: cCp c)))
/-- rights that may stay while something runs below -/
def Abv (c : Cx) : Prop := ∀ q ∈ cCp c, qK q ≠ 8 ∧ qK q ≠ 9 ∧ (qK q ≠ 5 → 1 ≤ qO q)
/-- the callee's rights: its pointers are the words that the caller has just written, by rights that it keeps -/
def Cal (c c1 c2 : Cx) : Prop := (∀ q ∈ cCp c2, 1 ≤ qO q ∧ qO q < cZ c2 ∧ 1 ≤ qN q ∧ ((qK q = 3 ∧ ∃ q0 ∈ cCp c, qK q0 = 3 ∧ qO q0 = qO q - 7 - cZ c2 ∧ qN q0 = qN q ∧ Dtr (cCp c1) (qR q0) (qN q)) ∨ (qK q = 4 ∧ ∃ q0 ∈ cCp c, qK q0 = 9 ∧ qO q0 = qO q - 7 - cZ c2 ∧ Chr (cCp c1) (qR q0) (qU q)))) ∧ (∀ q ∈ cCp c, ∀ q_q ∈ cCp c, qK q = 9 → qK q_q = 9 → qO q ≠ qO q_q → Sep (cCp c1) (qR q) (qR q_q))
/-- a branch's right is part of one of the frame's around (d: what its W lies below) -/
def Prt (l : List Cp) (d : Int) (q : Cp) : Prop := ∃ q0 ∈ l, qK q0 = qK q ∧ ((qK q = 1 ∧ qO q0 ≤ qO q - d ∧ qO q - d + qN q ≤ qO q0 + qN q0) ∨ (qK q = 2 ∧ qO q0 ≤ qO q - d ∧ qO q - d + qN q ≤ qO q0 + qN q0 ∧ sbt (qU q0) (qU q)) ∨ (qK q = 3 ∧ qO q0 = qO q - d ∧ qN q ≤ qN q0) ∨ (qK q = 4 ∧ qO q0 = qO q - d ∧ sbt (qU q0) (qU q)) ∨ (qK q = 5 ∧ qO q0 = qO q ∧ sbt (qU q0) (qU q)))
/-- of two branches: no channel in both, or other bits of it -/
def Frn (d : Int) (q : Cp) (e : Int) (s : Cp) : Prop := (qK q = 2 ∨ qK q = 4 ∨ qK q = 5) → (qK s = 2 ∨ qK s = 4 ∨ qK s = 5) → NC (qU q) (qU s) ∨ (qK q = 2 ∧ qK s = 2 ∧ ¬ Ov (qO q - d) (qN q) (qO s - e) (qN s)) ∨ (qK q = 4 ∧ qK s = 4 ∧ qO q - d ≠ qO s - e) ∨ (qK q = 5 ∧ qK s = 5 ∧ qO q ≠ qO s) ∨ (qK q = 2 ∧ qK s = 5) ∨ (qK q = 5 ∧ qK s = 2) ∨ (qK q = 2 ∧ qK s = 4) ∨ (qK q = 4 ∧ qK s = 2)
/-- the branches of a PAR: what their W lies below, where they begin, what they may -/
def Kds (c0 : Cx) (w : Int) (ks : List (Int × Int × Cx)) : Prop :=
  (∀ k ∈ ks, cEk k.2.2 = 2 ∧ cPd k.2.2 = w + k.1 ∧ cDw k.2.2 = 0 ∧ 1 ≤ cZ k.2.2 ∧ 0 ≤ cD k.2.2 ∧ cZ k.2.2 + 3 ≤ k.1 ∧ k.1 + cD k.2.2 ≤ cD c0 ∧ k.2.2.2.2 = ((r0, r0, r0), (0, [], [])) ∧ ∀ q ∈ cCp k.2.2, 1 ≤ qN q ∧ Prt (cCp c0) k.1 q) ∧
  ks.Pairwise (fun k e => k.1 + 3 + cD k.2.2 ≤ e.1 - cZ e.2.2 ∧ ∀ q ∈ cCp k.2.2, ∀ s ∈ cCp e.2.2, Frn k.1 q e.1 s)
def a0 (c : Cx) : Cx := sR c r0 r0 r0
abbrev Sc := List (Int × Cx)
/-- what a step must keep: by its function and operand, what may come behind it -/
def Rul (K : Kd) (j : Int) (c : Cx) (S : Sc) : Prop :=
  (∃ t, Psh K c j t ∧ S = [(j + 1, sR c t (cA c) (cB c))]) ∨
  ((kF K j = 3 ∨ kF K j = 5 ∨ kF K j = 8 ∨ kF K j = 12) ∧ S = [(j + 1, sR c r0 (cB c) (cC c))]) ∨
  (kF K j = 15 ∧ 1 ≤ kV K j ∧ kV K j ≤ 11 ∧ cMd c = 0 ∧ ∃ t, (t = r0 ∨ (kV K j = 11 ∧ Sum2 c t) ∨ (kV K j = 1 ∧ (cA c).1 = 5 ∧ (cB c).1 = 5 ∧ t = (5, (i32 ((cB c).2.1 + (cA c).2.1)).toInt, 0)) ∨ (kV K j = 2 ∧ (cA c).1 = 5 ∧ (cB c).1 = 5 ∧ t = (5, (i32 ((cB c).2.1 - (cA c).2.1)).toInt, 0))) ∧ S = [(j + 1, sR c t (cC c) (cC c))]) ∨
  (kF K j = 15 ∧ kV K j = 0 ∧ S = [(j + 1, sR c (cB c) (cA c) (cC c))]) ∨
  (kF K j = 15 ∧ kV K j = 12 ∧ cMd c = 0 ∧ ∃ t, ((t = r0 ∨ ((cA c).1 = 5 ∧ t = (1, (cA c).2.1, 0))) ∧ S = [(j + 1, sR c t (cC c) (cC c))]) ∨ ((cA c).1 = 5 ∧ (cB c).1 = 5 ∧ ((0 ≤ (cB c).2.1 ∧ (cB c).2.1 < (cA c).2.1 ∧ t = (5, (cB c).2.1, 0) ∧ S = [(j + 1, sR c t (cC c) (cC c))]) ∨ (¬ (0 ≤ (cB c).2.1 ∧ (cB c).2.1 < (cA c).2.1) ∧ S = [])))) ∨
  (kF K j = 15 ∧ kV K j = 13 ∧ (cA c).1 = 5 ∧ (∃ t, kP K t = kP K (j + 1) + (cA c).2.1) ∧ S = [(j + 1, sR c (5, kP K (j + 1) + (cA c).2.1, 0) (cB c) (cC c))]) ∨
  (kF K j = 10 ∧ ∃ t, kP K t = kP K (j + 1) + kV K j ∧ S = [(j + 1, sR c (cB c) (cC c) (cC c)), (t, c)]) ∨
  (kF K j = 0 ∧ cMd c = 0 ∧ ∃ t, kP K t = kP K (j + 1) + kV K j ∧ S = [(t, a0 c)]) ∨
  (kF K j = 13 ∧ cDw c = 0 ∧ cMd c = 0 ∧ ∃ l, New c (kV K j) l ∧ S = [(j + 1, sC (sR c (cB c) (cC c) (cC c)) l)]) ∨
  (kF K j = 14 ∧ kV K j = 0 ∧ cMd c = 0 ∧ Dtr (cCp c) (cA c) 1 ∧ S = [(j + 1, sR c (cC c) (cC c) (cC c))]) ∨
  (kF K j = 15 ∧ kV K j = 14 ∧ cMd c = 0 ∧ (∃ o n x, cA c = (2, o, 1) ∧ cB c = (5, n, 0) ∧ cC c = (5, x, 0) ∧ 1 ≤ o ∧ 1 ≤ n ∧ Fre c o n ∧ (S = [(j + 1, sC (a0 c) ((1, o, n, 0, r0) :: cCp c))] ∨ (x = -1 ∧ S = [(j + 1, sC (a0 c) ((2, o, n, 12, r0) :: cCp c))])))) ∨
  (kF K j = 11 ∧ cEk c = 1 ∧ cMd c = 0 ∧ ((cDw c = cZ c + 3 ∧ kV K j = -(cZ c + 3) ∧ S = [(j + 1, sW c 0)]) ∨ (cDw c = 0 ∧ kV K j = cZ c + 3 ∧ S = [(j + 1, sW (sC (a0 c) []) (cZ c + 3))]))) ∨
  (kF K j = 9 ∧ cDw c = 0 ∧ cMd c = 0 ∧ ∃ t c1 c2, kP K t = kP K (j + 1) + kV K j ∧ Wkr c1 (a0 c) ∧ Abv c1 ∧ Cal c c1 c2 ∧ cEk c2 = 1 ∧ cDw c2 = cZ c2 + 3 ∧ 1 ≤ cZ c2 ∧ 0 ≤ cD c2 ∧ 7 + cZ c2 + cD c2 ≤ cD c ∧ c2.2.2 = ((r0, r0, r0), (0, [], [])) ∧ S = [(j + 1, c1), (t, c2)]) ∨
  (kF K j = 15 ∧ kV K j = 19 ∧ cEk c = 1 ∧ cDw c = cZ c + 3 ∧ cMd c = 0) ∨
  (kF K j = 15 ∧ (kV K j = 18 ∨ kV K j = 29) ∧ cMd c = 0) ∨
  (kF K j = 15 ∧ kV K j = 31 ∧ cMd c = 0 ∧ cEk c = 0) ∨
  (kF K j = 13 ∧ cDw c = 0 ∧ cMd c = 0 ∧ ∃ w b c0 ks, kV K j = w + 2 ∧ 1 ≤ w ∧ w + 3 ≤ cZ c ∧ (cA c).1 = 6 ∧ Fre c (w + 2) 1 ∧ (∃ q ∈ cCp c, qK q = 7 ∧ qO q = w ∧ qU q = kP K b) ∧ (∃ q ∈ cCp c, qK q = 7 ∧ qO q = w + 1 ∧ qU q = (ks.length : Int)) ∧ Wkr c0 (a0 c) ∧ Abv c0 ∧ (∀ q ∈ cCp c0, qK q = 5 ∨ ¬ Ov w 3 (qO q) (wN q)) ∧ Kds c0 w ks ∧ S = (b, c0) :: (j + 1, sM (sC (a0 c) []) (2, ks.map (fun k => (k.1, k.2.1)), [w])) :: ks.map (fun k => (k.2.1, k.2.2))) ∨
  (kF K j = 15 ∧ (kV K j = 15 ∨ kV K j = 16) ∧ cMd c = 2 ∧ ∃ d t l, cPe c = (d, t) :: l ∧ (kV K j = 16 → l ≠ []) ∧ cA c = (2, -d, 1) ∧ (cB c).1 = 5 ∧ (cB c).2.1 = kP K t ∧ S = [(j + 1, sM (sR c (cC c) (cC c) (cC c)) (2, l, cWs c))]) ∨
  (kF K j = 15 ∧ kV K j = 18 ∧ cMd c = 2 ∧ cPe c = []) ∨
  (kF K j = 15 ∧ kV K j = 17 ∧ cEk c = 2 ∧ cMd c = 0 ∧ cA c = (2, cPd c, 1)) ∨
  (kF K j = 15 ∧ kV K j = 20 ∧ cDw c = 0 ∧ cMd c = 0 ∧ Chr (cCp c) (cA c) 8 ∧ Dtr (cCp c) (cB c) 1 ∧ S = [(j + 1, a0 c)]) ∨
  (kF K j = 15 ∧ kV K j = 21 ∧ cDw c = 0 ∧ cMd c = 0 ∧ Chr (cCp c) (cA c) 4 ∧ S = [(j + 1, a0 c)]) ∨
  (kF K j = 15 ∧ kV K j = 22 ∧ cDw c = 0 ∧ cMd c = 0 ∧ S = [(j + 1, sM (a0 c) (1, [], []))]) ∨
  (kF K j = 15 ∧ kV K j = 23 ∧ cDw c = 0 ∧ cMd c = 1 ∧ ∃ g h q q_q, q ∈ cCp c ∧ qK q = 8 ∧ qO q = h ∧ qU q / 8 % 2 = 1 ∧ q_q ∈ cCp c ∧ qK q_q = 6 ∧ qO q_q = g ∧ cA c = (3, h, 1) ∧ cB c = (3, g, 1) ∧ S = [(j + 1, sM (a0 c) (1, (g, h) :: cPe c, cWs c))]) ∨
  (kF K j = 15 ∧ kV K j = 24 ∧ cDw c = 0 ∧ cMd c = 1 ∧ S = [(j + 1, a0 c)]) ∨
  (kF K j = 15 ∧ kV K j = 25 ∧ cDw c = 0 ∧ cMd c = 1 ∧ S = [(j + 1, a0 c)]) ∨
  (kF K j = 15 ∧ kV K j = 26 ∧ cDw c = 0 ∧ cMd c = 1 ∧ ∃ g h x l, cA c = (3, h, 1) ∧ cB c = (3, g, 1) ∧ cC c = (5, x, 0) ∧ 0 ≤ x ∧ (∃ q ∈ cCp c, qK q = 8 ∧ qO q = h ∧ qU q / 8 % 2 = 1) ∧ (∀ e ∈ cPe c, e = (g, h) ∨ e ∈ l) ∧ (∀ e ∈ l, e ∈ cPe c) ∧ S = [(j + 1, sM (a0 c) (1, l, x :: cWs c))]) ∨
  (kF K j = 15 ∧ kV K j = 27 ∧ cDw c = 0 ∧ cMd c = 1 ∧ ∃ x, cB c = (5, x, 0) ∧ 0 ≤ x ∧ S = [(j + 1, sM (a0 c) (1, cPe c, x :: cWs c))]) ∨
  (kF K j = 15 ∧ kV K j = 28 ∧ cDw c = 0 ∧ cMd c = 1 ∧ cPe c = [] ∧ (j + 1, sM (a0 c) (0, [], [])) ∈ S ∧ ∀ x ∈ cWs c, ∃ t, kP K t = kP K (j + 1) + x ∧ (t, sM (a0 c) (0, [], [])) ∈ S)
theorem Wkr_t {a b c : Cx} (h : Wkr a b) (g : Wkr b c) : Wkr a c := by
  obtain ⟨h1, h2, h3, h4, h5, h6, h7, h8, h9, h10⟩ := h
  obtain ⟨g1, g2, g3, g4, g5, g6, g7, g8, g9, g10⟩ := g
  have md : cMd b = cMd c := congrArg (fun q : Mo => q.1) g6
  have pe : cPe b = cPe c := congrArg (fun q : Mo => q.2.1) g6
  refine ⟨h1.trans g1, ?_, ?_, ?_, ?_, h6.trans g6, h7, h8, h9, fun e he m => h10 e (pe ▸ he) (md.trans m)⟩
  · rcases h2 with h2 | h2 <;> rcases g2 with g2 | g2
    · exact Or.inl (h2.trans g2)
    · rw [h2]
      exact Or.inr g2
    · rw [g2] at h2
      exact Or.inr h2
    · exact Or.inr ⟨fun q hq => g2.1 q (h2.1 q hq), h2.2⟩
  · rcases h3 with h3 | h3
    · rw [h3]
      exact g3
    · exact Or.inr h3
  · rcases h4 with h4 | h4
    · rw [h4]
      exact g4
    · exact Or.inr h4
  · rcases h5 with h5 | h5
    · rw [h5]
      exact g5
    · exact Or.inr h5
/-- a step at which all that can come keeps these rules, or one that is given -/
def Gd (K : Kd) (N : Int) (P : Int → Cx → Prop) (j : Int) (c : Cx) : Prop := ∃ Ty : Int → Cx → Prop, Ty j c ∧ ∀ i d, Ty i d → ∃ e, Wkr e d ∧ (P i e ∨ (0 ≤ i ∧ i < N ∧ ∃ S, Rul K i e S ∧ ∀ s ∈ S, Ty s.1 s.2))
/-- the same, one step at least -/
def Gs (K : Kd) (N : Int) (P : Int → Cx → Prop) (j : Int) (c : Cx) : Prop := 0 ≤ j ∧ j < N ∧ ∃ e S, Wkr e c ∧ Rul K j e S ∧ ∀ s ∈ S, Gd K N P s.1 s.2
theorem Gd_o {K : Kd} {N : Int} {P : Int → Cx → Prop} {j : Int} {c : Cx} (h : Gd K N P j c) : (∃ e, Wkr e c ∧ P j e) ∨ Gs K N P j c := by
  obtain ⟨Ty, h1, h2⟩ := h
  obtain ⟨e, w, q | ⟨a, b, S, r, s⟩⟩ := h2 j c h1
  · exact Or.inl ⟨e, w, q⟩
  · exact Or.inr ⟨a, b, e, S, w, r, fun x hx => ⟨Ty, s x hx, h2⟩⟩
theorem Gd_i {K : Kd} {N : Int} {P : Int → Cx → Prop} {Q : Int → Cx → Prop} (h : ∀ j c, Q j c → ∃ e, Wkr e c ∧ (P j e ∨ (0 ≤ j ∧ j < N ∧ ∃ S, Rul K j e S ∧ ∀ s ∈ S, Q s.1 s.2 ∨ Gd K N P s.1 s.2))) {j : Int} {c : Cx} (q : Q j c) : Gd K N P j c := by
  refine ⟨fun i d => Q i d ∨ Gd K N P i d, Or.inl q, fun i d q => ?_⟩
  rcases q with q | q
  · exact h i d q
  · rcases Gd_o q with ⟨e, w, p⟩ | ⟨a, b, e, S, w, r, s⟩
    · exact ⟨e, w, Or.inl p⟩
    · exact ⟨e, w, Or.inr ⟨a, b, S, r, fun x hx => Or.inr (s x hx)⟩⟩
theorem Gd_p {K : Kd} {N : Int} {P : Int → Cx → Prop} {j : Int} {e c : Cx} (w : Wkr e c) (h : P j e) : Gd K N P j c := Gd_i (Q := fun i d => i = j ∧ d = c) (fun i d q => by
  obtain ⟨rfl, rfl⟩ := q
  exact ⟨e, w, Or.inl h⟩) ⟨rfl, rfl⟩
theorem Gs_d {K : Kd} {N : Int} {P : Int → Cx → Prop} {j : Int} {c : Cx} (h : Gs K N P j c) : Gd K N P j c := Gd_i (Q := fun i d => i = j ∧ d = c) (fun i d q => by
  obtain ⟨rfl, rfl⟩ := q
  obtain ⟨a, b, e, S, w, r, s⟩ := h
  exact ⟨e, w, Or.inr ⟨a, b, S, r, fun x hx => Or.inr (s x hx)⟩⟩) ⟨rfl, rfl⟩
theorem Gs_w {K : Kd} {N : Int} {P : Int → Cx → Prop} {j : Int} {e c : Cx} (w : Wkr e c) (h : Gs K N P j e) : Gs K N P j c := by
  obtain ⟨a, b, e_q, S, w_q, r, s⟩ := h
  exact ⟨a, b, e_q, S, Wkr_t w_q w, r, s⟩
theorem Gd_w {K : Kd} {N : Int} {P : Int → Cx → Prop} {j : Int} {e c : Cx} (w : Wkr e c) (h : Gd K N P j e) : Gd K N P j c := by
  rcases Gd_o h with ⟨e_q, w_q, p⟩ | h
  · exact Gd_p (Wkr_t w_q w) p
  · exact Gs_d (Gs_w w h)
/-- a loop: what is assumed of its head may be used behind a step -/
theorem Gd_l {K : Kd} {N : Int} {P : Int → Cx → Prop} {j : Int} {c : Cx} (h : Gs K N (fun i d => P i d ∨ (i = j ∧ d = c)) j c) : Gd K N P j c := by
  refine Gd_i (Q := fun i d => Gd K N (fun i d => P i d ∨ (i = j ∧ d = c)) i d) (fun i d q => ?_) (Gs_d h)
  rcases Gd_o q with ⟨e, w, p | ⟨q1, q2⟩⟩ | ⟨a, b, e, S, w, r, s⟩
  · exact ⟨e, w, Or.inl p⟩
  · subst q1 q2
    obtain ⟨a, b, e_q, S, w_q, r, s⟩ := h
    exact ⟨e_q, Wkr_t w_q w, Or.inr ⟨a, b, S, r, fun x hx => Or.inl (s x hx)⟩⟩
  · exact ⟨e, w, Or.inr ⟨a, b, S, r, fun x hx => Or.inl (s x hx)⟩⟩
