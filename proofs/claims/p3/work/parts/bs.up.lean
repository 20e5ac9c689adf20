/-! what is allowed (uP), from what is used (vP) and what was checked (ckP) -/
def cnm (T : Nat → Nat → Int) (s : Int) : Prop := T 7 s.toNat = 3 ∨ T 7 s.toNat = 4 ∨ T 7 s.toNat = 8 ∨ T 7 s.toNat = 11 ∨ T 7 s.toNat = 12 ∨ T 7 s.toNat = 13
theorem or_u {a b : Int} (h0 : 0 ≤ a) (h1 : a ≤ 15) (h2 : 0 ≤ b) (h3 : b ≤ 15) : ((i32 a ||| i32 b).toInt % 2 = 1 → a % 2 = 1 ∨ b % 2 = 1) ∧ ((i32 a ||| i32 b).toInt / 2 % 2 = 1 → a / 2 % 2 = 1 ∨ b / 2 % 2 = 1) ∧ ((i32 a ||| i32 b).toInt / 4 % 2 = 1 → a / 4 % 2 = 1 ∨ b / 4 % 2 = 1) ∧ ((i32 a ||| i32 b).toInt / 8 % 2 = 1 → a / 8 % 2 = 1 ∨ b / 8 % 2 = 1) := by
  have q : ∀ x y : Fin 16, ((i32 (x.val : Int) ||| i32 (y.val : Int)).toInt % 2 = 1 → (x.val : Int) % 2 = 1 ∨ (y.val : Int) % 2 = 1) ∧ ((i32 (x.val : Int) ||| i32 (y.val : Int)).toInt / 2 % 2 = 1 → (x.val : Int) / 2 % 2 = 1 ∨ (y.val : Int) / 2 % 2 = 1) ∧ ((i32 (x.val : Int) ||| i32 (y.val : Int)).toInt / 4 % 2 = 1 → (x.val : Int) / 4 % 2 = 1 ∨ (y.val : Int) / 4 % 2 = 1) ∧ ((i32 (x.val : Int) ||| i32 (y.val : Int)).toInt / 8 % 2 = 1 → (x.val : Int) / 8 % 2 = 1 ∨ (y.val : Int) / 8 % 2 = 1) := by decide
  have := q ⟨a.toNat, by omega⟩ ⟨b.toNat, by omega⟩
  simp only at this
  rw [show ((a.toNat : Nat) : Int) = a by omega, show ((b.toNat : Nat) : Int) = b by omega] at this
  exact this
theorem hb_o {d a b : Int} (h0 : 0 ≤ a) (h1 : a ≤ 15) (h2 : 0 ≤ b) (h3 : b ≤ 15) (ha : hb d a) (hb' : hb d b) : hb d (i32 a ||| i32 b).toInt := by
  obtain ⟨q1, q2, q3, q4⟩ := or_u h0 h1 h2 h3
  refine ⟨fun w => ?_, fun w => ?_, fun w => ?_, fun w => ?_⟩
  · rcases q1 w with w | w
    · exact ha.1 w
    · exact hb'.1 w
  · rcases q2 w with w | w
    · exact ha.2.1 w
    · exact hb'.2.1 w
  · rcases q3 w with w | w
    · exact ha.2.2.1 w
    · exact hb'.2.2.1 w
  · rcases q4 w with w | w
    · exact ha.2.2.2 w
    · exact hb'.2.2.2 w
theorem hb_s {a b : Int} (h : hb a b) : sbt a b := ⟨h.2.2.1, h.2.2.2⟩
theorem OKc_o {T : Nat → Nat → Int} {w s a b : Int} (h0 : 0 ≤ a) (h1 : a ≤ 15) (h2 : 0 ≤ b) (h3 : b ≤ 15) (ha : OKc T w s a) (hb' : OKc T w s b) : OKc T w s (i32 a ||| i32 b).toInt := by
  obtain ⟨_, _, q3, q4⟩ := or_u h0 h1 h2 h3
  refine ⟨fun k => ⟨(ha.1 k).1, ?_⟩, fun k => ⟨(ha.2.1 k).1, ?_⟩, fun k => ⟨(ha.2.2 k).1, fun w => ?_, fun w => ?_⟩⟩
  · have x := (ha.1 k).2
    have y := (hb'.1 k).2
    omega
  · have x := (ha.2.1 k).2
    have y := (hb'.2.1 k).2
    omega
  · rcases q3 w with w | w
    · exact (ha.2.2 k).2.1 w
    · exact (hb'.2.2 k).2.1 w
  · rcases q4 w with w | w
    · exact (ha.2.2 k).2.2 w
    · exact (hb'.2.2 k).2.2 w
theorem OKc_d {T : Nat → Nat → Int} {w s a b : Int} (h : hb a b) (ha : OKc T w s a) : OKc T w s b := by
  have s_q := hb_s h
  refine ⟨fun k => ⟨(ha.1 k).1, ?_⟩, fun k => ⟨(ha.2.1 k).1, ?_⟩, fun k => ⟨(ha.2.2 k).1, fun q => (ha.2.2 k).2.1 (s_q.1 q), fun q => (ha.2.2 k).2.2 (s_q.2 q)⟩⟩
  · have x := (ha.1 k).2
    have y := s_q.2
    omega
  · have x := (ha.2.1 k).2
    have y := s_q.1
    omega
/-- fewer signs are allowed too -/
def Dcl (U : Us) : Prop := ∀ s al e b b_q : Int, 0 ≤ b → b ≤ 15 → 0 ≤ b_q → b_q ≤ 15 → hb b b_q → U s al e b → U s al e b_q
theorem Clo_Ud {U : Us} {s0 s1 : Int} (h : Clo U) : Clo (Ud U s0 s1) := fun s al e b b_q a1 a2 a3 a4 x y => by
  rcases x with x | x
  · rcases y with y | y
    · exact Or.inl (h s al e b b_q a1 a2 a3 a4 x y)
    · exact Or.inr y
  · exact Or.inr x
theorem Dcl_Ud {U : Us} {s0 s1 : Int} (h : Dcl U) : Dcl (Ud U s0 s1) := fun s al e b b_q a1 a2 a3 a4 k x => by
  rcases x with x | x
  · exact Or.inl (h s al e b b_q a1 a2 a3 a4 k x)
  · exact Or.inr x
theorem Clo_pUs {T : Nat → Nat → Int} {p : Int} : Clo (pUs T p) := fun _ _ _ _ _ a1 a2 a3 a4 x y => OKc_o a1 a2 a3 a4 x y
theorem Dcl_pUs {T : Nat → Nat → Int} {p : Int} : Dcl (pUs T p) := fun _ _ _ _ _ _ _ _ _ k x => OKc_d k x
theorem Clo_pU {T : Nat → Nat → Int} {Bu : Int → Int} {q : Nat} : Clo (pU T Bu q) := fun s al e b b_q a1 a2 a3 a4 x y => by
  obtain ⟨_, _, q3, q4⟩ := or_u a1 a2 a3 a4
  refine ⟨x.1, x.2.1, x.2.2.1, fun w => ?_, fun w => ?_⟩
  · rcases q3 w with w | w
    · exact x.2.2.2.1 w
    · exact y.2.2.2.1 w
  · rcases q4 w with w | w
    · exact x.2.2.2.2 w
    · exact y.2.2.2.2 w
theorem Dcl_pU {T : Nat → Nat → Int} {Bu : Int → Int} {q : Nat} : Dcl (pU T Bu q) := fun s al e b b_q _ _ _ _ k x => ⟨x.1, x.2.1, x.2.2.1, sbt_t x.2.2.2 (hb_s k)⟩
/-- what is known of each use: its signs, that its name is seen, that it was checked -/
def Xu (T : Nat → Nat → Int) (w : Int) (V : Nat → Prop) (s0 : Int) : Us := fun s al e b => (1 ≤ b ∧ b ≤ 15) ∧ (0 ≤ s ∧ (V s.toNat ∨ s0 ≤ s)) ∧ (cnm T s → (T 7 s.toNat ≠ 4 → al = 0 ∧ e = 0) ∧ OKc T w s b)
def Qx (Q : Us) (T : Nat → Nat → Int) (w : Int) (V : Nat → Prop) (s0 : Int) : Us := fun s al e b => Q s al e b ∧ Xu T w V s0 s al e b
def BUb (T : Nat → Nat → Int) (Bu : Int → Int) (pb : Int) : Prop := ∀ q j : Int, 0 ≤ q → q < pb → 0 ≤ j → j < T 30 q.toNat → 0 ≤ Bu (T 29 q.toNat + j) ∧ Bu (T 29 q.toNat + j) ≤ 15
theorem rU_x {T : Nat → Nat → Int} {R : Nat → Int} {E E' : Us → Int → Prop} {Q Q_q : Us} {x d : Int} (k3 : T 15 x.toNat = 3 → T 7 (T 17 x.toNat).toNat = 2 ∨ T 7 (T 17 x.toNat).toNat = 7 ∨ T 7 (T 17 x.toNat).toNat = 4) (c : d ≠ 0 → ∀ al e, (T 7 (T 17 x.toNat).toNat ≠ 2 ∧ T 7 (T 17 x.toNat).toNat ≠ 7 ∧ T 7 (T 17 x.toNat).toNat ≠ 4 → al = 0 ∧ e = 0) → Q (T 17 x.toNat) al e d → Q_q (T 17 x.toNat) al e d) (ee : T 15 x.toNat = 3 → E Q (T 18 x.toNat) → E' Q_q (T 18 x.toNat)) (h : rU T R E Q x d) : rU T R E' Q_q x d := by
  refine ⟨fun k d0 => c d0 _ _ (fun q => ⟨?_, rfl⟩) (h.1 k d0), fun k => ⟨⟨fun d0 i => c d0 _ _ (fun q => ?_) ((h.2 k).1.1 d0 i), fun d0 i => c d0 _ _ (fun q => ?_) ((h.2 k).1.2 d0 i)⟩, ee k (h.2 k).2⟩⟩
  · unfold ar1
    exact if_neg (by omega)
  · have := k3 k
    exfalso
    omega
  · have := k3 k
    exfalso
    omega
theorem nc_val {T : Nat → Nat → Int} {s : Int} (h : kVal (T 7 s.toNat)) : ¬ cnm T s := by
  unfold kVal at h
  unfold cnm
  omega
theorem nc_var {T : Nat → Nat → Int} {s : Int} (h : kVar (T 7 s.toNat)) : ¬ cnm T s := by
  unfold kVar at h
  unfold cnm
  omega
theorem nc_arr {T : Nat → Nat → Int} {s : Int} (h : kArr (T 7 s.toNat)) : ¬ cnm T s := by
  unfold kArr at h
  unfold cnm
  omega
theorem eU_x {T : Nat → Nat → Int} {V : Nat → Prop} {R : Nat → Int} {Q Q_q : Us} {sb : Int} (c : ∀ s al e, SY V sb s → ¬ cnm T s → Q s al e 1 → Q_q s al e 1) : ∀ {k n : Nat} {e lo hi : Int}, wE T V sb n e lo hi → eU T R k Q e → eU T R k Q_q e
  | 0, _, _, _, _, _, h => h
  | k + 1, n, e, lo, hi, w, ⟨h1, h2, h3⟩ => by
    obtain ⟨m, rfl⟩ := wE_pos w
    refine ⟨fun q => ?_, fun q => ?_, fun q => eU_x c (wE_i5 w q) (h3 q)⟩
    · have z : SY V sb (T 17 e.toNat) ∧ ¬ cnm T (T 17 e.toNat) ∧ (T 15 e.toNat = 3 → T 7 (T 17 e.toNat).toNat = 2 ∨ T 7 (T 17 e.toNat).toNat = 7 ∨ T 7 (T 17 e.toNat).toNat = 4) := by
        rcases q with q | q
        · obtain ⟨g1, g2⟩ := wE_i2 w q
          exact ⟨g1, nc_val g2, fun q_q => by omega⟩
        · obtain ⟨g1, g2, _⟩ := wE_i3 w q
          exact ⟨g1, nc_arr g2, fun _ => by unfold kArr at g2; omega⟩
      exact rU_x z.2.2 (fun _ al f _ u => c _ al f z.1 z.2.1 u) (fun k3 u => eU_x c (wE_i3 w k3).2.2 u) (h1 q)
    · obtain ⟨m4, _, _, g3, g4⟩ := wE_i4 w q
      exact ⟨eU_x c g3 (h2 q).1, eU_x c g4 (h2 q).2⟩
/-- a place of data, of channels -/
theorem rU_d {T : Nat → Nat → Int} {V : Nat → Prop} {R : Nat → Int} {Q Q_q : Us} {sb x d lo hi : Int} {k n : Nat} (c : ∀ s al e, SY V sb s → ¬ cnm T s → Q s al e 1 → Q_q s al e 1) (cd : d ≠ 0 → ∀ s al e, SY V sb s → ¬ cnm T s → Q s al e d → Q_q s al e d) (w : wR T V sb n 0 x lo hi) (h : rU T R (eU T R k) Q x d) : rU T R (eU T R k) Q_q x d := by
  have z : SY V sb (T 17 x.toNat) ∧ ¬ cnm T (T 17 x.toNat) ∧ (T 15 x.toNat = 3 → T 7 (T 17 x.toNat).toNat = 2 ∨ T 7 (T 17 x.toNat).toNat = 7 ∨ T 7 (T 17 x.toNat).toNat = 4) := by
    rcases w.2.2 with ⟨g1, g2, g3⟩ | ⟨g1, g2, g3, _⟩
    · unfold kRef at g3
      rcases g3 with g3 | g3
      · exact ⟨g2, nc_var g3.2, fun q => by omega⟩
      · omega
    · unfold kRow at g3
      rcases g3 with g3 | g3
      · exact ⟨g2, nc_arr g3.2, fun _ => by have := g3.2; unfold kArr at this; omega⟩
      · omega
  exact rU_x z.2.2 (fun d0 al f _ u => cd d0 _ al f z.1 z.2.1 u) (fun k3 u => eU_x c (wR_i3 w k3).2.2 u) h
theorem rU_w {T : Nat → Nat → Int} {V : Nat → Prop} {R : Nat → Int} {Q Q_q : Us} {E E' : Us → Int → Prop} {sb z x d lo hi : Int} (cd : d ≠ 0 → ∀ s al e, SY V sb s → ¬ cnm T s → Q s al e d → Q_q s al e d) (w : wW T V sb z x lo hi) (h : rU T R E Q x d) : rU T R E' Q_q x d := by
  obtain ⟨_, _, g1, g2, g3, _⟩ := w
  exact rU_x (fun q => by omega) (fun d0 al f _ u => cd d0 _ al f g2 (nc_arr g3) u) (fun k3 _ => by omega) h
theorem wR_c {T : Nat → Nat → Int} {V : Nat → Prop} {sb x lo hi : Int} {n : Nat} (w : wR T V sb n 1 x lo hi) : SY V sb (T 17 x.toNat) ∧ cnm T (T 17 x.toNat) ∧ (T 15 x.toNat = 3 → T 7 (T 17 x.toNat).toNat = 4) ∧ (T 15 x.toNat ≠ 3 → T 15 x.toNat = 2 ∧ T 7 (T 17 x.toNat).toNat ≠ 2 ∧ T 7 (T 17 x.toNat).toNat ≠ 7 ∧ T 7 (T 17 x.toNat).toNat ≠ 4) := by
  rcases w.2.2 with ⟨g1, g2, g3⟩ | ⟨g1, g2, g3, _⟩
  · unfold kRef kCh at g3
    unfold cnm
    exact ⟨g2, by omega, fun q => by omega, fun q => by omega⟩
  · unfold kRow at g3
    unfold cnm
    exact ⟨g2, by omega, fun q => by omega, fun q => absurd g1 q⟩
theorem rU_c {T : Nat → Nat → Int} {V : Nat → Prop} {R : Nat → Int} {Q Q_q : Us} {sb x d lo hi : Int} {k n : Nat} (c : ∀ s al e, SY V sb s → ¬ cnm T s → Q s al e 1 → Q_q s al e 1) (w : wR T V sb n 1 x lo hi) (cd : d ≠ 0 → ∀ al e, SY V sb (T 17 x.toNat) → (T 7 (T 17 x.toNat).toNat ≠ 4 → al = 0 ∧ e = 0) → Q (T 17 x.toNat) al e d → Q_q (T 17 x.toNat) al e d) (h : rU T R (eU T R k) Q x d) : rU T R (eU T R k) Q_q x d := by
  obtain ⟨z1, z2, z3, z4⟩ := wR_c w
  refine rU_x (fun q => Or.inr (Or.inr (z3 q))) (fun d0 al f g u => cd d0 al f z1 (fun q => ?_) u) (fun k3 u => eU_x c (wR_i3 w k3).2.2 u) h
  by_cases k3 : T 15 x.toNat = 3
  · exact absurd (z3 k3) q
  · exact g (z4 k3).2
theorem Qx_n {T : Nat → Nat → Int} {V : Nat → Prop} {Q : Us} {w sb s0 t0 s al e d : Int} (h1 : 1 ≤ d) (h2 : d ≤ 15) (v : SY (Vd V s0 t0) sb s) (n : ¬ cnm T s) (q : Q s al e d) : Qx Q T w V s0 s al e d := by
  refine ⟨q, ⟨h1, h2⟩, ⟨v.1, ?_⟩, fun k => absurd k n⟩
  have v0 := v.1
  rcases v.2.2 with x | x
  · exact Or.inl x
  · right
    omega
theorem Qx_c {T : Nat → Nat → Int} {V : Nat → Prop} {Q : Us} {w sb s0 t0 s al e d : Int} (h1 : 1 ≤ d) (h2 : d ≤ 15) (v : SY (Vd V s0 t0) sb s) (n : T 7 s.toNat ≠ 4 → al = 0 ∧ e = 0) (o : OKc T w s d) (q : Q s al e d) : Qx Q T w V s0 s al e d := by
  refine ⟨q, ⟨h1, h2⟩, ⟨v.1, ?_⟩, fun k => ⟨n, o⟩⟩
  have v0 := v.1
  rcases v.2.2 with x | x
  · exact Or.inl x
  · right
    omega
theorem Qx_m {T : Nat → Nat → Int} {V V_q : Nat → Prop} {Q : Us} {w s0 s0' : Int} (hv : ∀ s : Nat, V_q s → V s ∨ s0 ≤ (s : Int)) (hs : s0 ≤ s0') : ∀ s al e b, Qx Q T w V_q s0' s al e b → Qx Q T w V s0 s al e b := fun s al e b h => by
  refine ⟨h.1, h.2.1, ⟨h.2.2.1.1, ?_⟩, h.2.2.2⟩
  have v0 := h.2.2.1.1
  rcases h.2.2.1.2 with x | x
  · rcases hv _ x with y | y
    · exact Or.inl y
    · right
      omega
  · right
    omega
theorem wP_t {T : Nat → Nat → Int} {sb pb : Int} {n : Nat} {V : Nat → Prop} {p lo hi s0 s1 : Int} (w : wP T sb pb (n + 1) V p lo hi s0 s1) : lo ≤ p ∧ 0 ≤ s0 ∧ T 23 p.toNat = s0 ∧ 0 ≤ T 24 p.toNat ∧ s0 + T 24 p.toNat ≤ s1 ∧ wSt T sb pb (wP T sb pb n) (Vd V s0 (s0 + T 24 p.toNat)) p lo hi (s0 + T 24 p.toNat) s1 := by
  unfold wP at w
  exact ⟨w.1, w.2.2.1, w.2.2.2.1, w.2.2.2.2.1, w.2.2.2.2.2.1, w.2.2.2.2.2.2.2⟩
theorem vP_str {T : Nat → Nat → Int} {Bu : Int → Int} {sb pb w : Int} {Q : Us} (bu : BUb T Bu pb) : ∀ {n : Nat} {V : Nat → Prop} {S : Int → Int} {p lo hi s0 s1 : Int}, 0 ≤ lo → wP T sb pb n V p lo hi s0 s1 → ckP T Bu w n S p → vP T Bu n S Q p → vP T Bu n S (Qx Q T w V s0) p
  | 0, _, _, _, _, _, _, _, _, t, _, _ => t.elim
  | n + 1, V, S, p, lo, hi, s0, s1, l0', t, ⟨k1, k2, k3, k4, k5, k6, k7⟩, ⟨h1, h2, h3, h4, h5, h6, h7, h8, h9⟩ => by
    obtain ⟨lp, s00, t23, t24, t1, w8⟩ := wP_t t
    have c1 : ∀ s al e, SY (Vd V s0 (s0 + T 24 p.toNat)) sb s → ¬ cnm T s → Q s al e 1 → Qx Q T w V s0 s al e 1 := fun s al e v m q => Qx_n (by omega) (by omega) v m q
    have c2 : (2 : Int) ≠ 0 → ∀ s al e, SY (Vd V s0 (s0 + T 24 p.toNat)) sb s → ¬ cnm T s → Q s al e 2 → Qx Q T w V s0 s al e 2 := fun _ s al e v m q => Qx_n (by omega) (by omega) v m q
    have mm : ∀ {V_q : Nat → Prop} {s0' : Int}, (∀ s : Nat, V_q s → V s ∨ s0 ≤ (s : Int)) → s0 ≤ s0' → ∀ {S_q : Int → Int} {c : Int}, vP T Bu n S_q (Qx Q T w V_q s0') c → vP T Bu n S_q (Qx Q T w V s0) c := fun {V_q s0'} hv hs {S_q c} h => vP_mon _ _ (Qx_m hv hs) h
    have v1 : ∀ s : Nat, Vd V s0 (s0 + T 24 p.toNat) s → V s ∨ s0 ≤ (s : Int) := fun s h => by
      rcases h with h | h
      · exact Or.inl h
      · exact Or.inr h.1
    have v2 : ∀ s : Nat, Vu (Vd V s0 (s0 + T 24 p.toNat)) (s0 + T 24 p.toNat) s → V s ∨ s0 ≤ (s : Int) := fun s h => by
      rcases h with h | h
      · exact v1 s h
      · right
        omega
    refine ⟨fun k => ?_, fun k => ?_, fun k => ?_, fun k l hl a ha => ?_, fun k l hl c hc => ?_, fun k => ?_, fun k i hi_q => ?_, fun k => ?_, fun k l hl c hc => ?_⟩
    · obtain ⟨_, g1, g2⟩ := wS_i22 w8 k
      exact ⟨eU_x c1 g2 (h1 k).1, rU_d c1 c2 g1 (h1 k).2⟩
    · obtain ⟨_, g1, g2⟩ := wS_i23 w8 k
      exact ⟨eU_x c1 g2 (h2 k).1, rU_c c1 g1 (fun _ al e v m q => Qx_c (by omega) (by omega) v m (k1 k) q) (h2 k).2⟩
    · obtain ⟨_, g1, g2⟩ := wS_i24 w8 k
      exact ⟨rU_c c1 g1 (fun _ al e v m q => Qx_c (by omega) (by omega) v m (k2 k) q) (h3 k).1, rU_d c1 c2 g2 (h3 k).2⟩
    · obtain ⟨g1, g2, g3, l0, ch0, g4, g5⟩ := wS_i25 w8 k
      have e := CH_u hl ch0
      subst e
      obtain ⟨j, j1, j2⟩ := wAs_18 g5 ha
      have bb := bu (T 17 p.toNat) (j : Int) g2 g3 (by omega) (by omega)
      rw [← j2] at bb
      have cb : Bu (T 18 a.toNat) ≠ 0 → ∀ s al e, SY (Vd V s0 (s0 + T 24 p.toNat)) sb s → ¬ cnm T s → Q s al e (Bu (T 18 a.toNat)) → Qx Q T w V s0 s al e (Bu (T 18 a.toNat)) := fun d0 s al e v m q => Qx_n (by omega) bb.2 v m q
      have z := h4 k l hl a ha
      have ok := (k3 k l hl).1 a ha
      obtain ⟨q, b, c, _, _, f1, f2, f3, f4, f5, f6, f7⟩ := wAs_mem g5 ha
      rw [← f4] at f7
      rcases f7 with f7 | f7 | f7 | f7
      · exact ⟨fun q => eU_x c1 f7.2 (z.1 q), fun q => absurd f7.1 q⟩
      · exact ⟨fun q => by omega, fun q => ⟨rU_d c1 cb f7.2 (z.2 q).1, fun q3 => eU_x c1 (wR_i3 f7.2 q3).2.2 ((z.2 q).2 q3)⟩⟩
      · exact ⟨fun q => by omega, fun q => ⟨rU_c c1 f7.2 (fun d0 al e v m u => Qx_c (by omega) bb.2 v m (ok f7.1 d0) u) (z.2 q).1, fun q3 => eU_x c1 (wR_i3 f7.2 q3).2.2 ((z.2 q).2 q3)⟩⟩
      · exact ⟨fun q => by omega, fun q => ⟨rU_w cb f7.2 (z.2 q).1, fun q3 => by have := f7.2.2.2.1; omega⟩⟩
    · have ck := (k4 (by omega) l hl c hc).1
      obtain ⟨l0, c0, ws⟩ : ∃ l0, CH T (T 21 p.toNat) l0 ∧ wCs (wP T sb pb n (Vd V s0 (s0 + T 24 p.toNat))) l0 (p + 1) hi (s0 + T 24 p.toNat) s1 := by
        rcases k with k | k
        · exact wS_i26 w8 k
        · obtain ⟨_, _, _, l, a, _, b⟩ := wS_i28 w8 k
          exact ⟨l, a, b⟩
      have e := CH_u hl c0
      subst e
      obtain ⟨a, b, u, v, a1, _, a3, _, g⟩ := wCs_mem ws hc
      have kd := wP_kd g
      exact mm v1 (by omega) (vP_str bu (by omega) g (ck (by omega) (by omega)) (h5 k l hl c hc))
    · obtain ⟨g1, g2, g3, a7, b7, g4, g5, g6, g7, g8, g9⟩ := wS_i27 w8 k
      exact ⟨⟨eU_x c1 g7 (h6 k).1.1, eU_x c1 g8 (h6 k).1.2⟩, mm v2 (by omega) (vP_str bu (by omega) g9 (k5 (Or.inl k)) (h6 k).2)⟩
    · obtain ⟨g1, g2, g3, g4, g5, g6, g7, g8⟩ := wS_i29 w8 k
      exact mm v2 (by omega) (vP_str bu (by omega) g8 (k7 k i hi_q) (h7 k i hi_q))
    · obtain ⟨a7, g1, g2, g3, g4⟩ := wS_i31 w8 k
      exact ⟨eU_x c1 g3 (h8 k).1, mm v1 (by omega) (vP_str bu (by omega) g4 (k5 (Or.inr k)) (h8 k).2)⟩
    · have z := h9 k l hl c hc
      have ck := k4 (by omega) l hl c hc
      rcases k with k | k
      · obtain ⟨l0, _, c0, ws⟩ := wS_i30 w8 k
        have e := CH_u hl c0
        subst e
        obtain ⟨a, b, u, v, a1, _, a3, _, g⟩ := wCs_mem ws hc
        obtain ⟨e1, e2, m, e3, e4, e5, g⟩ := g
        exact ⟨fun q => eU_x c1 e5 (z.1 q), fun q => by omega, mm v1 (by omega) (vP_str bu (by omega) g (ck.2.1 (Or.inr e2)) z.2.2)⟩
      · obtain ⟨_, _, l0, c0, _, ws⟩ := wS_i32 w8 k
        have e := CH_u hl c0
        subst e
        obtain ⟨a, b, u, v, a1, _, a3, _, g⟩ := wCs_mem ws hc
        obtain ⟨e1, e2, m, e3, e4, g, e5⟩ := g
        have gr : ∀ {lo1 hi1 lo2 hi2 : Int}, wR T (Vd V s0 (s0 + T 24 p.toNat)) sb 20 1 (T 18 c.toNat) lo1 hi1 → wR T (Vd V s0 (s0 + T 24 p.toNat)) sb 20 0 (T 19 c.toNat) lo2 hi2 → T 15 c.toNat = 33 → 0 < T 18 c.toNat → rU T (Rf S) (eU T (Rf S) 30) (Qx Q T w V s0) (T 18 c.toNat) 8 ∧ rU T (Rf S) (eU T (Rf S) 30) (Qx Q T w V s0) (T 19 c.toNat) 2 := fun r1 r2 q1 q2 => ⟨rU_c c1 r1 (fun _ al e v m q => Qx_c (by omega) (by omega) v m (ck.2.2 q1 q2) q) (z.2.1 q1 q2).1, rU_d c1 c2 r2 (z.2.1 q1 q2).2⟩
        have vk := mm v1 (by omega) (vP_str bu (by omega) g (ck.2.1 (Or.inl e2)) z.2.2)
        rcases e5 with ⟨f1, a_q, f2, f3, f4, f5⟩ | ⟨f1, f2⟩ | ⟨a_q, b_q, f1, f2, f3, f4, f5, f6⟩
        · exact ⟨fun q => by omega, fun q1 q2 => gr f4 f5 q1 q2, vk⟩
        · exact ⟨fun q => eU_x c1 f2 (z.1 q), fun q1 q2 => by omega, vk⟩
        · exact ⟨fun q => eU_x c1 f4 (z.1 q), fun q1 q2 => gr f5 f6 q1 q2, vk⟩
