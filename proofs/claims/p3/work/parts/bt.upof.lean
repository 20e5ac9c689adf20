/-! uP: what is allowed holds of what is used -/
theorem ex_b {P : Int → Prop} : ∀ k : Nat, ∃ l : List Int, ∀ b : Int, b ∈ l ↔ (0 ≤ b ∧ b < (k : Int)) ∧ P b
  | 0 => ⟨[], fun b => ⟨fun h => absurd h List.not_mem_nil, fun h => by have := h.1; omega⟩⟩
  | k + 1 => by
    obtain ⟨l, hl⟩ := ex_b (P := P) k
    by_cases q : P (k : Int)
    · refine ⟨(k : Int) :: l, fun b => ⟨fun h => ?_, fun h => ?_⟩⟩
      · rcases List.mem_cons.mp h with h | h
        · subst h
          exact ⟨by omega, q⟩
        · have := (hl b).mp h
          exact ⟨by omega, this.2⟩
      · by_cases e : b = (k : Int)
        · exact List.mem_cons.mpr (Or.inl e)
        · exact List.mem_cons.mpr (Or.inr ((hl b).mpr ⟨by omega, h.2⟩))
    · refine ⟨l, fun b => ⟨fun h => ?_, fun h => ?_⟩⟩
      · have := (hl b).mp h
        exact ⟨by omega, this.2⟩
      · by_cases e : b = (k : Int)
        · rw [e] at h
          exact absurd h.2 q
        · exact (hl b).mpr ⟨by omega, h.2⟩
/-- the entries of channels, with all that they cover -/
def mL (T : Nat → Nat → Int) (l : List U4) : Us := fun s al e b => cnm T s ∧ (0 ≤ b ∧ b ≤ 15) ∧ ∃ d, (s, al, e, d) ∈ l ∧ hb d b
theorem ex_l {T : Nat → Nat → Int} : ∀ l : List U4, ∃ l_q : List U4, ∀ s al e b, (s, al, e, b) ∈ l_q ↔ mL T l s al e b
  | [] => ⟨[], fun s al e b => ⟨fun h => absurd h List.not_mem_nil, fun h => by
      obtain ⟨_, _, d, h, _⟩ := h
      exact absurd h List.not_mem_nil⟩⟩
  | (s0, al0, e0, d0) :: l => by
    obtain ⟨l1, h1⟩ := ex_l (T := T) l
    obtain ⟨l2, h2⟩ := ex_b (P := fun b => cnm T s0 ∧ hb d0 b) 16
    refine ⟨l2.map (fun b => (s0, al0, e0, b)) ++ l1, fun s al e b => ⟨fun h => ?_, fun h => ?_⟩⟩
    · rcases List.mem_append.mp h with h | h
      · obtain ⟨b_q, g1, g2⟩ := List.mem_map.mp h
        obtain ⟨g3, g4, g5⟩ := (h2 b_q).mp g1
        cases g2
        exact ⟨g4, by omega, d0, List.mem_cons_self, g5⟩
      · obtain ⟨g1, g2, d, g3, g4⟩ := (h1 s al e b).mp h
        exact ⟨g1, g2, d, List.mem_cons_of_mem _ g3, g4⟩
    · obtain ⟨g1, g2, d, g3, g4⟩ := h
      rcases List.mem_cons.mp g3 with g3 | g3
      · cases g3
        exact List.mem_append.mpr (Or.inl (List.mem_map.mpr ⟨b, (h2 b).mpr ⟨by omega, g1, g4⟩, rfl⟩))
      · exact List.mem_append.mpr (Or.inr ((h1 s al e b).mpr ⟨g1, g2, d, g3, g4⟩))
theorem Clo_mL {T : Nat → Nat → Int} {l : List U4} (h : ∀ u ∈ l, ∀ u_q ∈ l, u.1 = u_q.1 → u.2.1 = u_q.2.1 → u.2.2.1 = u_q.2.2.1 → u = u_q) : Clo (mL T l) := fun s al e b b_q a1 a2 a3 a4 x y => by
  obtain ⟨x1, x2, d, x3, x4⟩ := x
  obtain ⟨y1, y2, d', y3, y4⟩ := y
  have e_q := h _ x3 _ y3 rfl rfl rfl
  cases e_q
  have o := or_b a1 a2 a3 a4
  exact ⟨x1, ⟨o.1, o.2.1⟩, d, x3, hb_o a1 a2 a3 a4 x4 y4⟩
theorem Dcl_mL {T : Nat → Nat → Int} {l : List U4} : Dcl (mL T l) := fun s al e b b_q _ _ a3 a4 k x => by
  obtain ⟨x1, x2, d, x3, x4⟩ := x
  exact ⟨x1, ⟨a3, a4⟩, d, x3, hb_t x4 k⟩
theorem NMt_s {T : Nat → Nat → Int} {R : Nat → Int} {x y : Int} (h : NMt T R x y) : NMt T R y x := by
  rcases h with h | ⟨h1, h2, h3, h4, h5⟩
  · exact Or.inl (fun q => h q.symm)
  · exact Or.inr ⟨h2, h1, h4, h3, fun q => h5 q.symm⟩
theorem NC_s {a b : Int} (h : NC a b) : NC b a := ⟨fun q => h.1 ⟨q.2, q.1⟩, fun q => h.2 ⟨q.2, q.1⟩⟩
theorem uC_of {T : Nat → Nat → Int} {S : Int → Int} {V : Nat → Prop} {U Q : Us} {E : Us → Int → Prop} {sb x lo hi d : Int} {n : Nat} (w : wR T V sb n 1 x lo hi) (d0 : d ≠ 0) (c : ∀ al e, SY V sb (T 17 x.toNat) → cnm T (T 17 x.toNat) → Q (T 17 x.toNat) al e d → U (T 17 x.toNat) al e d) (h : rU T (Rf S) E Q x d) : uC T S U x d := by
  obtain ⟨z1, z2, z3, z4⟩ := wR_c w
  refine ⟨fun k => ⟨fun i => c _ _ z1 z2 ((h.2 k).1.1 d0 i), fun i => c _ _ z1 z2 ((h.2 k).1.2 d0 i)⟩, fun k => ?_⟩
  have q := h.1 (z4 k).1 d0
  have a : ar1 (T 7 (T 17 x.toNat).toNat) = 0 := by
    have := (z4 k).2
    unfold ar1
    exact if_neg (by omega)
  rw [a] at q
  exact c _ _ z1 z2 q
/-- a use of a channel is allowed, or its name was made from m on -/
def Qc (T : Nat → Nat → Int) (U : Us) (m : Int) : Us := fun s al e b => cnm T s → U s al e b ∨ m ≤ s
theorem Clo_Qc {T : Nat → Nat → Int} {U : Us} {m : Int} (h : Clo U) : Clo (Qc T U m) := fun s al e b b_q a1 a2 a3 a4 x y k => by
  rcases x k with x | x
  · rcases y k with y | y
    · exact Or.inl (h s al e b b_q a1 a2 a3 a4 x y)
    · exact Or.inr y
  · exact Or.inr x
theorem kid_v {T : Nat → Nat → Int} {Bu : Int → Int} {sb pb w : Int} {U : Us} {m s0 t0 : Int} {n : Nat} {V_q : Nat → Prop} {S : Int → Int} {c lo hi u v : Int} (bu : BUb T Bu pb) (l0 : 0 ≤ lo) (t : wP T sb pb n V_q c lo hi u v) (ck : ckP T Bu w n S c) (hv : ∀ s : Nat, V_q s → cnm T (s : Int) → (s : Int) < m ∨ (s0 ≤ (s : Int) ∧ (s : Int) < t0)) (hu : t0 ≤ u) (h : vP T Bu n S (Qc T U m) c) : vP T Bu n S (Qc T (Ud U s0 t0) t0) c := by
  refine vP_mon _ _ (fun s al e b q k => ?_) (vP_str bu l0 t ck h)
  obtain ⟨q1, _, ⟨q2, q3⟩, _⟩ := q
  rcases q1 k with x | x
  · exact Or.inl (Or.inl x)
  · rcases q3 with y | y
    · have e : ((s.toNat : Nat) : Int) = s := by omega
      rcases hv _ y (by rw [e]; exact k) with z | z
      · omega
      · exact Or.inl (Or.inr (by omega))
    · exact Or.inr (by omega)
theorem uP_of {T : Nat → Nat → Int} {Bu : Int → Int} {sb pb w : Int} (bu : BUb T Bu pb) : ∀ {n : Nat} {V : Nat → Prop} {S : Int → Int} {U : Us} {m p lo hi s0 s1 : Int}, 0 ≤ lo → wP T sb pb n V p lo hi s0 s1 → (∀ s : Nat, V s → cnm T (s : Int) → (s : Int) < m) → m ≤ s0 → Clo U → Dcl U → vP T Bu n S (Qc T U m) p → ckP T Bu w n S p → uP T Bu n S U p
  | 0, _, _, _, _, _, _, _, _, _, _, t, _, _, _, _, _, _ => t.elim
  | n + 1, V, S, U, m, p, lo, hi, s0, s1, l0', t, hV, hm, cl, dc, ⟨h1, h2, h3, h4, h5, h6, h7, h8, h9⟩, ⟨k1, k2, k3, k4, k5, k6, k7⟩ => by
    obtain ⟨lp, s00, t23, t24, t1, w8⟩ := wP_t t
    have cU := Clo_Ud (s0 := s0) (s1 := s0 + T 24 p.toNat) cl
    have dU := Dcl_Ud (s0 := s0) (s1 := s0 + T 24 p.toNat) dc
    have v1 : ∀ s : Nat, Vd V s0 (s0 + T 24 p.toNat) s → cnm T (s : Int) → (s : Int) < m ∨ (s0 ≤ (s : Int) ∧ (s : Int) < s0 + T 24 p.toNat) := fun s h k => by
      rcases h with h | h
      · exact Or.inl (hV s h k)
      · exact Or.inr h
    have v2 : ∀ {z : Int}, (T 7 z.toNat = 9 ∨ T 7 z.toNat = 10) → ∀ s : Nat, Vu (Vd V s0 (s0 + T 24 p.toNat)) z s → cnm T (s : Int) → (s : Int) < m ∨ (s0 ≤ (s : Int) ∧ (s : Int) < s0 + T 24 p.toNat) := fun {z} q s h k => by
      rcases h with h | h
      · exact v1 s h k
      · rw [h] at k
        unfold cnm at k
        omega
    have lt : ∀ {V_q : Nat → Prop}, (∀ s : Nat, V_q s → cnm T (s : Int) → (s : Int) < m ∨ (s0 ≤ (s : Int) ∧ (s : Int) < s0 + T 24 p.toNat)) → ∀ s : Nat, V_q s → cnm T (s : Int) → (s : Int) < s0 + T 24 p.toNat := fun q s h k => by
      have := q s h k
      omega
    have kid' : ∀ {V_q : Nat → Prop} {S_q : Int → Int} {c a b u v : Int}, 0 ≤ a → (∀ s : Nat, V_q s → cnm T (s : Int) → (s : Int) < m ∨ (s0 ≤ (s : Int) ∧ (s : Int) < s0 + T 24 p.toNat)) → s0 + T 24 p.toNat ≤ u → wP T sb pb n V_q c a b u v → vP T Bu n S_q (Qc T U m) c → ckP T Bu w n S_q c → uP T Bu n S_q (Ud U s0 (s0 + T 24 p.toNat)) c := fun a0 q hu g hv ck => uP_of bu a0 g (lt q) hu cU dU (kid_v bu a0 g ck q hu hv) ck
    have dir : ∀ {s al e b : Int}, SY (Vd V s0 (s0 + T 24 p.toNat)) sb s → cnm T s → Qc T U m s al e b → Ud U s0 (s0 + T 24 p.toNat) s al e b := fun {s al e b} v k q => by
      rcases q k with x | x
      · exact Or.inl x
      · have e : ((s.toNat : Nat) : Int) = s := by
          have := v.1
          omega
        have := v1 s.toNat v.2.2 (by rw [e]; exact k)
        exact Or.inr (by omega)
    show uS T Bu (uP T Bu n) S (Ud U (T 23 p.toNat) (T 23 p.toNat + T 24 p.toNat)) p
    rw [t23]
    refine ⟨fun k => ?_, fun k => ?_, fun k l hl => ⟨fun a ha q8 q0 => ?_, fun a ha b hb' ne qa qb _ _ => ?_⟩, fun k l hl c hc => ?_, fun k => ?_, fun k l hl c hc => ?_, fun k l hl c hc => ?_, fun k => ?_⟩
    · obtain ⟨_, g1, g2⟩ := wS_i23 w8 k
      exact uC_of g1 (by omega) (fun al e v k_q q => dir v k_q q) (h2 k).2
    · obtain ⟨_, g1, g2⟩ := wS_i24 w8 k
      exact uC_of g1 (by omega) (fun al e v k_q q => dir v k_q q) (h3 k).1
    · obtain ⟨g1, g2, g3, l0, ch0, g4, g5⟩ := wS_i25 w8 k
      have e := CH_u hl ch0
      subst e
      obtain ⟨q, b, c, _, _, f1, f2, f3, f4, f5, f6, f7⟩ := wAs_mem g5 ha
      rw [← f4] at f7
      rcases f7 with f7 | f7 | f7 | f7
      · omega
      · omega
      · exact uC_of f7.2 q0 (fun al e v k_q q => dir v k_q q) ((h4 k l hl a ha).2 (by omega)).1
      · omega
    · have kk := (k3 k l hl).2
      obtain ⟨u1, u2, e⟩ := List.append_of_mem ha
      have mb : b ∈ u1 ∨ b ∈ u2 := by
        rw [e] at hb'
        rcases List.mem_append.mp hb' with x | x
        · exact Or.inl x
        · rcases List.mem_cons.mp x with x | x
          · exact absurd x.symm ne
          · exact Or.inr x
      rcases mb with x | x
      · obtain ⟨y1, y2, e_q⟩ := List.append_of_mem x
        refine NMt_s (kk y1 b (y2 ++ a :: u2) (by rw [e, e_q]; simp) a (List.mem_append.mpr (Or.inr List.mem_cons_self)) qb qa)
      · exact kk u1 a u2 e b x qa qb
    · have ck := (k4 (by omega) l hl c hc).1
      obtain ⟨l0, c0, ws⟩ := wS_i26 w8 k
      have e := CH_u hl c0
      subst e
      obtain ⟨a, b, u, v, a1, _, a3, _, g⟩ := wCs_mem ws hc
      have kd := wP_kd g
      exact kid' (by omega) v1 a3 g (h5 (Or.inl k) l hl c hc) (ck (by omega) (by omega))
    · rcases k with k | k
      · obtain ⟨g1, g2, g3, a7, b7, g4, g5, g6, g7, g8, g9⟩ := wS_i27 w8 k
        exact kid' (by omega) (v2 (Or.inl g3)) (by omega) g9 (h6 k).2 (k5 (Or.inl k))
      · obtain ⟨a7, g1, g2, g3, g4⟩ := wS_i31 w8 k
        exact kid' (by omega) v1 (Int.le_refl _) g4 (h8 k).2 (k5 (Or.inr k))
    · have ck := k4 (by omega) l hl c hc
      obtain ⟨l0, _, c0, ws⟩ := wS_i30 w8 k
      have e := CH_u hl c0
      subst e
      obtain ⟨a, b, u, v, a1, _, a3, _, g⟩ := wCs_mem ws hc
      obtain ⟨e1, e2, m_q, e3, e4, e5, g⟩ := g
      exact kid' (by omega) v1 a3 g (h9 (Or.inl k) l hl c hc).2.2 (ck.2.1 (Or.inr e2))
    · have ck := k4 (by omega) l hl c hc
      have z := h9 (Or.inr k) l hl c hc
      obtain ⟨_, _, l0, c0, _, ws⟩ := wS_i32 w8 k
      have e := CH_u hl c0
      subst e
      obtain ⟨a, b, u, v, a1, _, a3, _, g⟩ := wCs_mem ws hc
      obtain ⟨e1, e2, m_q, e3, e4, g, e5⟩ := g
      refine ⟨fun q => ?_, kid' (by omega) v1 a3 g z.2.2 (ck.2.1 (Or.inl e2))⟩
      rcases e5 with ⟨f1, a_q, f2, f3, f4, f5⟩ | ⟨f1, f2⟩ | ⟨a_q, b_q, f1, f2, f3, f4, f5, f6⟩
      · exact uC_of f4 (by omega) (fun al e v k_q q => dir v k_q q) (z.2.1 e2 q).1
      · omega
      · exact uC_of f5 (by omega) (fun al e v k_q q => dir v k_q q) (z.2.1 e2 q).1
    · have kw : KW T sb pb n (Vd V s0 (s0 + T 24 p.toNat)) p hi (s0 + T 24 p.toNat) s1 := by
        rcases k with k | k
        · exact KW_28 k w8
        · exact KW_29 k (by omega) w8
      have vb : ∀ s : Nat, vB T (Vd V s0 (s0 + T 24 p.toNat)) p s → cnm T (s : Int) → (s : Int) < m ∨ (s0 ≤ (s : Int) ∧ (s : Int) < s0 + T 24 p.toNat) := fun s h q => by
        rcases h with h | ⟨h, h_q⟩
        · exact v1 s h q
        · obtain ⟨g1, g2, g3, _⟩ := wS_i29 w8 h
          rw [h_q, g1] at q
          unfold cnm at q
          omega
      have kc : ∀ i : Nat, (i : Int) < mny T p → vP T Bu n (sB T S p i) (Qc T U m) (kid T p i) ∧ ckP T Bu w n (sB T S p i) (kid T p i) := fun i hi_q => by
        by_cases q : T 15 p.toNat = 29
        · have em : mny T p = T 20 p.toNat := if_pos q
          rw [kid_29 q]
          exact ⟨h7 q i (by omega), k7 q i (by omega)⟩
        · have k : T 15 p.toNat = 28 := by omega
          have em : mny T p = T 18 p.toNat := if_neg q
          rw [kid_28 k, show sB T S p i = S from funext (fun s => if_neg (fun x => by have := x.1; omega))]
          obtain ⟨_, _, _, l, c0, e1, ws⟩ := wS_i28 w8 k
          obtain ⟨x1, x2⟩ := CH_nx (j := i) c0 (by omega)
          obtain ⟨a, b, u, v, a1, _, a3, _, g⟩ := wCs_mem ws x1
          have kd := wP_kd g
          exact ⟨h5 (Or.inr k) l c0 _ x1, (k4 (by omega) l c0 _ x1).1 (by omega) (by omega)⟩
      obtain ⟨L, g1, g2⟩ := k6 k
      obtain ⟨L', hL⟩ : ∃ L' : Nat → List U4, ∀ i s al e b, (s, al, e, b) ∈ L' i ↔ mL T (L i) s al e b := ⟨fun i => Classical.choose (ex_l (T := T) (L i)), fun i => Classical.choose_spec (ex_l (T := T) (L i))⟩
      have min : ∀ i : Nat, (i : Int) < mny T p → ∀ s al e d, (s, al, e, d) ∈ L i → (Qc T U m s al e d ∧ (0 ≤ s ∧ (vB T (Vd V s0 (s0 + T 24 p.toNat)) p s.toNat ∨ s0 + T 24 p.toNat ≤ s))) ∧ (cnm T s → T 7 s.toNat ≠ 4 → al = 0 ∧ e = 0) := fun i hi_q s al e d hu => by
        obtain ⟨y1, y2, y3, y4⟩ := g1 i hi_q
        obtain ⟨_, a, b, u, v, a1, a2, a3, _, a4, g⟩ := kw.2.2.2 i hi_q
        obtain ⟨z1, z2⟩ := kc i hi_q
        have cl' : Clo (fun s al e d => (Qc T U m s al e d ∧ (0 ≤ s ∧ (vB T (Vd V s0 (s0 + T 24 p.toNat)) p s.toNat ∨ s0 + T 24 p.toNat ≤ s))) ∧ (cnm T s → T 7 s.toNat ≠ 4 → al = 0 ∧ e = 0)) := fun s al e b b_q b1 b2 b3 b4 x y => ⟨⟨Clo_Qc cl s al e b b_q b1 b2 b3 b4 x.1.1 y.1.1, x.1.2⟩, x.2⟩
        refine y3 _ cl' (vP_mon _ _ (fun s al e b q => ⟨⟨q.1, q.2.2.1.1, ?_⟩, fun x => (q.2.2.2 x).1⟩) (vP_str bu (by omega) g z2 z1)) (s, al, e, d) hu
        rcases q.2.2.1.2 with x | x
        · exact Or.inl x
        · exact Or.inr (by omega)
      refine ⟨L', fun i hi_q => ⟨?_, fun u hu hlt => ?_⟩, fun i j hi_q hj ne u hu x hx e1 e2 e3 => ?_⟩
      · obtain ⟨y1, y2, y3, y4⟩ := g1 i hi_q
        obtain ⟨_, a, b, u, v, a1, a2, a3, _, a4, g⟩ := kw.2.2.2 i hi_q
        obtain ⟨z1, z2⟩ := kc i hi_q
        rw [show (fun s al e b => (s, al, e, b) ∈ L' i) = mL T (L i) from funext (fun s => funext (fun al => funext (fun e => funext (fun b => propext (hL i s al e b)))))]
        refine uP_of bu (by omega) g (lt vb) a3 (Clo_mL y4) Dcl_mL (vP_mon _ _ (fun s al e b q k_q => Or.inl ?_) (vP_str bu (by omega) g z2 y2)) z2
        obtain ⟨q1, ⟨q2, q3⟩, _⟩ := q
        obtain ⟨d, q4, q5⟩ := q1
        exact ⟨k_q, by omega, d, q4, q5⟩
      · obtain ⟨s, al, e, b⟩ := u
        obtain ⟨x1, x2, d, x3, x4⟩ := (hL i s al e b).mp hu
        obtain ⟨⟨m1, m2, m3⟩, _⟩ := min i hi_q s al e d x3
        have bd := (g1 i hi_q).1 _ x3
        have hlt : s < T 23 p.toNat + T 24 p.toNat := hlt
        rw [t23] at hlt
        show Ud U s0 (s0 + T 24 p.toNat) s al e b
        rcases m1 x1 with y | y
        · exact Or.inl (dc s al e d b bd.1 bd.2 x2.1 x2.2 x4 y)
        · rcases m3 with z | z
          · have e_q : ((s.toNat : Nat) : Int) = s := by omega
            have := vb s.toNat z (by rw [e_q]; exact x1)
            exact Or.inr (by omega)
          · omega
      · obtain ⟨s, al, e, b⟩ := u
        obtain ⟨s_q, al', e_q, b_q⟩ := x
        have e1 : s = s_q := e1
        subst e1
        obtain ⟨x1, x2, d, x3, x4⟩ := (hL i s al e b).mp hu
        obtain ⟨y1, y2, d', y3, y4⟩ := (hL j s al' e_q b_q).mp hx
        have p1 := (min i hi_q s al e d x3).2 x1
        have p2 := (min j hj s al' e_q d' y3).2 x1
        have e3 : al = 1 ∨ al' = 1 ∨ e = e_q ∨ T 7 s.toNat ≠ 4 := e3
        have e4 : al = 1 ∨ al' = 1 ∨ e = e_q := by
          rcases e3 with q | q | q | q
          · exact Or.inl q
          · exact Or.inr (Or.inl q)
          · exact Or.inr (Or.inr q)
          · have := p1 q
            have := p2 q
            exact Or.inr (Or.inr (by omega))
        have nc : NC d d' := by
          rcases Nat.lt_or_gt_of_ne ne with q | q
          · exact g2 i j q hj _ x3 _ y3 rfl e2 e4
          · refine NC_s (g2 j i q hi_q _ y3 _ x3 rfl e2 ?_)
            rcases e4 with r | r | r
            · exact Or.inr (Or.inl r)
            · exact Or.inl r
            · exact Or.inr (Or.inr r.symm)
        exact NC_s (NC_w (hb_s y4) (NC_s (NC_w (hb_s x4) nc)))
/-- a processor -/
theorem uP_pr {T : Nat → Nat → Int} {Bu : Int → Int} {Q : Us} {sb pb p lo hi s0 s1 : Int} {V : Nat → Prop} {c : Int} {n : Nat} (bu : BUb T Bu pb) (l0 : 0 ≤ lo) (w : wP T sb pb n V c lo hi s0 s1) (vb : VB V s0) (h : vP T Bu n (fun _ => 0) Q c) (ck : ckP T Bu p n (fun _ => 0) c) : uP T Bu n (fun _ => 0) (pUs T p) c := by
  refine uP_of bu l0 w (fun s h _ => vb s h) (Int.le_refl _) Clo_pUs Dcl_pUs (vP_mon _ _ (fun s al e b q k => Or.inl (q.2.2.2 k).2) (vP_str bu l0 w ck h)) ck
/-- a PROC -/
theorem uP_pc {T : Nat → Nat → Int} {Bu : Int → Int} {sb pb lo hi s1 : Int} {q : Nat} {V : Nat → Prop} {c : Int} {n : Nat} (bu : BUb T Bu pb) (l0 : 0 ≤ lo) (q2' : 2 ≤ T 29 q) (q3' : 0 ≤ T 30 q) (w : wP T sb pb n V c lo hi (T 29 q + T 30 q) s1) (qv : ∀ s : Nat, V s → k01 T s ∨ T 7 s = 14 ∨ (T 29 q ≤ (s : Int) ∧ (s : Int) < T 29 q + T 30 q)) (h : vP T Bu n (fun _ => 0) (fun s _ _ b => 0 ≤ Bu s ∧ hb (Bu s) b) c) (ck : ckP T Bu (-1) n (fun _ => 0) c) : uP T Bu n (fun _ => 0) (pU T Bu q) c := by
  have k1 : ∀ s : Nat, V s → cnm T (s : Int) → k01 T s ∨ (T 29 q ≤ (s : Int) ∧ (s : Int) < T 29 q + T 30 q) := fun s hs k => by
    rcases qv s hs with x | x | x
    · exact Or.inl x
    · unfold cnm at k
      simp only [Int.toNat_natCast] at k
      omega
    · exact Or.inr x
  refine uP_of (m := T 29 q + T 30 q) bu l0 w (fun s hs k => ?_) (Int.le_refl _) Clo_pU Dcl_pU (vP_mon _ _ (fun s al e b x k => ?_) (vP_str bu l0 w ck h)) ck
  · rcases k1 s hs k with x | x
    · have x1 := x.1
      omega
    · omega
  · obtain ⟨⟨q0, q1⟩, ⟨b1, b2⟩, ⟨q2, q3⟩, q4⟩ := x
    obtain ⟨_, ok⟩ := q4 k
    rcases q3 with y | y
    · have e : ((s.toNat : Nat) : Int) = s := by omega
      rcases k1 s.toNat y (by rw [e]; exact k) with z | z
      · exfalso
        have z2 := z.2.1
        have z3 := z.2.2.1
        have o1 := ok.1
        have o2 := ok.2.1
        omega
      · refine Or.inl ⟨by omega, by omega, fun e0 => ?_, hb_s q1⟩
        rw [e0] at q1
        unfold hb at q1
        omega
    · exact Or.inr y
