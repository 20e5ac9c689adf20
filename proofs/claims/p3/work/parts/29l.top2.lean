/-! the program: links, processors -/
def LK (A : Nat → Nat → Int) (s l : Int) : Prop := A 7 s.toNat = 11 ∧ A 12 s.toNat = l ∧ 0 ≤ A 34 l.toNat ∧ A 34 l.toNat ≤ 5 ∧ 0 ≤ A 35 l.toNat ∧ A 35 l.toNat ≤ 5 ∧ A 34 l.toNat ≠ A 35 l.toNat
theorem LK_mk {A : Nat → Nat → Int} {s l k n f t : Int} (h1 : A 7 s.toNat = k) (h2 : A 12 s.toNat = n) (h3 : A 34 l.toNat = f) (h4 : A 35 l.toNat = t) (hk : k = 11) (hn : n = l) (hf : 0 ≤ f ∧ f ≤ 5) (ht : 0 ≤ t ∧ t ≤ 5) (hne : f ≠ t) : LK A s l := by
  unfold LK
  rw [h1, h2, h3, h4]
  exact ⟨hk, hn, hf.1, hf.2, ht.1, ht.2, hne⟩
theorem LK_fx {A A_q : Nat → Nat → Int} {s l w z : Int} (f : Fx sr w A A_q) (g : Fx [34, 35] z A A_q) (h0 : 0 ≤ s) (hs : s < w) (hl0 : 0 ≤ l) (hl : l < z) (h : LK A s l) : LK A_q s l := by
  unfold LK at h ⊢
  rw [f 7 s.toNat rfl (by omega), f 12 s.toNat rfl (by omega), g 34 l.toNat rfl (by omega), g 35 l.toNat rfl (by omega)]
  exact h
/-- the links' names from s0 on, one behind the other -/
def wK (A : Nat → Nat → Int) (s0 lk : Int) : Prop := ∀ l : Nat, (l : Int) < lk → LK A (s0 + (l : Int)) (l : Int)
theorem wK_nil {A : Nat → Nat → Int} {s0 : Int} : wK A s0 0 := fun l hl => by omega
theorem wK_fx {A A_q : Nat → Nat → Int} {s0 lk w z : Int} (f : Fx sr w A A_q) (g : Fx [34, 35] z A A_q) (h0 : 0 ≤ s0) (hs : s0 + lk ≤ w) (hl : lk ≤ z) (h : wK A s0 lk) : wK A_q s0 lk := fun l hl => LK_fx f g (by omega) (by omega) (by omega) (by omega) (h l hl)
theorem wK_add {A : Nat → Nat → Int} {s0 lk lk' s : Int} (h : wK A s0 lk) (y : LK A s lk) (hs : s = s0 + lk) (h0 : 0 ≤ lk) (hl : lk' = lk + 1) : wK A s0 lk' := fun l hl => by
  by_cases hc : (l : Int) = lk
  · rw [hc, ← hs]
    exact y
  · exact h l (by omega)
/-- what is seen behind PROCs and links -/
def VL (V : Nat → Prop) (A : Nat → Nat → Int) (s0 t0 : Int) : Prop := ∀ s : Nat, V s → (k01 A s ∧ (s : Int) < s0) ∨ ((s : Int) < s0 ∧ A 7 s = 14) ∨ (s0 ≤ (s : Int) ∧ (s : Int) < t0)
theorem VL_vt {V : Nat → Prop} {A : Nat → Nat → Int} {s0 t0 : Int} (h : VT V A s0) : VL V A s0 t0 := fun s hs => by
  rcases h s hs with g | g
  · exact .inl g
  · exact .inr (.inl g)
theorem VL_fx {V : Nat → Prop} {s0 t0 w : Int} {A A_q : Nat → Nat → Int} (f : Fx sr w A A_q) (hw : s0 ≤ w) (h : VL V A s0 t0) : VL V A_q s0 t0 := fun s hs => by
  rcases h s hs with g | g | g
  · exact .inl ⟨k01_fx f (by omega) g.1, g.2⟩
  · exact .inr (.inl ⟨g.1, by rw [f 7 s rfl (by omega)]; exact g.2⟩)
  · exact .inr (.inr g)
theorem VL_u {V : Nat → Prop} {A : Nat → Nat → Int} {s0 t0 s t1 : Int} (h : VL V A s0 t0) (h0 : s0 ≤ s) (h1 : s < t1) (ht : t0 ≤ t1) : VL (Vu V s) A s0 t1 := fun j hj => by
  rcases hj with hj | hj
  · rcases h j hj with g | g | g
    · exact .inl g
    · exact .inr (.inl g)
    · exact .inr (.inr ⟨g.1, by omega⟩)
  · exact .inr (.inr ⟨by omega, by omega⟩)
theorem SW_ext {V : Nat → Prop} {sb v : Int} {A A_q : Nat → Nat → Int} (e : A_q 14 = A 14) (h : SW V sb v A) : SW V sb v A_q := fun k hk => by
  rw [e]
  exact h k hk
theorem PQ_fxq {V : Nat → Prop} {sb pb w z : Int} {G G_q : Nat → Int} {A A_q : Nat → Nat → Int} (h : PQ V sb pb G A) (f : Fx sr w A A_q) (hw : sb ≤ w) (fq : Fx [29, 30, 31] z A A_q) (hz : pb ≤ z) : PQ V sb pb G_q A_q := fun s hv hs hk => by
  have q7 : A_q 7 s = A 7 s := f 7 s rfl (by omega)
  have q12 : A_q 12 s = A 12 s := f 12 s rfl (by omega)
  rw [q7] at hk
  have g := h s hv hs hk
  have g1 := g.1
  have g2 := g.2.1
  rw [q12, fq 29 _ rfl (by omega), fq 30 _ rfl (by omega)]
  refine ⟨g.1, g.2.1, g.2.2.1, g.2.2.2.1, g.2.2.2.2.1, g.2.2.2.2.2.1, fun k h1 h2 => ?_⟩
  have q := g.2.2.2.2.2.2 k h1 h2
  have b := g.2.2.2.2.2.1
  have c := g.2.2.2.2.1
  rw [f 7 _ rfl (by omega)]
  exact q
/-- between links: q PROCs, lk links, v names seen -/
def TL (A : Nat → Nat → Int) (q hi sy lk v : Int) : Prop := ∃ (V : Nat → Prop) (s0 : Int), sy = s0 + lk ∧ 0 ≤ lk ∧ 2 ≤ s0 ∧ VB V sy ∧ SW V sy v A ∧ PQ V sy q (fun _ => 0) A ∧ VL V A s0 sy ∧ wQ A q.toNat hi s0 ∧ wK A s0 lk
theorem wQ_eq {A : Nat → Nat → Int} {q q_q : Nat} {hi hi_q s1 s1' : Int} (h : wQ A q hi s1) (e : q = q_q) (e2 : hi = hi_q) (e3 : s1 = s1') : wQ A q_q hi_q s1' := e ▸ e2 ▸ e3 ▸ h
theorem VT_eq {V : Nat → Prop} {A : Nat → Nat → Int} {s s_q : Int} (h : VT V A s) (e : s = s_q) : VT V A s_q := e ▸ h
theorem VB_eq {V : Nat → Prop} {s s_q : Int} (h : VB V s) (e : s = s_q) : VB V s_q := e ▸ h
theorem TP_mk {V : Nat → Prop} {A : Nat → Nat → Int} {q hi s1 v sb v' sb_q pb sc q_q hi_q sd : Int} (h1 : VB V s1) (h2 : SW V sb v' A) (h3 : PQ V sb_q pb (fun _ => 0) A) (h4 : VT V A sc) (h5 : wQ A q_q.toNat hi_q sd) (e1 : sb = s1) (e2 : v' = v) (e3 : sb_q = s1) (e4 : pb = q) (e5 : sc = s1) (e6 : q_q = q) (e7 : hi_q = hi) (e8 : sd = s1) : TP A q hi s1 v := by
  subst e1 e2 e4 e7
  subst e3 e5 e6 e8
  exact ⟨V, h1, h2, h3, h4, h5⟩
theorem TL_tp {A : Nat → Nat → Int} {q hi s1 v lk : Int} (h : TP A q hi s1 v) (hl : lk = 0) : TL A q hi s1 lk v := by
  obtain ⟨V, h1, h2, h3, h4, h5⟩ := h
  have le := wQ_le h5
  subst hl
  exact ⟨V, s1, by omega, Int.le_refl _, le.2, h1, h2, h3, VL_vt h4, h5, wK_nil⟩
theorem TL_mk {V : Nat → Prop} {A : Nat → Nat → Int} {q hi sy lk v s0 sb v' sb_q pb sc q_q hi_q sd lk' s0' : Int} (h0 : sy = s0 + lk) (hk : 0 ≤ lk) (h2 : 2 ≤ s0) (h1 : VB V sy) (hs : SW V sb v' A) (h3 : PQ V sb_q pb (fun _ => 0) A) (h4 : VL V A s0 sc) (h5 : wQ A q_q.toNat hi_q sd) (h6 : wK A s0' lk') (e1 : sb = sy) (e2 : v' = v) (e3 : sb_q = sy) (e4 : pb = q) (e5 : sc = sy) (e6 : q_q = q) (e7 : hi_q = hi) (e8 : sd = s0) (e9 : lk' = lk) (e10 : s0' = s0) : TL A q hi sy lk v := by
  subst e1 e2 e4 e7 e8 e9
  subst e3 e5 e6 e10
  exact ⟨V, _, h0, hk, h2, h1, hs, h3, h4, h5, h6⟩
/-- screen and keys -/
theorem TP_init {A : Nat → Nat → Int} {a b z y x u x' u_q q hi s1 v : Int} (h0 : YD A a 12 z) (ha : a = 0) (h1 : YD A b 13 y) (hb : b = 1) (c0 : A 14 x.toNat = u) (hx : x = 0) (hu : u = 0) (c1 : A 14 x'.toNat = u_q) (hx' : x' = 1) (hu' : u_q = 1) (hq : q = 0) (hhi : hi = 1) (hs : s1 = 2) (hv : v = 2) : TP A q hi s1 v := by
  subst ha hb hx hu hx' hu' hq hhi hs hv
  refine ⟨fun s => (s : Int) < 2, fun s hs => hs, fun k hk => ?_, fun s hs _ h14 => ?_, fun s hs => .inl ⟨?_, hs⟩, rfl, rfl⟩
  · have : k = 0 ∨ k = 1 := by omega
    rcases this with rfl | rfl
    · rw [show A 14 0 = 0 from c0]
      exact ⟨by omega, by omega, by show (((0 : Int).toNat : Nat) : Int) < 2; omega⟩
    · rw [show A 14 1 = 1 from c1]
      exact ⟨by omega, by omega, by show (((1 : Int).toNat : Nat) : Int) < 2; omega⟩
  · have hs_q : (s : Int) < 2 := hs
    have : s = 0 ∨ s = 1 := by omega
    rcases this with rfl | rfl
    · rw [show A 7 0 = 12 from h0.1] at h14
      omega
    · rw [show A 7 1 = 13 from h1.1] at h14
      omega
  · have hs_q : (s : Int) < 2 := hs
    refine ⟨hs_q, ?_⟩
    have : s = 0 ∨ s = 1 := by omega
    rcases this with rfl | rfl
    · rw [show A 7 0 = 12 from h0.1]
      omega
    · rw [show A 7 1 = 13 from h1.1]
      omega
/-- no processor has a process yet -/
def PZ (A : Nat → Nat → Int) : Prop := ∀ p : Nat, p ≤ 5 → A 36 p = 0
theorem PZ_ext {A A_q : Nat → Nat → Int} (e : A_q 36 = A 36) (h : PZ A) : PZ A_q := fun p hp => by
  rw [e]
  exact h p hp
/-- the processors' processes, in the order of reading -/
def wB (A : Nat → Nat → Int) (V : Nat → Prop) (pb lo hi s0 s1 : Int) : Prop := ∃ l : List Int, l.Nodup ∧ (∀ p ∈ l, 0 ≤ p ∧ p ≤ 5 ∧ 0 < A 36 p.toNat) ∧ (∀ p : Int, 0 ≤ p → p ≤ 5 → 0 < A 36 p.toNat → p ∈ l) ∧ wCs (fun p a b u v => wP A v pb 18 V (A 36 p.toNat) a b u v) l lo hi s0 s1
theorem wB_nil {A : Nat → Nat → Int} {V : Nat → Prop} {pb lo hi s0 s1 : Int} (h : PZ A) (e : lo = hi) (e2 : s0 = s1) : wB A V pb lo hi s0 s1 := ⟨[], List.nodup_nil, fun p hp => absurd hp List.not_mem_nil, fun p h0 h5 hp => by
  have := h p.toNat (by omega)
  omega, e, e2⟩
theorem wCs_im2 {R R_q : Int → Int → Int → Int → Int → Prop} {lo hi s0 s1 : Int} : ∀ {l : List Int} {a u : Int}, (∀ e ∈ l, ∀ a b u v, lo ≤ a → b ≤ hi → s0 ≤ u → v ≤ s1 → R e a b u v → R_q e a b u v) → lo ≤ a → s0 ≤ u → wCs R l a hi u s1 → wCs R_q l a hi u s1
  | [], _, _, _, _, _, h => h
  | e :: l, a, u, hR, ha, hu, h => by
    obtain ⟨m, t, h1, h2, h3, h4, h5, h6⟩ := h
    exact ⟨m, t, h1, h2, h3, h4, hR e (List.mem_cons_self ..) _ _ _ _ ha h2 hu h4 h5, wCs_im2 (fun e_q he => hR e_q (List.mem_cons_of_mem _ he)) (by omega) (by omega) h6⟩
theorem wB_fx {A A_q : Nat → Nat → Int} {V : Nat → Prop} {pb lo hi s0 s1 : Int} (pf : Pf hi A A_q) (fs : Fx sr s1 A A_q) (qg : Qg pb A A_q) (e : A_q 36 = A 36) (h0 : 0 ≤ lo) (h : wB A V pb lo hi s0 s1) : wB A_q V pb lo hi s0 s1 := by
  obtain ⟨l, h1, h2, h3, h4⟩ := h
  refine ⟨l, h1, ?_, ?_, ?_⟩
  · rw [e]
    exact h2
  · rw [e]
    exact h3
  · rw [e]
    exact wCs_im2 (fun p _ a b u v g1 g2 g3 g4 w => wP_ag (Fx_su fs g4) qg (by omega) (Int.le_refl _) (Ax_ag (Ag_pf pf g2)) w) (Int.le_refl _) (Int.le_refl _) h4
theorem wB_add {A A_q : Nat → Nat → Int} {V : Nat → Prop} {pb lo m hi s0 t s1 p r lo2 m2 t2 s2 : Int} (e : A_q = uA A 36 p.toNat r) (h : wB A V pb lo m s0 t) (hp : 0 ≤ p) (hp5 : p ≤ 5) (hz : A 36 p.toNat ≤ 0) (w : wP A s2 pb 18 V r m2 hi t2 s1) (em : m2 = m) (et : t2 = t) (es : s2 = s1) (h0 : 0 ≤ lo) (hr : 0 < r) (hm : m ≤ hi) (ht : t ≤ s1) (el : lo2 = lo) : wB A_q V pb lo2 hi s0 s1 := by
  subst em et es el
  obtain ⟨l, h1, h2, h3, h4⟩ := h
  have ne : p ∉ l := fun hm => by
    have := h2 p hm
    omega
  have q : ∀ p_q ∈ l, A_q 36 p_q.toNat = A 36 p_q.toNat := fun p_q hp' => by
    have := h2 p_q hp'
    rw [e]
    exact uA_ni (fun g => ne (by rw [show p = p_q by omega]; exact hp'))
  have q0 : A_q 36 p.toNat = r := by
    rw [e]
    exact uA_eq
  have pf : ∀ z, Pf z A A_q := fun z => e ▸ Pf_n Pf_rf rfl
  have ag : ∀ a b, Ag a b A A_q := fun a b => Ag_ne e rfl
  have up : ∀ V x a b u v, 0 ≤ a → wP A v pb 18 V x a b u v → wP A_q v pb 18 V x a b u v := fun V x a b u v ha w => wP_ag (Sg_ne e rfl) (Qg_ne e rfl) ha (Int.le_refl _) (Ax_ag (ag _ _)) w
  have le := wCs_le h4
  refine ⟨l ++ [p], ?_, ?_, ?_, ?_⟩
  · rw [List.nodup_append]
    exact ⟨h1, by simp, fun a ha b hb => by
      rw [List.mem_singleton] at hb
      rintro rfl
      exact ne (hb ▸ ha)⟩
  · intro p_q hp'
    rcases List.mem_append.mp hp' with g | g
    · rw [q p_q g]
      exact h2 p_q g
    · rw [List.mem_singleton.mp g, q0]
      exact ⟨hp, hp5, hr⟩
  · intro p_q g0 g5 g
    by_cases hc : p_q = p
    · rw [hc]
      exact List.mem_append.mpr (.inr (List.mem_singleton.mpr rfl))
    · refine List.mem_append.mpr (.inl (h3 p_q g0 g5 ?_))
      rw [e, uA_ni (show p_q.toNat ≠ p.toNat by omega)] at g
      exact g
  · refine wCs_add hm ht ?_ (wCs_im2 (R := fun p a b u v => wP A v pb 18 V (A 36 p.toNat) a b u v) (fun p_q hp' a b u v g1 g2 g3 g4 w => ?_) (Int.le_refl _) (Int.le_refl _) h4)
    · show wP A_q s2 pb 18 V (A_q 36 p.toNat) _ hi _ s2
      rw [q0]
      exact up _ _ _ _ _ _ (by omega) w
    · show wP A_q v pb 18 V (A_q 36 p_q.toNat) a b u v
      rw [q p_q hp']
      exact up _ _ _ _ _ _ (by omega) w
theorem wB_one {A A_q : Nat → Nat → Int} {V : Nat → Prop} {pb m hi t s1 p r s2 : Int} (e : A_q = uA A 36 p.toNat r) (h : PZ A) (hp : 0 ≤ p) (hp5 : p ≤ 5) (w : wP A s2 pb 18 V r m hi t s1) (es : s2 = s1) (h0 : 0 ≤ m) (hr : 0 < r) (hm : m ≤ hi) (ht : t ≤ s1) : wB A_q V pb m hi t s1 :=
  wB_add e (wB_nil (V := V) (pb := pb) (lo := m) (s0 := t) h rfl rfl) hp hp5 (by have := h p.toNat (by omega); omega) w rfl rfl es h0 hr hm ht rfl
/-- the whole program -/
def TT (A : Nat → Nat → Int) (q hi sy lk : Int) : Prop := ∃ (V : Nat → Prop) (lo s0 t0 : Int), t0 = s0 + lk ∧ 0 ≤ lk ∧ 2 ≤ s0 ∧ VB V t0 ∧ VL V A s0 t0 ∧ wQ A q.toNat lo s0 ∧ wK A s0 lk ∧ wB A V q lo hi t0 sy
theorem TT_mk {A : Nat → Nat → Int} {V : Nat → Prop} {q hi sy lk lo s0 t0 q_q lo_q sd lk' s0' pb hi_q t0' sy' sc t3 : Int} (h0 : t0 = s0 + lk) (hk : 0 ≤ lk) (h2 : 2 ≤ s0) (h1 : VB V sc) (h4 : VL V A s0 t3) (h5 : wQ A q_q.toNat lo_q sd) (h6 : wK A s0' lk') (h7 : wB A V pb lo hi_q t0' sy') (e1 : sc = t0) (e2 : t3 = t0) (e3 : q_q = q) (e4 : lo_q = lo) (e5 : sd = s0) (e6 : s0' = s0) (e7 : lk' = lk) (e8 : pb = q) (e9 : hi_q = hi) (e10 : t0' = t0) (e11 : sy' = sy) : TT A q hi sy lk := by
  subst e1 e3 e4 e5 e7 e9 e11
  subst e2 e6 e8 e10
  exact ⟨V, _, _, _, h0, hk, h2, h1, h4, h5, h6, h7⟩
