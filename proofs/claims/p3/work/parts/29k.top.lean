/-! the program: PROCs and their parameters -/
def MP (A : Nat → Nat → Int) (s : Int) : Prop := 5 ≤ A 7 s.toNat ∧ A 7 s.toNat ≤ 8 ∧ 1 ≤ A 8 s.toNat ∧ A 8 s.toNat ≤ 64 ∧ (A 7 s.toNat ≠ 7 → A 8 s.toNat = 1)
theorem MP_of {A : Nat → Nat → Int} {s k z : Int} (h : YD A s k z) (h1 : 5 ≤ k ∧ k ≤ 8) (h2 : 1 ≤ z ∧ z ≤ 64) (h3 : k ≠ 7 → z = 1) : MP A s := by
  unfold MP
  rw [h.1, h.2]
  exact ⟨h1.1, h1.2, h2.1, h2.2, h3⟩
theorem MP_fx {A A_q : Nat → Nat → Int} {s w : Int} (f : Fx sr w A A_q) (h0 : 0 ≤ s) (hs : s < w) (h : MP A s) : MP A_q s := by
  unfold MP at h ⊢
  rw [f 7 s.toNat rfl (by omega), f 8 s.toNat rfl (by omega)]
  exact h
def wM (A : Nat → Nat → Int) (s0 m : Int) : Prop := ∀ s : Int, s0 ≤ s → s < s0 + m → MP A s
theorem wM_nil {A : Nat → Nat → Int} {s0 : Int} : wM A s0 0 := fun s h1 h2 => by omega
theorem wM_add {A : Nat → Nat → Int} {s0 m m_q t : Int} (h : wM A s0 m) (y : MP A t) (ht : t = s0 + m) (hm : m_q = m + 1) : wM A s0 m_q := fun s h1 h2 => by
  by_cases hc : s = t
  · rw [hc]
    exact y
  · exact h s h1 (by omega)
theorem wM_fx {A A_q : Nat → Nat → Int} {s0 m w : Int} (f : Fx sr w A A_q) (h0 : 0 ≤ s0) (hs : s0 + m ≤ w) (h : wM A s0 m) : wM A_q s0 m := fun s h1 h2 => MP_fx f (by omega) (by omega) (h s h1 h2)
/-- the channels of the outside -/
def k01 (A : Nat → Nat → Int) (s : Nat) : Prop := (s : Int) < 2 ∧ 12 ≤ A 7 s ∧ A 7 s ≤ 13 ∧ A 7 s = 12 + (s : Int)
theorem k01_fx {A A_q : Nat → Nat → Int} {s : Nat} {w : Int} (f : Fx sr w A A_q) (hw : (s : Int) < w) (h : k01 A s) : k01 A_q s := by
  unfold k01 at h ⊢
  rw [f 7 s rfl hw]
  exact h
/-- q PROCs: hi the next node, s1 the next name -/
def wQ (A : Nat → Nat → Int) : Nat → Int → Int → Prop
  | 0, lo, s0 => lo = 1 ∧ s0 = 2
  | q + 1, hi, s1 => ∃ (lo s0 : Int) (V : Nat → Prop), wQ A q lo s0 ∧ 1 ≤ lo ∧ lo ≤ hi ∧ 2 ≤ s0 ∧ 0 ≤ A 30 q ∧ A 30 q ≤ 6 ∧ s0 + 1 + A 30 q ≤ s1 ∧ A 7 s0.toNat = 14 ∧ A 12 s0.toNat = (q : Int) ∧ A 29 q = s0 + 1 ∧ wM A (s0 + 1) (A 30 q) ∧ (∀ s : Nat, V s → k01 A s ∨ ((s : Int) < s0 ∧ A 7 s = 14) ∨ (s0 + 1 ≤ (s : Int) ∧ (s : Int) < s0 + 1 + A 30 q)) ∧ wP A s1 (q : Int) 18 V (A 31 q) lo hi (s0 + 1 + A 30 q) s1
theorem Qg_fx {pb w : Int} {A A_q : Nat → Nat → Int} (f : Fx [29, 30, 31] w A A_q) (h : pb ≤ w) : Qg pb A A_q := fun k j hk hj => by
  have hk := List.elem_iff.mp hk
  simp only [List.mem_cons, List.not_mem_nil, or_false] at hk
  rcases hk with rfl | rfl
  · exact f 29 j rfl (by omega)
  · exact f 30 j rfl (by omega)
theorem wQ_le {A : Nat → Nat → Int} : ∀ {q : Nat} {hi s1 : Int}, wQ A q hi s1 → 1 ≤ hi ∧ 2 ≤ s1
  | 0, _, _, h => by
    obtain ⟨h1, h2⟩ := h
    omega
  | q + 1, hi, s1, h => by
    obtain ⟨lo, s0, V, h1, h2, h3, h4, h5, h6, h7, _⟩ := h
    omega
theorem wQ_fx {A A_q : Nat → Nat → Int} : ∀ {q : Nat} {hi s1 : Int}, Pf hi A A_q → Fx sr s1 A A_q → Fx [29, 30, 31] (q : Int) A A_q → wQ A q hi s1 → wQ A_q q hi s1
  | 0, _, _, _, _, _, h => h
  | q + 1, hi, s1, pf, fs, fq, h => by
    obtain ⟨lo, s0, V, h1, h2, h3, h4, h5, h6, h7, h8, h9, h10, h11, h12, h13⟩ := h
    have e29 : A_q 29 q = A 29 q := fq 29 q rfl (by omega)
    have e30 : A_q 30 q = A 30 q := fq 30 q rfl (by omega)
    have e31 : A_q 31 q = A 31 q := fq 31 q rfl (by omega)
    refine ⟨lo, s0, V, wQ_fx (fun k j hk hj => pf k j hk (by omega)) (Fx_su fs (by omega)) (Fx_su fq (by omega)) h1, h2, h3, h4, ?_⟩
    rw [e29, e30, e31, fs 7 s0.toNat rfl (by omega), fs 12 s0.toNat rfl (by omega)]
    refine ⟨h5, h6, h7, h8, h9, h10, wM_fx fs (by omega) (by omega) h11, fun s hs => ?_, ?_⟩
    · rcases h12 s hs with g | g | g
      · exact .inl (k01_fx fs (by have := g.1; omega) g)
      · refine .inr (.inl ⟨g.1, ?_⟩)
        rw [fs 7 s rfl (by omega)]
        exact g.2
      · exact .inr (.inr g)
    · exact wP_ag fs (Qg_fx fq (by omega)) (by omega) (Int.le_refl _) (Ax_ag (Ag_pf pf (Int.le_refl _))) h13
/-- what is seen between PROCs -/
def VT (V : Nat → Prop) (A : Nat → Nat → Int) (sy : Int) : Prop := ∀ s : Nat, V s → (k01 A s ∧ (s : Int) < sy) ∨ ((s : Int) < sy ∧ A 7 s = 14)
theorem PQ_par {V : Nat → Prop} {sb pb w s0 s1 : Int} {G G_q : Nat → Int} {A A_q : Nat → Nat → Int} (h : PQ V sb pb G A) (f : Fx sr w A A_q) (hb : sb ≤ w) (hb1 : sb ≤ s1) (fq : Fx [29, 30, 31] pb A A_q) (h0 : 0 ≤ s0) (hm : wM A_q s0 (s1 - s0)) (hv : ∀ s, V s → (s : Int) < sb) : PQ (Vd V s0 s1) s1 pb G_q A_q := fun s hs1 hs2 hk => by
  rcases hs1 with hs1 | hs1
  · have hl := hv s hs1
    have q7 : A_q 7 s = A 7 s := f 7 s rfl (by omega)
    have q12 : A_q 12 s = A 12 s := f 12 s rfl (by omega)
    rw [q7] at hk
    have g := h s hs1 hl hk
    have e29 : A_q 29 (A 12 s).toNat = A 29 (A 12 s).toNat := fq 29 _ rfl (by have := g.1; have := g.2.1; omega)
    have e30 : A_q 30 (A 12 s).toNat = A 30 (A 12 s).toNat := fq 30 _ rfl (by have := g.1; have := g.2.1; omega)
    rw [q12, e29, e30]
    refine ⟨g.1, g.2.1, g.2.2.1, g.2.2.2.1, g.2.2.2.2.1, by have := g.2.2.2.2.2.1; omega, fun k h1 h2 => ?_⟩
    have q := g.2.2.2.2.2.2 k h1 h2
    have b := g.2.2.2.2.2.1
    have c := g.2.2.2.2.1
    rw [f 7 _ rfl (by omega)]
    exact q
  · have g := hm (s : Int) hs1.1 (by omega)
    unfold MP at g
    rw [show ((s : Int)).toNat = s by omega] at g
    omega
/-- behind a PROC: it is seen too -/
theorem PQ_proc {V : Nat → Prop} {sb pb pb' w s0 s1 : Int} {G G_q : Nat → Int} {A A_q : Nat → Nat → Int} (h : PQ V sb pb G A) (f : Fx sr w A A_q) (hb : sb ≤ w) (hb1 : sb ≤ s1) (fq : Fx [29, 30, 31] pb A A_q) (h0 : 0 ≤ s0) (hp : pb' = pb + 1) (hpb : 0 ≤ pb) (hn : A_q 12 s0.toNat = pb) (hm0 : 0 ≤ A_q 30 pb.toNat) (hm6 : A_q 30 pb.toNat ≤ 6) (hpp : A_q 29 pb.toNat = s0 + 1) (hs1 : s0 + 1 + A_q 30 pb.toNat ≤ s1) (hm : wM A_q (s0 + 1) (A_q 30 pb.toNat)) (hv : ∀ s, V s → (s : Int) < sb) : PQ (Vu V s0) s1 pb' G_q A_q := fun s hs hs2 hk => by
  rcases hs with hs | hs
  · have hl := hv s hs
    have q7 : A_q 7 s = A 7 s := f 7 s rfl (by omega)
    have q12 : A_q 12 s = A 12 s := f 12 s rfl (by omega)
    rw [q7] at hk
    have g := h s hs hl hk
    have e29 : A_q 29 (A 12 s).toNat = A 29 (A 12 s).toNat := fq 29 _ rfl (by have := g.1; have := g.2.1; omega)
    have e30 : A_q 30 (A 12 s).toNat = A 30 (A 12 s).toNat := fq 30 _ rfl (by have := g.1; have := g.2.1; omega)
    rw [q12, e29, e30]
    refine ⟨g.1, by have := g.2.1; omega, g.2.2.1, g.2.2.2.1, g.2.2.2.2.1, by have := g.2.2.2.2.2.1; omega, fun k h1 h2 => ?_⟩
    have q := g.2.2.2.2.2.2 k h1 h2
    have b := g.2.2.2.2.2.1
    have c := g.2.2.2.2.1
    rw [f 7 _ rfl (by omega)]
    exact q
  · have e : s = s0.toNat := by omega
    subst e
    rw [hn]
    refine ⟨hpb, by omega, hm0, hm6, by omega, by omega, fun k h1 h2 => ?_⟩
    rw [hpp]
    have g := hm (s0 + 1 + k) (by omega) (by omega)
    exact ⟨g.1, g.2.1⟩
/-- what is seen, by how many they are -/
def SW (V : Nat → Prop) (sb v : Int) (A : Nat → Nat → Int) : Prop := ∀ k : Nat, (k : Int) < v → SY V sb (A 14 k)
theorem SW_sv {V : Nat → Prop} {sb v : Int} {G : Nat → Int} {A : Nat → Nat → Int} (h : SW V sb v A) (hg : G 29 = v) : SV V sb G A := fun k hk => h k (by omega)
theorem SV_sw {V : Nat → Prop} {sb v : Int} {G : Nat → Int} {A : Nat → Nat → Int} (h : SV V sb G A) (hg : G 29 = v) : SW V sb v A := fun k hk => h k (by omega)
theorem SW_fx {V : Nat → Prop} {sb v w : Int} {A A_q : Nat → Nat → Int} (f : Fx [14] w A A_q) (hw : v ≤ w) (h : SW V sb v A) : SW V sb v A_q := fun k hk => by
  rw [f 14 k rfl (by omega)]
  exact h k hk
theorem VT_fx {V : Nat → Prop} {sy w : Int} {A A_q : Nat → Nat → Int} (f : Fx sr w A A_q) (hw : sy ≤ w) (h : VT V A sy) : VT V A_q sy := fun s hs => by
  rcases h s hs with g | g
  · exact .inl ⟨k01_fx f (by omega) g.1, g.2⟩
  · exact .inr ⟨g.1, by rw [f 7 s rfl (by omega)]; exact g.2⟩
/-- between PROCs: what is seen, and what was read -/
def TP (A : Nat → Nat → Int) (q hi s1 v : Int) : Prop := ∃ V : Nat → Prop, VB V s1 ∧ SW V s1 v A ∧ PQ V s1 q (fun _ => 0) A ∧ VT V A s1 ∧ wQ A q.toNat hi s1
theorem wM_m {A : Nat → Nat → Int} {s0 m m_q : Int} (h : wM A s0 m) (e : m = m_q) : wM A s0 m_q := e ▸ h
theorem VT_u {V : Nat → Prop} {A : Nat → Nat → Int} {sy s1 : Int} (h : VT V A sy) (h0 : 0 ≤ sy) (h1 : sy < s1) (hk : A 7 sy.toNat = 14) : VT (Vu V sy) A s1 := fun s hs => by
  rcases hs with hs | hs
  · rcases h s hs with g | g
    · exact .inl ⟨g.1, by omega⟩
    · exact .inr ⟨by omega, g.2⟩
  · have e : s = sy.toNat := by omega
    subst e
    exact .inr ⟨by omega, hk⟩
theorem wQ_mk {A : Nat → Nat → Int} {q q2 hi s1 lo s0 m b pb t0 : Int} {V : Nat → Prop} (hq : 0 ≤ q) (hq2 : q2 = q + 1) (h1 : wQ A q.toNat lo s0) (h2 : lo ≤ hi) (hm0 : 0 ≤ m) (hm6 : m ≤ 6) (hs : t0 ≤ s1) (ht : t0 = s0 + 1 + m) (h7 : A 7 s0.toNat = 14) (h12 : A 12 s0.toNat = q) (h29 : A 29 q.toNat = s0 + 1) (h30 : A 30 q.toNat = m) (h31 : A 31 q.toNat = b) (hM : wM A (s0 + 1) m) (hV : VT V A s0) (hpb : pb = q) (hP : wP A s1 pb 18 (Vd V (s0 + 1) t0) b lo hi t0 s1) : wQ A q2.toNat hi s1 := by
  have le := wQ_le h1
  subst hpb
  rw [show q2.toNat = pb.toNat + 1 by omega]
  refine ⟨lo, s0, Vd V (s0 + 1) t0, h1, le.1, h2, le.2, ?_⟩
  rw [h30, h31, h29, ← ht, show ((pb.toNat : Nat) : Int) = pb by omega]
  refine ⟨hm0, hm6, hs, h7, h12, rfl, hM, fun s hs => ?_, hP⟩
  rcases hs with hs | hs
  · rcases hV s hs with g | g
    · exact .inl g.1
    · exact .inr (.inl g)
  · exact .inr (.inr hs)
