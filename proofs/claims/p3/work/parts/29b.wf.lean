/-! trees of nodes: what an expression is, said of the rows of nodes by their numbers -/
def kVal (k : Int) : Prop := k = 1 ∨ k = 5 ∨ k = 6 ∨ k = 9 ∨ k = 10
def kVar (k : Int) : Prop := k = 1 ∨ k = 6
def kArr (k : Int) : Prop := k = 2 ∨ k = 7
def kCh (k : Int) : Prop := k = 3 ∨ k = 8 ∨ k = 11 ∨ k = 12 ∨ k = 13
/-- the rows that trees are said of -/
def wr : List Nat := [15, 17, 18, 19, 20, 21, 22, 23, 24]
theorem wr_nr {k : Nat} (h : wr.elem k = true) : nr.elem k = true := by
  have h := List.elem_iff.mp h
  simp only [wr, List.mem_cons, List.not_mem_nil, or_false] at h
  rcases h with rfl | rfl | rfl | rfl | rfl | rfl | rfl | rfl | rfl <;> rfl
/-- two tables of nodes agree from lo on, below hi -/
def Ag (lo hi : Int) (A A_q : Nat → Nat → Int) : Prop := ∀ k j : Nat, wr.elem k = true → lo ≤ (j : Int) → (j : Int) < hi → A_q k j = A k j
theorem Ag_pf {lo hi z : Int} {A A_q : Nat → Nat → Int} (h : Pf z A A_q) (hz : hi ≤ z) : Ag lo hi A A_q := fun k j hk _ hj => h k j (wr_nr hk) (by omega)
theorem Ag_su {lo hi lo_q hi_q : Int} {A A_q : Nat → Nat → Int} (h : Ag lo hi A A_q) (h1 : lo ≤ lo_q) (h2 : hi_q ≤ hi) : Ag lo_q hi_q A A_q := fun k j hk h3 h4 => h k j hk (by omega) (by omega)
theorem Ag_fr {lo hi : Int} {A A_q : Nat → Nat → Int} {G G_q : Nat → Int} {gs as : List Nat} (hF : Fr gs as G A G_q A_q) (hd : wr.all (fun k => !as.elem k) = true) : Ag lo hi A A_q := fun k j hk _ _ => by
  have e : as.elem k = false := by
    have := List.all_eq_true.mp hd k (List.elem_iff.mp hk)
    simpa using this
  rw [hF.2 k e]
theorem Ag_st {lo hi z v : Int} {A A_q : Nat → Nat → Int} {k : Nat} (e : A_q = uA A k z.toNat v) (h0 : 0 ≤ z) (hz : z < lo ∨ hi ≤ z) : Ag lo hi A A_q := fun k_q j _ hl hj => by
  rw [e]
  exact if_neg (fun q => by omega)
theorem Ag_ne {lo hi v : Int} {A A_q : Nat → Nat → Int} {k n : Nat} (e : A_q = uA A k n v) (hn : wr.elem k = false) : Ag lo hi A A_q := fun k_q j hk _ _ => by
  rw [e]
  exact if_neg (fun q => by
    rw [q.1, hn] at hk
    cases hk)
/-- names' kinds, sizes and numbers agree below sb -/
def sr : List Nat := [7, 8, 12]
def Fx (L : List Nat) (z : Int) (A A_q : Nat → Nat → Int) : Prop := ∀ k j : Nat, L.elem k = true → (j : Int) < z → A_q k j = A k j
theorem Fx_rf {L : List Nat} {z : Int} {A : Nat → Nat → Int} : Fx L z A A := fun _ _ _ _ => rfl
theorem Fx_a {L : List Nat} {w z v : Int} {A A_q : Nat → Nat → Int} {k : Nat} (h : Fx L w A A_q) (h0 : 0 ≤ z) (hz : w ≤ z) : Fx L w A (uA A_q k z.toNat v) := by
  intro k_q j hk hj
  rw [← h k_q j hk hj]
  exact if_neg (fun q => by omega)
theorem Fx_n {L : List Nat} {w v : Int} {A A_q : Nat → Nat → Int} {k n : Nat} (h : Fx L w A A_q) (hn : L.elem k = false) : Fx L w A (uA A_q k n v) := by
  intro k_q j hk hj
  rw [← h k_q j hk hj]
  exact if_neg (fun q => by
    rw [q.1, hn] at hk
    cases hk)
theorem Fx_tr {L : List Nat} {w z : Int} {A A1 A2 : Nat → Nat → Int} (h : Fx L w A A1) (h2 : Fx L z A1 A2) (hz : w ≤ z) : Fx L w A A2 := fun k j hk hj => (h2 k j hk (by omega)).trans (h k j hk hj)
theorem Fx_su {L : List Nat} {w z : Int} {A A1 : Nat → Nat → Int} (h : Fx L z A A1) (hz : w ≤ z) : Fx L w A A1 := fun k j hk hj => h k j hk (by omega)
theorem Fx_f {L : List Nat} {w : Int} {A A1 A2 : Nat → Nat → Int} {gs as : List Nat} {G1 G2 : Nat → Int} (h : Fx L w A A1) (hF : Fr gs as G1 A1 G2 A2) (hd : L.all (fun k => !as.elem k) = true) : Fx L w A A2 := fun k j hk hj => by
  have e : as.elem k = false := by
    have := List.all_eq_true.mp hd k (List.elem_iff.mp hk)
    simpa using this
  rw [hF.2 k e]
  exact h k j hk hj
def Sg (sb : Int) (A A_q : Nat → Nat → Int) : Prop := Fx sr sb A A_q
theorem Sg_fr {sb : Int} {A A_q : Nat → Nat → Int} {G G_q : Nat → Int} {gs as : List Nat} (hF : Fr gs as G A G_q A_q) (hd : sr.all (fun k => !as.elem k) = true) : Sg sb A A_q := fun k j hk _ => by
  have e : as.elem k = false := by
    have := List.all_eq_true.mp hd k (List.elem_iff.mp hk)
    simpa using this
  rw [hF.2 k e]
theorem Sg_ne {sb v : Int} {A A_q : Nat → Nat → Int} {k n : Nat} (e : A_q = uA A k n v) (hn : sr.elem k = false) : Sg sb A A_q := fun k_q j hk _ => by
  rw [e]
  exact if_neg (fun q => by
    rw [q.1, hn] at hk
    cases hk)
/-- a name that is seen -/
def SY (V : Nat → Prop) (sb s : Int) : Prop := 0 ≤ s ∧ s < sb ∧ V s.toNat
theorem SY_lt {V : Nat → Prop} {sb s : Int} (h : SY V sb s) : ((s.toNat : Nat) : Int) < sb := by
  have := h.1
  have := h.2.1
  omega
/-- all that is seen is so -/
def SV (V : Nat → Prop) (sb : Int) (G : Nat → Int) (A : Nat → Nat → Int) : Prop := ∀ k : Nat, (k : Int) < G 29 → SY V sb (A 14 k)
theorem SV_ext {V : Nat → Prop} {sb : Int} {G G_q : Nat → Int} {A A_q : Nat → Nat → Int} (h1 : G_q 29 = G 29) (h2 : A_q 14 = A 14) (h : SV V sb G A) : SV V sb G_q A_q := by
  unfold SV at h ⊢
  rw [h1, h2]
  exact h
theorem kq {P : Int → Prop} {x t : Int} (e : x = t) (h : P t) : P x := e ▸ h
/-- node e, and what is below it, is an expression; their numbers from lo on, below hi; V: the names that are seen, all below sb -/
def wE (A : Nat → Nat → Int) (V : Nat → Prop) (sb : Int) : Nat → Int → Int → Int → Prop
  | 0, _, _, _ => False
  | n + 1, e, lo, hi => lo ≤ e ∧ e < hi ∧ (A 15 e.toNat = 1 ∨ (A 15 e.toNat = 2 ∧ SY V sb (A 17 e.toNat) ∧ kVal (A 7 (A 17 e.toNat).toNat)) ∨ (A 15 e.toNat = 3 ∧ SY V sb (A 17 e.toNat) ∧ kArr (A 7 (A 17 e.toNat).toNat) ∧ wE A V sb n (A 18 e.toNat) lo e) ∨ (A 15 e.toNat = 4 ∧ ∃ m, lo ≤ m ∧ m ≤ e ∧ wE A V sb n (A 18 e.toNat) lo m ∧ wE A V sb n (A 19 e.toNat) m e) ∨ ((A 15 e.toNat = 5 ∨ A 15 e.toNat = 6 ∨ A 15 e.toNat = 7) ∧ wE A V sb n (A 17 e.toNat) lo e))
theorem wE_ag0 {A A_q : Nat → Nat → Int} {V : Nat → Prop} {sb : Int} (sg : Sg sb A A_q) : ∀ (n : Nat) (e lo hi : Int), 0 ≤ lo → Ag lo hi A A_q → wE A V sb n e lo hi → wE A_q V sb n e lo hi
  | 0, _, _, _, _, _, h => h.elim
  | n + 1, e, lo, hi, h0, ag, h => by
    unfold wE at h ⊢
    obtain ⟨h1, h2, h3⟩ := h
    have q : ∀ k, wr.elem k = true → A_q k e.toNat = A k e.toNat := fun k hk => ag k e.toNat hk (by omega) (by omega)
    have sub : Ag lo e A A_q := Ag_su ag (Int.le_refl _) (by omega)
    refine ⟨h1, h2, ?_⟩
    rw [q 15 rfl, q 17 rfl, q 18 rfl, q 19 rfl]
    rcases h3 with h3 | h3 | h3 | h3 | h3
    · exact .inl h3
    · exact .inr (.inl ⟨h3.1, h3.2.1, by rw [sg 7 _ rfl (SY_lt h3.2.1)]; exact h3.2.2⟩)
    · exact .inr (.inr (.inl ⟨h3.1, h3.2.1, by rw [sg 7 _ rfl (SY_lt h3.2.1)]; exact h3.2.2.1, wE_ag0 sg n _ _ _ h0 sub h3.2.2.2⟩))
    · obtain ⟨h4, m, hm, hm2, h5, h6⟩ := h3
      exact .inr (.inr (.inr (.inl ⟨h4, m, hm, hm2, wE_ag0 sg n _ _ _ h0 (Ag_su ag (Int.le_refl _) (by omega)) h5, wE_ag0 sg n _ _ _ (by omega) (Ag_su ag hm (by omega)) h6⟩)))
    · exact .inr (.inr (.inr (.inr ⟨h3.1, wE_ag0 sg n _ _ _ h0 sub h3.2⟩)))
theorem wE_ag {A A_q : Nat → Nat → Int} {V : Nat → Prop} {sb lo : Int} (h0 : 0 ≤ lo) (sg : Sg sb A A_q) {n : Nat} {e hi : Int} (ag : Ag lo hi A A_q) (h : wE A V sb n e lo hi) : wE A_q V sb n e lo hi := wE_ag0 sg n e lo hi h0 ag h
theorem SY_mono {V V_q : Nat → Prop} {sb sb_q s : Int} (hv : ∀ s, V s → V_q s) (hs : sb ≤ sb_q) (h : SY V sb s) : SY V_q sb_q s := ⟨h.1, Int.lt_of_lt_of_le h.2.1 hs, hv _ h.2.2⟩
theorem wE_env {A : Nat → Nat → Int} {V V_q : Nat → Prop} {sb sb_q : Int} (hv : ∀ s, V s → V_q s) (hs : sb ≤ sb_q) : ∀ (n m : Nat) (e lo hi lo_q hi_q : Int), n ≤ m → lo_q ≤ lo → hi ≤ hi_q → wE A V sb n e lo hi → wE A V_q sb_q m e lo_q hi_q
  | 0, _, _, _, _, _, _, _, _, _, h => h.elim
  | n + 1, 0, _, _, _, _, _, hn, _, _, _ => absurd hn (by omega)
  | n + 1, m + 1, e, lo, hi, lo_q, hi_q, hn, hl, hh, h => by
    unfold wE at h ⊢
    obtain ⟨h1, h2, h3⟩ := h
    refine ⟨by omega, by omega, ?_⟩
    have hn' : n ≤ m := by omega
    rcases h3 with h3 | h3 | h3 | h3 | h3
    · exact .inl h3
    · exact .inr (.inl ⟨h3.1, SY_mono hv hs h3.2.1, h3.2.2⟩)
    · exact .inr (.inr (.inl ⟨h3.1, SY_mono hv hs h3.2.1, h3.2.2.1, wE_env hv hs n m _ _ _ _ _ hn' hl (Int.le_refl _) h3.2.2.2⟩))
    · obtain ⟨h4, k, hk, hk2, h5, h6⟩ := h3
      exact .inr (.inr (.inr (.inl ⟨h4, k, by omega, hk2, wE_env hv hs n m _ _ _ _ _ hn' hl (Int.le_refl _) h5, wE_env hv hs n m _ _ _ _ _ hn' (Int.le_refl _) (Int.le_refl _) h6⟩)))
    · exact .inr (.inr (.inr (.inr ⟨h3.1, wE_env hv hs n m _ _ _ _ _ hn' hl (Int.le_refl _) h3.2⟩)))
theorem wE_mono {A : Nat → Nat → Int} {V : Nat → Prop} {sb lo lo_q : Int} (hl : lo_q ≤ lo) {n m : Nat} {e hi hi_q : Int} (hn : n ≤ m) (hh : hi ≤ hi_q) (h : wE A V sb n e lo hi) : wE A V sb m e lo_q hi_q := wE_env (fun _ q => q) (Int.le_refl _) n m e lo hi lo_q hi_q hn hl hh h
/-- what a node holds -/
def ND (A : Nat → Nat → Int) (n k a b c d f x : Int) : Prop := A 15 n.toNat = k ∧ A 17 n.toNat = a ∧ A 18 n.toNat = b ∧ A 19 n.toNat = c ∧ A 20 n.toNat = d ∧ A 21 n.toNat = f ∧ A 22 n.toNat = x
theorem ND_ag {A A_q : Nat → Nat → Int} {n k a b c d f x : Int} (h0 : 0 ≤ n) (ag : Ag n (n + 1) A A_q) (h : ND A n k a b c d f x) : ND A_q n k a b c d f x := by
  have q : ∀ k, wr.elem k = true → A_q k n.toNat = A k n.toNat := fun k hk => ag k n.toNat hk (by omega) (by omega)
  unfold ND at h ⊢
  rw [q 15 rfl, q 17 rfl, q 18 rfl, q 19 rfl, q 20 rfl, q 21 rfl, q 22 rfl]
  exact h
theorem ND_a {A A_q : Nat → Nat → Int} {n k a b c d f x v : Int} (e : A_q = uA A 17 n.toNat v) (h : ND A n k a b c d f x) : ND A_q n k v b c d f x := by
  subst e
  exact ⟨(congrFun (uA_ne (by decide)) _).trans h.1, uA_eq, (congrFun (uA_ne (by decide)) _).trans h.2.2.1, (congrFun (uA_ne (by decide)) _).trans h.2.2.2.1, (congrFun (uA_ne (by decide)) _).trans h.2.2.2.2.1, (congrFun (uA_ne (by decide)) _).trans h.2.2.2.2.2.1, (congrFun (uA_ne (by decide)) _).trans h.2.2.2.2.2.2⟩
theorem ND_b {A A_q : Nat → Nat → Int} {n k a b c d f x v : Int} (e : A_q = uA A 18 n.toNat v) (h : ND A n k a b c d f x) : ND A_q n k a v c d f x := by
  subst e
  exact ⟨(congrFun (uA_ne (by decide)) _).trans h.1, (congrFun (uA_ne (by decide)) _).trans h.2.1, uA_eq, (congrFun (uA_ne (by decide)) _).trans h.2.2.2.1, (congrFun (uA_ne (by decide)) _).trans h.2.2.2.2.1, (congrFun (uA_ne (by decide)) _).trans h.2.2.2.2.2.1, (congrFun (uA_ne (by decide)) _).trans h.2.2.2.2.2.2⟩
theorem ND_c {A A_q : Nat → Nat → Int} {n k a b c d f x v : Int} (e : A_q = uA A 19 n.toNat v) (h : ND A n k a b c d f x) : ND A_q n k a b v d f x := by
  subst e
  exact ⟨(congrFun (uA_ne (by decide)) _).trans h.1, (congrFun (uA_ne (by decide)) _).trans h.2.1, (congrFun (uA_ne (by decide)) _).trans h.2.2.1, uA_eq, (congrFun (uA_ne (by decide)) _).trans h.2.2.2.2.1, (congrFun (uA_ne (by decide)) _).trans h.2.2.2.2.2.1, (congrFun (uA_ne (by decide)) _).trans h.2.2.2.2.2.2⟩
theorem ND_d {A A_q : Nat → Nat → Int} {n k a b c d f x v : Int} (e : A_q = uA A 20 n.toNat v) (h : ND A n k a b c d f x) : ND A_q n k a b c v f x := by
  subst e
  exact ⟨(congrFun (uA_ne (by decide)) _).trans h.1, (congrFun (uA_ne (by decide)) _).trans h.2.1, (congrFun (uA_ne (by decide)) _).trans h.2.2.1, (congrFun (uA_ne (by decide)) _).trans h.2.2.2.1, uA_eq, (congrFun (uA_ne (by decide)) _).trans h.2.2.2.2.2.1, (congrFun (uA_ne (by decide)) _).trans h.2.2.2.2.2.2⟩
theorem ND_f {A A_q : Nat → Nat → Int} {n k a b c d f x v : Int} (e : A_q = uA A 21 n.toNat v) (h : ND A n k a b c d f x) : ND A_q n k a b c d v x := by
  subst e
  exact ⟨(congrFun (uA_ne (by decide)) _).trans h.1, (congrFun (uA_ne (by decide)) _).trans h.2.1, (congrFun (uA_ne (by decide)) _).trans h.2.2.1, (congrFun (uA_ne (by decide)) _).trans h.2.2.2.1, (congrFun (uA_ne (by decide)) _).trans h.2.2.2.2.1, uA_eq, (congrFun (uA_ne (by decide)) _).trans h.2.2.2.2.2.2⟩
theorem wE_num {A : Nat → Nat → Int} {V : Nat → Prop} {sb : Int} {m : Nat} {e a b c d f x lo hi : Int} (h : ND A e 1 a b c d f x) (h1 : lo ≤ e) (h2 : e < hi) : wE A V sb (m + 1) e lo hi := ⟨h1, h2, .inl h.1⟩
theorem wE_var {A : Nat → Nat → Int} {V : Nat → Prop} {sb : Int} {m : Nat} {e a b c d f x lo hi : Int} (h : ND A e 2 a b c d f x) (h1 : lo ≤ e) (h2 : e < hi) (ha : SY V sb a) (hk : kVal (A 7 a.toNat)) : wE A V sb (m + 1) e lo hi := ⟨h1, h2, .inr (.inl ⟨h.1, by rw [h.2.1]; exact ha, by rw [h.2.1]; exact hk⟩)⟩
theorem wE_elem {A : Nat → Nat → Int} {V : Nat → Prop} {sb : Int} {m : Nat} {e a b c d f x lo hi : Int} (h : ND A e 3 a b c d f x) (h1 : lo ≤ e) (h2 : e < hi) (ha : SY V sb a) (hk : kArr (A 7 a.toNat)) (hb : wE A V sb m b lo e) : wE A V sb (m + 1) e lo hi := ⟨h1, h2, .inr (.inr (.inl ⟨h.1, by rw [h.2.1]; exact ha, by rw [h.2.1]; exact hk, by rw [h.2.2.1]; exact hb⟩))⟩
theorem wE_two {A : Nat → Nat → Int} {V : Nat → Prop} {sb : Int} {m : Nat} {e a b c d f x lo hi : Int} (h : ND A e 4 a b c d f x) (h1 : lo ≤ e) (h2 : e < hi) {w : Int} (hw : lo ≤ w) (hw2 : w ≤ e) (hb : wE A V sb m b lo w) (hc : wE A V sb m c w e) : wE A V sb (m + 1) e lo hi := ⟨h1, h2, .inr (.inr (.inr (.inl ⟨h.1, w, hw, hw2, by rw [h.2.2.1]; exact hb, by rw [h.2.2.2.1]; exact hc⟩)))⟩
theorem wE_one {A : Nat → Nat → Int} {V : Nat → Prop} {sb : Int} {m : Nat} {e k a b c d f x lo hi : Int} (h : ND A e k a b c d f x) (hk : k = 5 ∨ k = 6 ∨ k = 7) (h1 : lo ≤ e) (h2 : e < hi) (ha : wE A V sb m a lo e) : wE A V sb (m + 1) e lo hi := ⟨h1, h2, .inr (.inr (.inr (.inr ⟨by rw [h.1]; exact hk, by rw [h.2.1]; exact ha⟩)))⟩
/-- a place: ch = 0 a variable or an array's element, ch = 1 a channel or a channel of a row -/
def kRef (ch k : Int) : Prop := (ch = 0 ∧ kVar k) ∨ (ch = 1 ∧ kCh k)
def kRow (ch k : Int) : Prop := (ch = 0 ∧ kArr k) ∨ (ch = 1 ∧ k = 4)
def wR (A : Nat → Nat → Int) (V : Nat → Prop) (sb : Int) (n : Nat) (ch e lo hi : Int) : Prop := lo ≤ e ∧ e < hi ∧ ((A 15 e.toNat = 2 ∧ SY V sb (A 17 e.toNat) ∧ kRef ch (A 7 (A 17 e.toNat).toNat)) ∨ (A 15 e.toNat = 3 ∧ SY V sb (A 17 e.toNat) ∧ kRow ch (A 7 (A 17 e.toNat).toNat) ∧ wE A V sb n (A 18 e.toNat) lo e))
theorem wR_ag {A A_q : Nat → Nat → Int} {V : Nat → Prop} {sb : Int} {n : Nat} {ch e lo hi : Int} (h0 : 0 ≤ lo) (sg : Sg sb A A_q) (ag : Ag lo hi A A_q) (h : wR A V sb n ch e lo hi) : wR A_q V sb n ch e lo hi := by
  obtain ⟨h1, h2, h3⟩ := h
  have q : ∀ k, wr.elem k = true → A_q k e.toNat = A k e.toNat := fun k hk => ag k e.toNat hk (by omega) (by omega)
  have sub : Ag lo e A A_q := fun k j hk hl hj => ag k j hk hl (by omega)
  refine ⟨h1, h2, ?_⟩
  rw [q 15 rfl, q 17 rfl, q 18 rfl]
  rcases h3 with h3 | h3
  · exact .inl ⟨h3.1, h3.2.1, by rw [sg 7 _ rfl (SY_lt h3.2.1)]; exact h3.2.2⟩
  · exact .inr ⟨h3.1, h3.2.1, by rw [sg 7 _ rfl (SY_lt h3.2.1)]; exact h3.2.2.1, wE_ag h0 sg sub h3.2.2.2⟩
theorem wR_mono {A : Nat → Nat → Int} {V : Nat → Prop} {sb : Int} {n m : Nat} {ch e lo lo_q hi hi_q : Int} (hl : lo_q ≤ lo) (hn : n ≤ m) (hh : hi ≤ hi_q) (h : wR A V sb n ch e lo hi) : wR A V sb m ch e lo_q hi_q := by
  obtain ⟨h1, h2, h3⟩ := h
  refine ⟨by omega, by omega, ?_⟩
  rcases h3 with h3 | h3
  · exact .inl h3
  · exact .inr ⟨h3.1, h3.2.1, h3.2.2.1, wE_mono hl hn (Int.le_refl _) h3.2.2.2⟩
theorem wR_var {A : Nat → Nat → Int} {V : Nat → Prop} {sb : Int} {m : Nat} {ch e a b c d f x lo hi : Int} (h : ND A e 2 a b c d f x) (h1 : lo ≤ e) (h2 : e < hi) (ha : SY V sb a) (hk : kRef ch (A 7 a.toNat)) : wR A V sb m ch e lo hi := ⟨h1, h2, .inl ⟨h.1, by rw [h.2.1]; exact ha, by rw [h.2.1]; exact hk⟩⟩
theorem wR_elem {A : Nat → Nat → Int} {V : Nat → Prop} {sb : Int} {m : Nat} {ch e a b c d f x lo hi : Int} (h : ND A e 3 a b c d f x) (h1 : lo ≤ e) (h2 : e < hi) (ha : SY V sb a) (hk : kRow ch (A 7 a.toNat)) (hb : wE A V sb m b lo e) : wR A V sb m ch e lo hi := ⟨h1, h2, .inr ⟨h.1, by rw [h.2.1]; exact ha, by rw [h.2.1]; exact hk, by rw [h.2.2.1]; exact hb⟩⟩
