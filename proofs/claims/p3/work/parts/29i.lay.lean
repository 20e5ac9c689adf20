/-! layout: where words lie; expressions -/
theorem jx_nadd {X : jX} {d : Nat} {e : jM} {pc pc_q : Nat} {l : jL} {st : List Value} {V : jH} {Q : jO → jH → Prop} {x y : Int} (h1 : jGet' e pc = some (.ladd, 1)) (hp : pc + 1 = pc_q) (k : wj X d e (pc_q, l, .long (i64 (x + y)) :: st, V) Q) : wj X d e (pc, l, .long (i64 y) :: .long (i64 x) :: st, V) Q := jx_ar h1 rfl (by rw [show i64 (x + y) = i64 x + i64 y from Int64.ofInt_add x y]; rfl) hp k
theorem jx_nmul {X : jX} {d : Nat} {e : jM} {pc pc_q : Nat} {l : jL} {st : List Value} {V : jH} {Q : jO → jH → Prop} {x y : Int} (h1 : jGet' e pc = some (.lmul, 1)) (hp : pc + 1 = pc_q) (k : wj X d e (pc_q, l, .long (i64 (x * y)) :: st, V) Q) : wj X d e (pc, l, .long (i64 y) :: .long (i64 x) :: st, V) Q := jx_ar h1 rfl (by rw [show i64 (x * y) = i64 x * i64 y from Int64.ofInt_mul x y]; rfl) hp k
theorem i64_to {z : Int} (h1 : -9223372036854775808 ≤ z) (h2 : z ≤ 9223372036854775807) : (i64 z).toInt = z := Int64.toInt_ofInt_of_le (by omega) (by omega)
theorem i64_i32 {z : Int} (h1 : -2147483648 ≤ z) (h2 : z ≤ 2147483647) : (i32 z).toInt64 = i64 z := by
  rw [← Int64.toInt_inj, Int32.toInt_toInt64, i32_to h1 h2, i64_to (by omega) (by omega)]
theorem i32_i64 {z : Int} (h1 : -2147483648 ≤ z) (h2 : z ≤ 2147483647) : (i64 z).toInt32 = i32 z := by
  rw [← i64_i32 h1 h2]
  exact Int32.toInt32_toInt64 _
theorem jx_i2n {X : jX} {d : Nat} {e : jM} {pc pc_q : Nat} {l : jL} {st : List Value} {V : jH} {Q : jO → jH → Prop} {x : Int} (h1 : jGet' e pc = some (.i2l, 1)) (hp : pc + 1 = pc_q) (a : -2147483648 ≤ x) (b : x ≤ 2147483647) (k : wj X d e (pc_q, l, .long (i64 x) :: st, V) Q) : wj X d e (pc, l, .int (i32 x) :: st, V) Q := jx_ar h1 rfl (by rw [← i64_i32 a b]; rfl) hp k
theorem jx_n2i {X : jX} {d : Nat} {e : jM} {pc pc_q : Nat} {l : jL} {st : List Value} {V : jH} {Q : jO → jH → Prop} {x : Int} (h1 : jGet' e pc = some (.l2i, 1)) (hp : pc + 1 = pc_q) (a : -2147483648 ≤ x) (b : x ≤ 2147483647) (k : wj X d e (pc_q, l, .int (i32 x) :: st, V) Q) : wj X d e (pc, l, .long (i64 x) :: st, V) Q := jx_ar h1 rfl (by rw [← i32_i64 a b]; rfl) hp k
theorem jx_ncmp {X : jX} {d : Nat} {e : jM} {pc pc_q : Nat} {l : jL} {st : List Value} {V : jH} {Q : jO → jH → Prop} {x y : Int} (h1 : jGet' e pc = some (.lcmp, 1)) (hp : pc + 1 = pc_q) (a : -9223372036854775808 ≤ x) (b : x ≤ 9223372036854775807) (a2 : -9223372036854775808 ≤ y) (b2 : y ≤ 9223372036854775807) (k : ∀ r : Int, (r = 1 ∧ y < x) ∨ (r = 0 ∧ x = y) ∨ (r = -1 ∧ x < y) → wj X d e (pc_q, l, .int (i32 r) :: st, V) Q) : wj X d e (pc, l, .long (i64 y) :: .long (i64 x) :: st, V) Q := by
  have : ∃ r : Int, ((r = 1 ∧ y < x) ∨ (r = 0 ∧ x = y) ∨ (r = -1 ∧ x < y)) ∧ lg_cmp (i64 x) (i64 y) = i32 r := by
    unfold lg_cmp
    have e1 : i64 x > i64 y ↔ y < x := by
      show i64 y < i64 x ↔ y < x
      rw [Int64.lt_iff_toInt_lt, i64_to a b, i64_to a2 b2]
    have e2 : i64 x = i64 y ↔ x = y := by
      rw [← Int64.toInt_inj, i64_to a b, i64_to a2 b2]
    split
    · rename_i h
      exact ⟨1, .inl ⟨rfl, e1.mp h⟩, rfl⟩
    · rename_i h
      have h_q : ¬ y < x := fun q => h (e1.mpr q)
      split
      · rename_i g
        exact ⟨0, .inr (.inl ⟨rfl, e2.mp g⟩), rfl⟩
      · rename_i g
        have g_q : ¬ x = y := fun q => g (e2.mpr q)
        exact ⟨-1, .inr (.inr ⟨rfl, by omega⟩), by decide⟩
  obtain ⟨r, hr, e0⟩ := this
  exact jx_ar h1 rfl (by rw [← e0]; rfl) hp (k r hr)
/-- the rows are as they were but for the numbers from lo on below hi -/
def Fo (L : List Nat) (lo hi : Int) (A A_q : Nat → Nat → Int) : Prop := ∀ k j : Nat, L.elem k = true → ¬ (lo ≤ (j : Int) ∧ (j : Int) < hi) → A_q k j = A k j
theorem Fo_rf {L : List Nat} {lo hi : Int} {A : Nat → Nat → Int} : Fo L lo hi A A := fun _ _ _ _ => rfl
theorem Fo_a {L : List Nat} {lo hi z v : Int} {A A_q : Nat → Nat → Int} {k : Nat} (h : Fo L lo hi A A_q) (h0 : 0 ≤ z) (h1 : lo ≤ z) (h2 : z < hi) : Fo L lo hi A (uA A_q k z.toNat v) := by
  intro k_q j hk hj
  rw [← h k_q j hk hj]
  exact if_neg (fun q => by omega)
theorem Fo_n {L : List Nat} {lo hi v : Int} {A A_q : Nat → Nat → Int} {k n : Nat} (h : Fo L lo hi A A_q) (hn : L.elem k = false) : Fo L lo hi A (uA A_q k n v) := by
  intro k_q j hk hj
  rw [← h k_q j hk hj]
  exact if_neg (fun q => by
    rw [q.1, hn] at hk
    cases hk)
theorem Fo_tr {L : List Nat} {lo hi a b : Int} {A A1 A2 : Nat → Nat → Int} (h : Fo L lo hi A A1) (h2 : Fo L a b A1 A2) (h3 : lo ≤ a) (h4 : b ≤ hi) : Fo L lo hi A A2 := fun k j hk hj => (h2 k j hk (by omega)).trans (h k j hk hj)
theorem Fo_f {L : List Nat} {lo hi : Int} {A A1 A2 : Nat → Nat → Int} {gs as : List Nat} {G1 G2 : Nat → Int} (h : Fo L lo hi A A1) (hF : Fr gs as G1 A1 G2 A2) (hd : L.all (fun k => !as.elem k) = true) : Fo L lo hi A A2 := fun k j hk hj => by
  have e : as.elem k = false := by
    have := List.all_eq_true.mp hd k (List.elem_iff.mp hk)
    simpa using this
  rw [hF.2 k e]
  exact h k j hk hj
/-- trees stay where their rows do -/
theorem wE_fr {A A_q : Nat → Nat → Int} {V : Nat → Prop} {sb lo e hi : Int} {n : Nat} {G G_q : Nat → Int} {gs as : List Nat} (hF : Fr gs as G A G_q A_q) (hd : wr.all (fun k => !as.elem k) = true) (hs : sr.all (fun k => !as.elem k) = true) (h0 : 0 ≤ lo) (h : wE A V sb n e lo hi) : wE A_q V sb n e lo hi := wE_ag h0 (Sg_fr hF hs) (Ag_fr hF hd) h
theorem wR_fr {A A_q : Nat → Nat → Int} {V : Nat → Prop} {sb ch lo e hi : Int} {n : Nat} {G G_q : Nat → Int} {gs as : List Nat} (hF : Fr gs as G A G_q A_q) (hd : wr.all (fun k => !as.elem k) = true) (hs : sr.all (fun k => !as.elem k) = true) (h0 : 0 ≤ lo) (h : wR A V sb n ch e lo hi) : wR A_q V sb n ch e lo hi := wR_ag h0 (Sg_fr hF hs) (Ag_fr hF hd) h
theorem wE_pos {A : Nat → Nat → Int} {V : Nat → Prop} {sb lo e hi : Int} {n : Nat} (h : wE A V sb n e lo hi) : ∃ m, n = m + 1 := by
  cases n with
  | zero => exact h.elim
  | succ m => exact ⟨m, rfl⟩
theorem wE_in {A : Nat → Nat → Int} {V : Nat → Prop} {sb lo e hi : Int} {n : Nat} (h : wE A V sb n e lo hi) : lo ≤ e ∧ e < hi := by
  cases n with
  | zero => exact h.elim
  | succ m => exact ⟨h.1, h.2.1⟩
/-- an expression without its brackets -/
def bK (A : Nat → Nat → Int) : Nat → Int → Int
  | 0, e => e
  | n + 1, e => if A 15 e.toNat = 7 then bK A n (A 17 e.toNat) else e
theorem bK_y {A : Nat → Nat → Int} {n : Nat} {e : Int} (k : A 15 e.toNat = 7) : bK A (n + 1) e = bK A n (A 17 e.toNat) := if_pos k
theorem bK_x {A : Nat → Nat → Int} {n : Nat} {e : Int} (k : A 15 e.toNat ≠ 7) : bK A n e = e := by
  cases n with
  | zero => rfl
  | succ n => exact if_neg k
theorem bK_n {A : Nat → Nat → Int} {V : Nat → Prop} {sb : Int} : ∀ {n N : Nat} {e lo hi : Int}, wE A V sb n e lo hi → n ≤ N → bK A N e = bK A n e
  | 0, _, _, _, _, h, _ => h.elim
  | n + 1, 0, _, _, _, _, hn => absurd hn (by omega)
  | n + 1, N + 1, e, lo, hi, h, hn => by
    by_cases k : A 15 e.toNat = 7
    · rw [bK_y k, bK_y k]
      exact bK_n (wE_i5 h (.inr (.inr k))) (by omega)
    · rw [bK_x k, bK_x k]
theorem bK_in {A : Nat → Nat → Int} {V : Nat → Prop} {sb : Int} : ∀ {n N : Nat} {e lo hi : Int}, wE A V sb n e lo hi → lo ≤ bK A N e ∧ bK A N e < hi
  | 0, _, _, _, _, h => h.elim
  | n + 1, 0, e, lo, hi, h => ⟨h.1, h.2.1⟩
  | n + 1, N + 1, e, lo, hi, h => by
    by_cases k : A 15 e.toNat = 7
    · rw [bK_y k]
      have := bK_in (N := N) (wE_i5 h (.inr (.inr k)))
      have := h.2.1
      omega
    · rw [bK_x k]
      exact ⟨h.1, h.2.1⟩
theorem bK_ag {A A_q : Nat → Nat → Int} {V : Nat → Prop} {sb : Int} : ∀ {n N : Nat} {e lo hi : Int}, 0 ≤ lo → Ag lo hi A A_q → wE A V sb n e lo hi → bK A_q N e = bK A N e
  | 0, _, _, _, _, _, _, h => h.elim
  | n + 1, 0, e, lo, hi, _, _, h => rfl
  | n + 1, N + 1, e, lo, hi, h0, ag, h => by
    have h1 := h.1
    have h2 := h.2.1
    have q : ∀ k, wr.elem k = true → A_q k e.toNat = A k e.toNat := fun k hk => ag k e.toNat hk (by omega) (by omega)
    by_cases k : A 15 e.toNat = 7
    · rw [bK_y k, bK_y (show A_q 15 e.toNat = 7 by rw [q 15 rfl]; exact k), q 17 rfl]
      exact bK_ag h0 (Ag_su ag (Int.le_refl _) (by omega)) (wE_i5 h (.inr (.inr k)))
    · rw [bK_x k, bK_x (show A_q 15 e.toNat ≠ 7 by rw [q 15 rfl]; exact k)]
/-- both sides are taken one behind the other: no word is wanted -/
def sO (A : Nat → Nat → Int) (e : Int) : Prop := A 17 e.toNat = 17 ∨ A 17 e.toNat = 18 ∨ A 15 (bK A 30 (A 19 e.toNat)).toNat = 1 ∨ A 15 (bK A 30 (A 19 e.toNat)).toNat = 2
theorem sO_p {A : Nat → Nat → Int} {e r : Int} (hr : r = bK A 30 (A 19 e.toNat)) (hk : A 15 r.toNat = 1 ∨ A 15 r.toNat = 2) : sO A e := .inr (.inr (hr ▸ hk))
theorem nO_p {A : Nat → Nat → Int} {e r : Int} (h1 : A 17 e.toNat ≠ 17) (h2 : A 17 e.toNat ≠ 18) (hr : r = bK A 30 (A 19 e.toNat)) (hk : A 15 r.toNat ≠ 1 ∧ A 15 r.toNat ≠ 2) : ¬ sO A e := fun h => by
  subst hr
  rcases h with h | h | h | h
  · exact h1 h
  · exact h2 h
  · exact hk.1 h
  · exact hk.2 h
theorem sO_ag {A A_q : Nat → Nat → Int} {V : Nat → Prop} {sb e lo hi : Int} {n : Nat} (h0 : 0 ≤ lo) (ag : Ag lo hi A A_q) (h : wE A V sb (n + 1) e lo hi) (k : A 15 e.toNat = 4) : sO A_q e ↔ sO A e := by
  have h1 := h.1
  have h2 := h.2.1
  have q : ∀ k, wr.elem k = true → A_q k e.toNat = A k e.toNat := fun k hk => ag k e.toNat hk (by omega) (by omega)
  obtain ⟨m, g1, g2, g3, g4⟩ := wE_i4 h k
  have b := bK_in (N := 30) g4
  unfold sO
  rw [q 17 rfl, q 19 rfl, bK_ag (by omega) (Ag_su ag g1 (by omega)) g4, ag 15 (bK A 30 (A 19 e.toNat)).toNat rfl (by omega) (by omega)]
/-- the words that an expression keeps values in: from f on, below z -/
def lE (A : Nat → Nat → Int) : Nat → Int → Int → Int → Prop
  | 0, _, _, _ => True
  | n + 1, e, f, z => (A 15 e.toNat = 3 → lE A n (A 18 e.toNat) f z) ∧ (A 15 e.toNat = 5 ∨ A 15 e.toNat = 6 ∨ A 15 e.toNat = 7 → lE A n (A 17 e.toNat) f z) ∧ (A 15 e.toNat = 4 → sO A e → lE A n (A 18 e.toNat) f z ∧ lE A n (A 19 e.toNat) f z) ∧ (A 15 e.toNat = 4 → ¬ sO A e → lE A n (A 19 e.toNat) f z ∧ A 25 e.toNat = f ∧ f + 1 ≤ z ∧ lE A n (A 18 e.toNat) (f + 1) z)
theorem lE_sz {A : Nat → Nat → Int} : ∀ {n m : Nat} {e f z z' : Int}, m ≤ n → z ≤ z' → lE A n e f z → lE A m e f z'
  | _, 0, _, _, _, _, _, _, _ => trivial
  | 0, m + 1, _, _, _, _, hm, _, _ => absurd hm (by omega)
  | n + 1, m + 1, e, f, z, z', hm, hz, h => by
    have hm' : m ≤ n := by omega
    refine ⟨fun k => lE_sz hm' hz (h.1 k), fun k => lE_sz hm' hz (h.2.1 k), fun k s => ?_, fun k s => ?_⟩
    · have g := h.2.2.1 k s
      exact ⟨lE_sz hm' hz g.1, lE_sz hm' hz g.2⟩
    · have g := h.2.2.2 k s
      exact ⟨lE_sz hm' hz g.1, g.2.1, by have := g.2.2.1; omega, lE_sz hm' hz g.2.2.2⟩
theorem lE_mv {A A_q : Nat → Nat → Int} {V : Nat → Prop} {sb : Int} : ∀ {n m : Nat} {e lo hi f z : Int}, 0 ≤ lo → Ag lo hi A A_q → (∀ j : Nat, lo ≤ (j : Int) → (j : Int) < hi → A_q 25 j = A 25 j) → wE A V sb n e lo hi → lE A m e f z → lE A_q m e f z
  | _, 0, _, _, _, _, _, _, _, _, _, _ => trivial
  | 0, m + 1, _, _, _, _, _, _, _, _, w, _ => w.elim
  | n + 1, m + 1, e, lo, hi, f, z, h0, ag, a25, w, h => by
    have h1 := w.1
    have h2 := w.2.1
    have q : ∀ k, wr.elem k = true → A_q k e.toNat = A k e.toNat := fun k hk => ag k e.toNat hk (by omega) (by omega)
    have so := fun k => sO_ag h0 ag w k
    have sb1 : Ag lo e A A_q := Ag_su ag (Int.le_refl _) (by omega)
    unfold lE at h ⊢
    rw [q 15 rfl, q 17 rfl, q 18 rfl, q 19 rfl, a25 e.toNat (by omega) (by omega)]
    refine ⟨fun k => ?_, fun k => ?_, fun k s => ?_, fun k s => ?_⟩
    · exact lE_mv h0 sb1 (fun j g1 g2 => a25 j g1 (by omega)) (wE_i3 w k).2.2 (h.1 k)
    · exact lE_mv h0 sb1 (fun j g1 g2 => a25 j g1 (by omega)) (wE_i5 w k) (h.2.1 k)
    · have g := h.2.2.1 k ((so k).mp s)
      obtain ⟨m_q, g1, g2, g3, g4⟩ := wE_i4 w k
      exact ⟨lE_mv h0 (Ag_su ag (Int.le_refl _) (by omega)) (fun j j1 j2 => a25 j j1 (by omega)) g3 g.1, lE_mv (by omega) (Ag_su ag g1 (by omega)) (fun j j1 j2 => a25 j (by omega) (by omega)) g4 g.2⟩
    · have g := h.2.2.2 k (fun s_q => s ((so k).mpr s_q))
      obtain ⟨m_q, g1, g2, g3, g4⟩ := wE_i4 w k
      exact ⟨lE_mv (by omega) (Ag_su ag g1 (by omega)) (fun j j1 j2 => a25 j (by omega) (by omega)) g4 g.1, g.2.1, g.2.2.1, lE_mv h0 (Ag_su ag (Int.le_refl _) (by omega)) (fun j j1 j2 => a25 j j1 (by omega)) g3 g.2.2.2⟩
theorem lE_k1 {A : Nat → Nat → Int} {n : Nat} {e k f z : Int} (q : A 15 e.toNat = k) (hk : k ≤ 2) : lE A (n + 1) e f z := ⟨fun g => by omega, fun g => by omega, fun g => by omega, fun g => by omega⟩
theorem lE_k3 {A : Nat → Nat → Int} {n : Nat} {e k b f z : Int} (q : A 15 e.toNat = k) (q18 : A 18 e.toNat = b) (hk : k = 3) (h : lE A n b f z) : lE A (n + 1) e f z := ⟨fun _ => by rw [q18]; exact h, fun g => by omega, fun g => by omega, fun g => by omega⟩
theorem lE_k5 {A : Nat → Nat → Int} {n : Nat} {e k a f z : Int} (q : A 15 e.toNat = k) (q17 : A 17 e.toNat = a) (hk : 5 ≤ k) (h : lE A n a f z) : lE A (n + 1) e f z := ⟨fun g => by omega, fun _ => by rw [q17]; exact h, fun g => by omega, fun g => by omega⟩
theorem lE_k4s {A : Nat → Nat → Int} {n : Nat} {e k b c f z : Int} (q : A 15 e.toNat = k) (q18 : A 18 e.toNat = b) (q19 : A 19 e.toNat = c) (hk : k = 4) (hs : sO A e) (h : lE A n b f z) (h2 : lE A n c f z) : lE A (n + 1) e f z := ⟨fun g => by omega, fun g => by omega, fun _ _ => by rw [q18, q19]; exact ⟨h, h2⟩, fun _ g => absurd hs g⟩
theorem lE_k4t {A : Nat → Nat → Int} {n : Nat} {e k b c w f f_q z : Int} (q : A 15 e.toNat = k) (q18 : A 18 e.toNat = b) (q19 : A 19 e.toNat = c) (q25 : A 25 e.toNat = w) (hw : w = f) (hf : f_q = f + 1) (hk : k = 4) (hs : ¬ sO A e) (hz : f + 1 ≤ z) (h2 : lE A n c f z) (h : lE A n b f_q z) : lE A (n + 1) e f z := ⟨fun g => by omega, fun g => by omega, fun _ g => absurd g hs, fun _ _ => by
  rw [q18, q19, q25]
  subst hf
  exact ⟨h2, hw, hz, h⟩⟩
/-- a place: the words of its index -/
def lR (A : Nat → Nat → Int) (x f z : Int) : Prop := 0 < x → A 15 x.toNat = 3 → lE A 22 (A 18 x.toNat) f z
theorem lR_sz {A : Nat → Nat → Int} {x f z z' : Int} (hz : z ≤ z') (h : lR A x f z) : lR A x f z' := fun h1 h2 => lE_sz (Nat.le_refl _) hz (h h1 h2)
theorem wR_i3 {A : Nat → Nat → Int} {V : Nat → Prop} {sb ch e lo hi : Int} {n : Nat} (h : wR A V sb n ch e lo hi) (k : A 15 e.toNat = 3) : SY V sb (A 17 e.toNat) ∧ kRow ch (A 7 (A 17 e.toNat).toNat) ∧ wE A V sb n (A 18 e.toNat) lo e := by
  obtain ⟨_, _, h⟩ := h
  rcases h with h | h
  · exact absurd h.1 (by omega)
  · exact h.2
theorem wR_kd {A : Nat → Nat → Int} {V : Nat → Prop} {sb ch e lo hi : Int} {n : Nat} (h : wR A V sb n ch e lo hi) : lo ≤ e ∧ e < hi ∧ (A 15 e.toNat = 2 ∨ A 15 e.toNat = 3) := by
  obtain ⟨h1, h2, h⟩ := h
  refine ⟨h1, h2, ?_⟩
  rcases h with h | h
  · exact .inl h.1
  · exact .inr h.1
theorem lR_mv {A A_q : Nat → Nat → Int} {V : Nat → Prop} {sb ch x lo hi f z : Int} {n : Nat} (h0 : 0 ≤ lo) (ag : Ag lo hi A A_q) (a25 : ∀ j : Nat, lo ≤ (j : Int) → (j : Int) < hi → A_q 25 j = A 25 j) (w : wR A V sb n ch x lo hi) (h : lR A x f z) : lR A_q x f z := fun h1 h2 => by
  have b := wR_kd w
  have q : ∀ k, wr.elem k = true → A_q k x.toNat = A k x.toNat := fun k hk => ag k x.toNat hk (by omega) (by omega)
  rw [q 15 rfl] at h2
  rw [q 18 rfl]
  exact lE_mv h0 (Ag_su ag (Int.le_refl _) (by omega)) (fun j j1 j2 => a25 j j1 (by omega)) (wR_i3 w h2).2.2 (h h1 h2)
theorem lR_3 {A : Nat → Nat → Int} {x b f z : Int} (q18 : A 18 x.toNat = b) (h : lE A 22 b f z) : lR A x f z := fun _ _ => by
  rw [q18]
  exact h
theorem lR_2 {A : Nat → Nat → Int} {x k f z : Int} (q : A 15 x.toNat = k) (hk : k ≠ 3) : lR A x f z := fun _ h => absurd (q.symm.trans h) hk
theorem lR_0 {A : Nat → Nat → Int} {x f z : Int} (h : x ≤ 0) : lR A x f z := fun g => by omega
