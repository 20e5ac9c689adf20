/-! what is seen, and the rights to it -/
/-- the rights to what is seen (V), with the uses that are allowed (U: name, all or one element, which, bits); words from f on are free -/
def En (T : Nat → Nat → Int) (F : Int → Int) (nw : Int) (V : Nat → Prop) (U : Int → Int → Int → Int → Prop) (c : Cx) (f : Int) : Prop :=
  (∀ s : Nat, V s → (T 7 s = 1 ∨ T 7 s = 2 → ∃ q ∈ cCp c, qK q = 1 ∧ qO q ≤ wd T F nw (s : Int) ∧ wd T F nw (s : Int) + T 8 s ≤ qO q + qN q) ∧ (T 7 s = 6 ∨ T 7 s = 7 → ∃ q ∈ cCp c, qK q = 3 ∧ qO q = wd T F nw (s : Int) ∧ T 8 s ≤ qN q)) ∧
  (∀ (s : Nat) (al e b : Int), V s → U (s : Int) al e b → (T 7 s = 3 → ∃ q ∈ cCp c, sbt (qU q) b ∧ qK q = 2 ∧ qO q ≤ wd T F nw (s : Int) ∧ wd T F nw (s : Int) + 1 ≤ qO q + qN q) ∧ (T 7 s = 4 → al = 1 → ∃ q ∈ cCp c, sbt (qU q) b ∧ qK q = 2 ∧ qO q ≤ wd T F nw (s : Int) ∧ wd T F nw (s : Int) + T 8 s ≤ qO q + qN q) ∧ (T 7 s = 4 → al ≠ 1 → 0 ≤ e → e < T 8 s → ∃ q ∈ cCp c, sbt (qU q) b ∧ qK q = 2 ∧ qO q ≤ wd T F nw (s : Int) + e ∧ wd T F nw (s : Int) + e + 1 ≤ qO q + qN q) ∧ (T 7 s = 8 → ∃ q ∈ cCp c, sbt (qU q) b ∧ qK q = 4 ∧ qO q = wd T F nw (s : Int)) ∧ (11 ≤ T 7 s → T 7 s ≤ 13 → ∃ q ∈ cCp c, sbt (qU q) b ∧ qK q = 5 ∧ qO q = adv T F nw (s : Int))) ∧
  Bf c f ∧ 1 ≤ f ∧ cDw c = 0 ∧ c.2.2 = ((r0, r0, r0), (0, [], [])) ∧ ((0 ≤ nw ∧ nw ≤ 100) ∧ ∀ s : Nat, V s → T 7 s ≤ 9 → 0 ≤ wd T F nw (s : Int) ∧ wd T F nw (s : Int) ≤ 5000 * (nw + 1)) ∧ ∀ s : Nat, V s → T 7 s ≤ 8 → 0 ≤ T 8 s ∧ T 8 s ≤ 64 ∧ (T 7 s = 1 ∨ T 7 s = 6 → T 8 s = 1)
theorem En_r {T : Nat → Nat → Int} {F : Int → Int} {nw : Int} {V : Nat → Prop} {U : Int → Int → Int → Int → Prop} {c : Cx} {f : Int} (h : En T F nw V U c f) : cA c = r0 ∧ cB c = r0 ∧ cC c = r0 ∧ cMd c = 0 ∧ cDw c = 0 ∧ Bf c f ∧ 1 ≤ f := by
  obtain ⟨_, _, h3, h4, h5, h6, _⟩ := h
  have eR : c.2.2.1 = (r0, r0, r0) := congrArg (fun t : (Rt × Rt × Rt) × Mo => t.1) h6
  have eM : c.2.2.2 = (0, [], []) := congrArg (fun t : (Rt × Rt × Rt) × Mo => t.2) h6
  exact ⟨congrArg (fun t : Rt × Rt × Rt => t.1) eR, congrArg (fun t : Rt × Rt × Rt => t.2.1) eR, congrArg (fun t : Rt × Rt × Rt => t.2.2) eR, congrArg (fun q : Mo => q.1) eM, h5, h3, h4⟩
theorem En_i {T : Nat → Nat → Int} {F : Int → Int} {nw : Int} {V : Nat → Prop} {U : Int → Int → Int → Int → Prop} {c : Cx} {f : Int} (h : En T F nw V U c f) : c = sR c r0 r0 r0 := by
  obtain ⟨a, b, d, _⟩ := En_r h
  show (c.1, c.2.1, (cA c, cB c, cC c), c.2.2.2) = _
  rw [a, b, d]
  rfl
/-- a use of a channel is allowed -/
def uC (T : Nat → Nat → Int) (S : Int → Int) (U : Int → Int → Int → Int → Prop) (x b : Int) : Prop := (T 15 x.toNat = 3 → (iC T (T 18 x.toNat) → U (T 17 x.toNat) 0 (cv T (Rf S) (T 18 x.toNat)) b) ∧ (¬ iC T (T 18 x.toNat) → U (T 17 x.toNat) 1 0 b)) ∧ (T 15 x.toNat ≠ 3 → U (T 17 x.toNat) 0 0 b)
theorem adf_c {T : Nat → Nat → Int} {s : Int} : (T 7 s.toNat = 3 → adf T s = 1) ∧ (T 7 s.toNat = 8 → adf T s = 7) ∧ (11 ≤ T 7 s.toNat → T 7 s.toNat ≤ 13 → adf T s = 4) ∧ (T 7 s.toNat = 1 ∨ T 7 s.toNat = 2 → adf T s = 1) ∧ (T 7 s.toNat = 6 ∨ T 7 s.toNat = 7 → adf T s = 7) := by
  unfold adf
  refine ⟨fun k => ?_, fun k => ?_, fun k k_q => ?_, fun k => ?_, fun k => ?_⟩
  · rw [if_neg (by omega), if_neg (by omega)]
  · rw [if_neg (by omega), if_pos (by omega)]
  · rw [if_pos (by omega)]
  · rw [if_neg (by omega), if_neg (by omega)]
  · rw [if_neg (by omega), if_pos (by omega)]
theorem adv_v {T : Nat → Nat → Int} {F : Int → Int} {nw s : Int} (k : T 7 s.toNat ≤ 9) : adv T F nw s = wd T F nw s := by
  unfold adv
  rw [if_neg (by omega), if_neg (by omega), if_neg (by omega)]
theorem ChU_e {T : Nat → Nat → Int} {F S : Int → Int} {nw : Int} {V : Nat → Prop} {U : Int → Int → Int → Int → Prop} {c : Cx} {f sb_q x lo hi b : Int} {n : Nat} (h : En T F nw V U c f) (w : wR T V sb_q n 1 x lo hi) (u : uC T S U x b) : ChU T F S nw c x b := by
  obtain ⟨_, _, w3⟩ := w
  obtain ⟨_, e2, _, _, _, _, e7, e8⟩ := h
  refine ⟨fun k3 => ?_, fun k3 => ?_⟩
  · rcases w3 with w3 | ⟨_, sy, kr, _⟩
    · omega
    · have k4 : T 7 (T 17 x.toNat).toNat = 4 := by
        rcases kr with kr | kr
        · omega
        · exact kr.2
      have es : ((T 17 x.toNat).toNat : Int) = T 17 x.toNat := by
        have := sy.1
        omega
      have b7 := e7.2 _ sy.2.2 (by omega)
      have b70 := e7.1
      have b8 := e8 _ sy.2.2 (by omega)
      rw [es] at b7
      refine ⟨by omega, by omega, b8.2.1, by omega, fun ic v1 v2 => ?_, fun ic => ?_⟩
      · have := (e2 _ 0 _ b sy.2.2 (by rw [es]; exact (u.1 k3).1 ic)).2.2.1 k4 (by omega) v1 v2
        rw [es] at this
        exact this
      · have := (e2 _ 1 0 b sy.2.2 (by rw [es]; exact (u.1 k3).2 ic)).2.1 k4 rfl
        rw [es] at this
        exact this
  · rcases w3 with ⟨_, sy, kr⟩ | w3
    · have es : ((T 17 x.toNat).toNat : Int) = T 17 x.toNat := by
        have := sy.1
        omega
      have kc : kCh (T 7 (T 17 x.toNat).toNat) := by
        rcases kr with kr | kr
        · omega
        · exact kr.2
      obtain ⟨u1, u2, u3, u4, u5⟩ := e2 _ 0 0 b sy.2.2 (by rw [es]; exact u.2 k3)
      rw [es] at u1 u4 u5
      have ad := adf_c (T := T) (s := T 17 x.toNat)
      rcases kc with k | k | k | k | k
      · obtain ⟨q, hq, q1, q2, q3, q4⟩ := u1 k
        have ea := adv_v (F := F) (nw := nw) (show T 7 (T 17 x.toNat).toNat ≤ 9 by omega)
        exact ⟨q, hq, q1, Or.inl ⟨ad.1 k, q2, by rw [ea]; exact q3, by rw [ea]; exact q4⟩⟩
      · obtain ⟨q, hq, q1, q2, q3⟩ := u4 k
        have ea := adv_v (F := F) (nw := nw) (show T 7 (T 17 x.toNat).toNat ≤ 9 by omega)
        exact ⟨q, hq, q1, Or.inr (Or.inl ⟨ad.2.1 k, q2, by rw [ea]; exact q3⟩)⟩
      · obtain ⟨q, hq, q1, q2, q3⟩ := u5 (by omega) (by omega)
        exact ⟨q, hq, q1, Or.inr (Or.inr ⟨ad.2.2.1 (by omega) (by omega), q2, q3⟩)⟩
      · obtain ⟨q, hq, q1, q2, q3⟩ := u5 (by omega) (by omega)
        exact ⟨q, hq, q1, Or.inr (Or.inr ⟨ad.2.2.1 (by omega) (by omega), q2, q3⟩)⟩
      · obtain ⟨q, hq, q1, q2, q3⟩ := u5 (by omega) (by omega)
        exact ⟨q, hq, q1, Or.inr (Or.inr ⟨ad.2.2.1 (by omega) (by omega), q2, q3⟩)⟩
    · omega
/-- the address of a variable or of an element (ch = 0), of a whole array (n: how many words) -/
theorem gD_d {T C : Nat → Nat → Int} {F S : Int → Int} {V : Nat → Prop} {U : Int → Int → Int → Int → Prop} {sb_q : Int} {nw N f : Int} {P : Int → Cx → Prop} {x k k_q l0 l1 lo hi n : Int} {c c0 : Cx} (hE : En T F nw V U c0 f) (sub : ∀ q ∈ cCp c0, q ∈ cCp c) (bf : Bf c f) (dw : cDw c = 0) (md : cMd c = 0) (sA : Sup (cCp c) (cA c))
    (h : gD T C F S nw 20 x k k_q l0 l1) (w : (n = 1 ∧ wR T V sb_q 20 0 x lo hi) ∨ wW T V sb_q n x lo hi) (hl : T 15 x.toNat = 3 → lE T 20 (T 18 x.toNat) f (cZ c)) (hk : k_q ≤ N) (g : ∀ t, Dtr (cCp c0) t n → Sup (cCp c) t → Gd (Kc C) N P k_q (sR c t (cA c) r0)) : Gs (Kc C) N P k c := by
  obtain ⟨e1, _, _, hf, _, _, _, e8⟩ := hE
  have gen : ∀ t, AdT T F nw c x t → Dtr (cCp c0) t n → Gs (Kc C) N P k c := fun t ht hc => by
    refine gAd_g (t := t) (fun {e_q a_q d} w1 w2 w3 w4 w5 w6 => ?_) h hk dw md sA ht (g t hc (AdT_s ht))
    subst w4 w5
    exact gE_g (by omega) w1 (hl w3) w2 bf hf dw md sA w6
  have ad := adf_c (T := T) (s := T 17 x.toNat)
  rcases w with ⟨n1, _, _, ⟨k2, sy, kr⟩ | ⟨k3, sy, kr, _⟩⟩ | ⟨_, _, k2, sy, ka, kz⟩
  · have es : ((T 17 x.toNat).toNat : Int) = T 17 x.toNat := by
      have := sy.1
      omega
    obtain ⟨d1, d2⟩ := e1 _ sy.2.2
    have d8 := fun q => (e8 _ sy.2.2 q).2.2
    rw [es] at d1 d2
    have kv : kVar (T 7 (T 17 x.toNat).toNat) := by
      rcases kr with kr | kr
      · exact kr.2
      · omega
    have ea := adv_v (T := T) (F := F) (nw := nw) (s := T 17 x.toNat)
    rcases kv with k | k
    · obtain ⟨q, hq, q1, q2, q3⟩ := d1 (Or.inl k)
      have z1 := d8 (by omega) (Or.inl k)
      have ea := ea (by omega)
      exact gen (2, adv T F nw (T 17 x.toNat), 1) (Or.inr (Or.inr (Or.inr (Or.inl ⟨by omega, ad.2.2.2.1 (Or.inl k), rfl⟩)))) ⟨q, hq, Or.inl ⟨rfl, q1, by show qO q ≤ adv T F nw (T 17 x.toNat); omega, by show adv T F nw (T 17 x.toNat) + 1 + n - 1 ≤ _; omega⟩⟩
    · obtain ⟨q, hq, q1, q2, q3⟩ := d2 (Or.inl k)
      have z1 := d8 (by omega) (Or.inr k)
      have ea := ea (by omega)
      exact gen (3, adv T F nw (T 17 x.toNat), 1) (Or.inr (Or.inr (Or.inr (Or.inr (Or.inl ⟨by omega, ad.2.2.2.2 (Or.inl k), ⟨q, sub q hq, by rw [q2, ea], Or.inl q1⟩, rfl⟩))))) ⟨q, hq, Or.inr ⟨rfl, q1, by rw [q2]; exact ea.symm, by show 1 + n - 1 ≤ _; omega⟩⟩
  · have es : ((T 17 x.toNat).toNat : Int) = T 17 x.toNat := by
      have := sy.1
      omega
    obtain ⟨d1, d2⟩ := e1 _ sy.2.2
    rw [es] at d1 d2
    have kv : kArr (T 7 (T 17 x.toNat).toNat) := by
      rcases kr with kr | kr
      · exact kr.2
      · omega
    rcases kv with k | k
    · obtain ⟨q, hq, q1, q2, q3⟩ := d1 (Or.inr k)
      exact gen (2, wd T F nw (T 17 x.toNat), T 8 (T 17 x.toNat).toNat) (Or.inr (Or.inl ⟨k3, by omega, rfl⟩)) ⟨q, hq, Or.inl ⟨rfl, q1, q2, by show wd T F nw (T 17 x.toNat) + T 8 (T 17 x.toNat).toNat + n - 1 ≤ _; omega⟩⟩
    · obtain ⟨q, hq, q1, q2, q3⟩ := d2 (Or.inr k)
      exact gen (3, wd T F nw (T 17 x.toNat), T 8 (T 17 x.toNat).toNat) (Or.inr (Or.inr (Or.inl ⟨k3, k, ⟨q, sub q hq, q2, Or.inl q1⟩, rfl⟩))) ⟨q, hq, Or.inr ⟨rfl, q1, q2, by show T 8 (T 17 x.toNat).toNat + n - 1 ≤ _; omega⟩⟩
  · have es : ((T 17 x.toNat).toNat : Int) = T 17 x.toNat := by
      have := sy.1
      omega
    obtain ⟨d1, d2⟩ := e1 _ sy.2.2
    rw [es] at d1 d2
    have ea := adv_v (T := T) (F := F) (nw := nw) (s := T 17 x.toNat)
    rcases ka with k | k
    · obtain ⟨q, hq, q1, q2, q3⟩ := d1 (Or.inr k)
      have ea := ea (by omega)
      exact gen (2, adv T F nw (T 17 x.toNat), 1) (Or.inr (Or.inr (Or.inr (Or.inl ⟨by omega, ad.2.2.2.1 (Or.inr k), rfl⟩)))) ⟨q, hq, Or.inl ⟨rfl, q1, by show qO q ≤ adv T F nw (T 17 x.toNat); omega, by show adv T F nw (T 17 x.toNat) + 1 + n - 1 ≤ _; omega⟩⟩
    · obtain ⟨q, hq, q1, q2, q3⟩ := d2 (Or.inr k)
      have ea := ea (by omega)
      exact gen (3, adv T F nw (T 17 x.toNat), 1) (Or.inr (Or.inr (Or.inr (Or.inr (Or.inl ⟨by omega, ad.2.2.2.2 (Or.inr k), ⟨q, sub q hq, by rw [q2, ea], Or.inl q1⟩, rfl⟩))))) ⟨q, hq, Or.inr ⟨rfl, q1, by rw [q2]; exact ea.symm, by show 1 + n - 1 ≤ _; omega⟩⟩
