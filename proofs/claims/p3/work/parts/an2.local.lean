/-! A CORE TOUCHES ONLY ITS OWN -/
def Lcl (p : Int) (A A_q : Nat → Nat → Int) : Prop := (∀ n : Nat, ¬ (4016 * p ≤ (n : Int) ∧ (n : Int) < 4016 * p + 4016) → A_q 59 n = A 59 n) ∧ (∀ k : Nat, 60 ≤ k → k ≤ 77 → k ≠ 71 → k ≠ 72 → ∀ n : Nat, n ≠ p.toNat → A_q k n = A k n) ∧ (∀ n : Nat, ¬ (2200 * p ≤ (n : Int) ∧ (n : Int) < 2200 * p + 2200) → A_q 71 n = A 71 n) ∧ (∀ n : Nat, n ≠ (2 * p).toNat → n ≠ (2 * p + 1).toNat → A_q 72 n = A 72 n) ∧ ∀ k : Nat, k < 59 → A_q k = A k
def Hi8 (A A_q : Nat → Nat → Int) : Prop := ∀ k : Nat, 78 ≤ k → A_q k = A k
/-- counts of the rows -/
def Cn (A : Nat → Nat → Int) (p : Int) : Prop := 0 ≤ A 72 (2 * p).toNat ∧ A 72 (2 * p).toNat ≤ 1099 ∧ 0 ≤ A 72 (2 * p + 1).toNat ∧ A 72 (2 * p + 1).toNat ≤ 1099
def Lh (p : Int) (A A_q : Nat → Nat → Int) : Prop := Lcl p A A_q ∧ Hi8 A A_q
theorem Lcl_r {p : Int} {A : Nat → Nat → Int} : Lcl p A A := ⟨fun _ _ => rfl, fun _ _ _ _ _ _ _ => rfl, fun _ _ => rfl, fun _ _ _ => rfl, fun _ _ => rfl⟩
theorem Lcl_t {p : Int} {A B C : Nat → Nat → Int} (h : Lcl p A B) (k : Lcl p B C) : Lcl p A C := ⟨fun n q => (k.1 n q).trans (h.1 n q), fun j a b c d n q => (k.2.1 j a b c d n q).trans (h.2.1 j a b c d n q), fun n q => (k.2.2.1 n q).trans (h.2.2.1 n q), fun n q w => (k.2.2.2.1 n q w).trans (h.2.2.2.1 n q w), fun j q => (k.2.2.2.2 j q).trans (h.2.2.2.2 j q)⟩
theorem Lh_r {p : Int} {A : Nat → Nat → Int} : Lh p A A := ⟨Lcl_r, fun _ _ => rfl⟩
theorem Lh_t {p : Int} {A B C : Nat → Nat → Int} (h : Lh p A B) (k : Lh p B C) : Lh p A C := ⟨Lcl_t h.1 k.1, fun j q => (k.2 j q).trans (h.2 j q)⟩
theorem Lh_u {p v : Int} {A B : Nat → Nat → Int} {k : Nat} (e : B = uA A k p.toNat v) (h1 : 60 ≤ k) (h2 : k ≤ 77) (h3 : k ≠ 71) (h4 : k ≠ 72) : Lh p A B := by
  subst e
  refine ⟨⟨fun n _ => ?_, fun j _ _ _ _ n q => ?_, fun n _ => ?_, fun n _ _ => ?_, fun j q => ?_⟩, fun j q => ?_⟩
  · rw [uA_ne (by omega)]
  · by_cases w : j = k
    · subst w
      exact uA_ni q
    · rw [uA_ne w]
  · rw [uA_ne (by omega)]
  · rw [uA_ne (by omega)]
  · exact uA_ne (by omega)
  · exact uA_ne (by omega)
theorem Lcl_h {p v : Int} {A B : Nat → Nat → Int} {k i : Nat} (e : B = uA A k i v) (h1 : 78 ≤ k) : Lcl p A B := by
  subst e
  refine ⟨fun n _ => ?_, fun j _ _ _ _ n q => ?_, fun n _ => ?_, fun n _ _ => ?_, fun j q => ?_⟩
  · rw [uA_ne (by omega)]
  · rw [uA_ne (by omega)]
  · rw [uA_ne (by omega)]
  · rw [uA_ne (by omega)]
  · exact uA_ne (by omega)
theorem Lh_st {p a v : Int} {A B : Nat → Nat → Int} (hp : 0 ≤ p) (e : B = stM A p a v) : Lh p A B := by
  subst e
  unfold stM
  split
  · rename_i h
    refine ⟨⟨fun n q => ?_, fun j _ _ _ _ n q => ?_, fun n _ => ?_, fun n _ _ => ?_, fun j q => ?_⟩, fun j q => ?_⟩
    · exact uA_ni (by omega)
    · rw [uA_ne (by omega)]
    · rw [uA_ne (by omega)]
    · rw [uA_ne (by omega)]
    · exact uA_ne (by omega)
    · exact uA_ne (by omega)
  · exact Lh_r
theorem Lh_ad {p q d : Int} {A B : Nat → Nat → Int} (hp : 0 ≤ p) (e : B = adM A q d) (hq : q = 2 * p ∨ q = 2 * p + 1) (h0 : 0 ≤ A 72 q.toNat) (h1 : A 72 q.toNat ≤ 1099) : Lh p A B := by
  subst e
  unfold adM
  refine ⟨⟨fun n _ => ?_, fun j _ _ w1 w2 n _ => ?_, fun n w => ?_, fun n w1 w2 => ?_, fun j w => ?_⟩, fun j w => ?_⟩
  · rw [uA_ne (by decide), uA_ne (by decide)]
  · rw [uA_ne w2, uA_ne w1]
  · rw [uA_ne (by decide)]
    refine uA_ni (fun z => w ?_)
    omega
  · rw [uA_ni (by omega), uA_ne (by decide)]
  · rw [uA_ne (by omega), uA_ne (by omega)]
  · rw [uA_ne (by omega), uA_ne (by omega)]
theorem Lh_disp {p : Int} {A A_q : Nat → Nat → Int} (hp : 0 ≤ p) (h0 : 0 ≤ A 72 (2 * p).toNat ∧ A 72 (2 * p).toNat ≤ 1100) (h1 : 0 ≤ A 72 (2 * p + 1).toNat ∧ A 72 (2 * p + 1).toNat ≤ 1100) (h : dispR A A_q p) : Lh p A A_q := by
  have tk : ∀ q i, (q = 2 * p ∨ q = 2 * p + 1) → i ≤ 1099 → Lh p A (shM (tkM A p q) q i) := fun q i hq hi => by
    refine ⟨⟨fun n _ => congrFun (tk_o ⟨by decide, by decide, by decide, by decide, by decide, by decide, by decide, by decide⟩) n, fun j j1 j2 w1 w2 n w => ?_, fun n w => tk_71o (fun z => w (by omega)), fun n w1 w2 => tk_72o (by omega), fun j w => ?_⟩, fun j w => ?_⟩
    · rw [shM_k rfl w1]
      unfold tkM clM
      rw [uA_ne w2]
      by_cases e66 : j = 66
      · subst e66
        rw [uA_ni w, uA_ne (by decide), uA_ne (by decide), uA_ne (by decide), uA_ne (by decide), uA_ne (by decide)]
      · rw [uA_ne e66]
        by_cases e70 : j = 70
        · subst e70
          rw [uA_ni w, uA_ne (by decide), uA_ne (by decide), uA_ne (by decide), uA_ne (by decide)]
        · rw [uA_ne e70]
          by_cases e65 : j = 65
          · subst e65
            rw [uA_ni w, uA_ne (by decide), uA_ne (by decide), uA_ne (by decide)]
          · rw [uA_ne e65]
            by_cases e62 : j = 62
            · subst e62
              rw [uA_ni w, uA_ne (by decide), uA_ne (by decide)]
            · rw [uA_ne e62]
              by_cases e61 : j = 61
              · subst e61
                rw [uA_ni w, uA_ne (by decide)]
              · rw [uA_ne e61]
                by_cases e60 : j = 60
                · subst e60
                  rw [uA_ni w]
                · rw [uA_ne e60]
    · exact tk_o ⟨by omega, by omega, by omega, by omega, by omega, by omega, by omega, by omega⟩
    · exact tk_o ⟨by omega, by omega, by omega, by omega, by omega, by omega, by omega, by omega⟩
  have gt : ∀ C : Nat → Nat → Int, Lh p C (gtM C p) := fun C => by
    unfold gtM
    exact Lh_t (Lh_u (k := 64) rfl (by decide) (by decide) (by decide) (by decide)) (Lh_u (k := 63) rfl (by decide) (by decide) (by decide) (by decide))
  have kp : ∀ C : Nat → Nat → Int, Lh p C (kpM C p) := fun C => by
    unfold kpM
    exact Lh_t (Lh_t (Lh_t (Lh_t (Lh_u (k := 73) rfl (by decide) (by decide) (by decide) (by decide)) (Lh_u (k := 60) rfl (by decide) (by decide) (by decide) (by decide))) (Lh_u (k := 61) rfl (by decide) (by decide) (by decide) (by decide))) (Lh_u (k := 62) rfl (by decide) (by decide) (by decide) (by decide))) (Lh_u (k := 65) rfl (by decide) (by decide) (by decide) (by decide))
  rcases h with ⟨_, _, e⟩ | ⟨q, i, hq, hi, e⟩
  · subst e
    unfold noM clM
    exact Lh_t (Lh_t (Lh_t (Lh_t (Lh_t (Lh_t (Lh_t (Lh_u (k := 60) rfl (by decide) (by decide) (by decide) (by decide)) (Lh_u (k := 61) rfl (by decide) (by decide) (by decide) (by decide))) (Lh_u (k := 62) rfl (by decide) (by decide) (by decide) (by decide))) (Lh_u (k := 65) rfl (by decide) (by decide) (by decide) (by decide))) (Lh_u (k := 70) rfl (by decide) (by decide) (by decide) (by decide))) (Lh_u (k := 66) rfl (by decide) (by decide) (by decide) (by decide))) (Lh_u (k := 63) rfl (by decide) (by decide) (by decide) (by decide))) (Lh_u (k := 64) rfl (by decide) (by decide) (by decide) (by decide))
  · have hq_q : (q = 2 * p ∨ q = 2 * p + 1) ∧ i ≤ 1099 := by
      rcases hq with ⟨_, w⟩ | ⟨_, _, w⟩
      · subst w
        exact ⟨Or.inl rfl, by omega⟩
      · subst w
        exact ⟨Or.inr rfl, by omega⟩
    rcases e with ⟨_, e⟩ | ⟨_, _, e⟩
    · rw [e]
      exact Lh_t (tk q i hq_q.1 hq_q.2) (gt _)
    · rw [e]
      exact Lh_t (Lh_t (tk q i hq_q.1 hq_q.2) (gt _)) (kp _)
theorem Cn_b {A : Nat → Nat → Int} {p b : Int} (h : Cn A p) (hb : b = 0 ∨ b = 1) : 0 ≤ A 72 (2 * p + b).toNat ∧ A 72 (2 * p + b).toNat ≤ 1099 := mr_b rfl rfl hb ⟨h.1, h.2.1⟩ h.2.2
theorem ad_72b {A : Nat → Nat → Int} {p q d : Int} {i : Nat} (h : 0 ≤ A 72 i ∧ A 72 i ≤ 1099) (hq : 0 ≤ A 72 q.toNat ∧ A 72 q.toNat ≤ 1099) : 0 ≤ adM A q d 72 i ∧ adM A q d 72 i ≤ 1100 := by
  by_cases w : i = q.toNat
  · subst w
    rw [ad_72]
    omega
  · rw [ad_72o w]
    omega
theorem Lh_mk {p d : Int} {A A_q : Nat → Nat → Int} (hp : 0 ≤ p) (c : Cn A p) (h : mkR A A_q p d) : Lh p A A_q := by
  have cb := Cn_b (b := d % 2) c (by omega)
  have ad : ∀ B, B = adM A (2 * p + d % 2) d → Lh p A B := fun B e => Lh_ad hp e (by omega) cb.1 cb.2
  rcases h with ⟨_, e⟩ | ⟨_, e⟩
  · exact ad _ e
  · exact Lh_t (ad _ rfl) (Lh_disp hp (ad_72b (p := p) ⟨c.1, c.2.1⟩ cb) (ad_72b (p := p) c.2.2 cb) e)
theorem Cn_s {A B : Nat → Nat → Int} {p : Int} (h : Cn A p) (e : B 72 = A 72) : Cn B p := by
  unfold Cn
  rw [e]
  exact h
theorem Lh_take {p : Int} {A B : Nat → Nat → Int} (e : B = takeM A p) : Lh p A B := by
  subst e
  unfold takeM
  exact Lh_t (Lh_u (k := 60) rfl (by decide) (by decide) (by decide) (by decide)) (Lh_u (k := 61) rfl (by decide) (by decide) (by decide) (by decide))
theorem Lh_come {p v : Int} {A B : Nat → Nat → Int} (e : B = comeM A p v) : Lh p A B := by
  subst e
  unfold comeM
  exact Lh_t (Lh_t (Lh_u (k := 62) rfl (by decide) (by decide) (by decide) (by decide)) (Lh_u (k := 61) rfl (by decide) (by decide) (by decide) (by decide))) (Lh_u (k := 60) rfl (by decide) (by decide) (by decide) (by decide))
theorem Lh_two {p v : Int} {A B : Nat → Nat → Int} (e : B = twoM A p v) : Lh p A B := by
  subst e
  unfold twoM
  exact Lh_t (Lh_t (Lh_take rfl) (Lh_take rfl)) (Lh_come rfl)
theorem Lh_gone {p : Int} {A B : Nat → Nat → Int} (e : B = goneM A p) : Lh p A B := Lh_u (k := 66) e (by decide) (by decide) (by decide) (by decide)
theorem Lh_fault {p : Int} {A B : Nat → Nat → Int} (e : B = faultM A p) : Lh p A B := by
  subst e
  unfold faultM
  exact Lh_t (Lh_u (k := 67) rfl (by decide) (by decide) (by decide) (by decide)) (Lh_gone rfl)
theorem Lh_wait {p : Int} {A B : Nat → Nat → Int} (hp : 0 ≤ p) (e : B = waitM A p) : Lh p A B := by
  subst e
  unfold waitM
  exact Lh_t (Lh_st hp rfl) (Lh_gone rfl)
theorem Lh_wk {p d : Int} {A A_q : Nat → Nat → Int} (hp : 0 ≤ p) (c : Cn A p) (h : wkR A A_q p d) : Lh p A A_q := by
  rcases h with ⟨_, e⟩ | ⟨_, e⟩
  · exact Lh_st hp e
  · exact Lh_t (Lh_st hp rfl) (Lh_mk hp (Cn_s c (stM_ne (by decide))) e)
theorem Lh_eb {p w : Int} {A A_q : Nat → Nat → Int} (hp : 0 ≤ p) (c : Cn A p) (h : ebR A A_q p w) : Lh p A A_q := by
  obtain ⟨A1, s1, ⟨_, e⟩ | ⟨_, A3, m, e⟩⟩ := h
  · exact Lh_t (Lh_st hp s1) (Lh_gone e)
  · refine Lh_t (Lh_t (Lh_t (Lh_t (Lh_st hp s1) (Lh_st hp rfl)) (Lh_st hp rfl)) (Lh_mk hp (Cn_s c ?_) m)) (Lh_gone e)
    rw [stM_ne (by decide), stM_ne (by decide), s1, stM_ne (by decide)]
theorem Lh_en {p a it im : Int} {A A_q : Nat → Nat → Int} (hp : 0 ≤ p) (h : enR A A_q it im p a) : Lh p A A_q := by
  rcases h with ⟨_, _, _, e⟩ | ⟨_, ⟨_, e⟩ | ⟨_, _, e⟩ | ⟨_, _, e⟩⟩
  · exact Lh_st hp e
  · exact Lh_st hp e
  · subst e
    exact Lh_r
  · exact Lh_st hp e
theorem Lh_ds {p a v it im : Int} {A A_q : Nat → Nat → Int} (hp : 0 ≤ p) (h : dsR A A_q it im p a v) : Lh p A A_q := by
  obtain ⟨A1, k, dk, dn⟩ := h
  have l1 : Lh p A A1 := by
    rcases dk with ⟨_, e, _⟩ | ⟨_, e, _⟩
    · exact Lh_st hp e
    · subst e
      exact Lh_r
  rcases dn with ⟨_, _, e⟩ | ⟨_, e⟩
  · exact Lh_t l1 (Lh_st hp e)
  · subst e
    exact l1
theorem Lh_fi {p a c : Int} {A : Nat → Nat → Int} (hp : 0 ≤ p) : ∀ n : Nat, Lh p A (fiM A p a c n)
  | 0 => Lh_r
  | n + 1 => Lh_t (Lh_fi hp n) (Lh_st hp rfl)
theorem Lh_ac {p fn op1 : Int} {A A_q : Nat → Nat → Int} (hp : 0 ≤ p) (c : Cn A p) (hn : A 66 p.toNat ≠ -1) (h : acR A A_q p fn op1) : Lh p A A_q := by
  rcases h with ⟨_, _, _, e⟩ | ⟨i, w, n, v, A1, A2, A3, _, _, _, hr, hb, _, e1, s1, m, d⟩ | ⟨_, _, _, e⟩ | ⟨_, _, e⟩ | ⟨_, e⟩ | ⟨_, _, e⟩ | ⟨_, _, _, _, _, _, _, e⟩ | ⟨_, _, _, _, A1, A2, A3, _, _, _, _, _, e1, s1, e3, e⟩ | ⟨_, _, _, _, e⟩ | ⟨_, _, e⟩ | ⟨_, _, _, _, A1, _, _, _, _, _, e1, e⟩ | ⟨_, _, e⟩ | ⟨_, _, _, A1, _, _, _, _, s1, e⟩ | ⟨_, _, _, A1, A2, _, _, _, _, s1, t, e⟩
  · exact Lh_u (k := 63) e (by decide) (by decide) (by decide) (by decide)
  · have c2 : Cn A2 p := Cn_s c (by rw [s1, stM_ne (by decide), e1, uA_ne (by decide)])
    refine Lh_t (Lh_t (Lh_t (Lh_u (k := 63) e1 (by decide) (by decide) (by decide) (by decide)) (Lh_st hp s1)) (Lh_mk hp c2 m)) ?_
    have cb := Cn_b (b := n % 2) c2 (by omega)
    have r2 : A2 66 p.toNat = n := by
      rw [s1, stM_ne (by decide), e1, uA_ne (by decide)]
      exact hr
    have e3 : A3 = adM A2 (2 * p + n % 2) n := by
      rcases m with ⟨_, m⟩ | ⟨m, _⟩
      · exact m
      · omega
    refine Lh_disp hp ?_ ?_ d
    · rw [e3]
      exact ad_72b (p := p) ⟨c2.1, c2.2.1⟩ cb
    · rw [e3]
      exact ad_72b (p := p) c2.2.2 cb
  · exact Lh_come e
  · exact Lh_u (k := 60) e (by decide) (by decide) (by decide) (by decide)
  · exact Lh_come e
  · exact Lh_u (k := 60) e (by decide) (by decide) (by decide) (by decide)
  · exact Lh_come e
  · exact Lh_t (Lh_t (Lh_t (Lh_u (k := 64) e1 (by decide) (by decide) (by decide) (by decide)) (Lh_st hp s1)) (Lh_u (k := 63) e3 (by decide) (by decide) (by decide) (by decide))) (Lh_u (k := 66) e (by decide) (by decide) (by decide) (by decide))
  · exact Lh_u (k := 63) e (by decide) (by decide) (by decide) (by decide)
  · exact Lh_take e
  · exact Lh_t (Lh_u (k := 64) e1 (by decide) (by decide) (by decide) (by decide)) (Lh_u (k := 66) e (by decide) (by decide) (by decide) (by decide))
  · exact Lh_u (k := 60) e (by decide) (by decide) (by decide) (by decide)
  · exact Lh_t (Lh_st hp s1) (Lh_take e)
  · exact Lh_t (Lh_t (Lh_st hp s1) (Lh_take t)) (Lh_take e)
/-- what happens to the links -/
def Lk3 (p o : Int) (A A_q : Nat → Nat → Int) : Prop := ((o = 21 → ¬ (0 ≤ A 60 p.toNat ∧ A 60 p.toNat ≤ 11)) ∧ A_q 80 = A 80 ∧ A_q 83 = A 83 ∧ A_q 84 = A 84) ∨ (o = 21 ∧ ∃ a : Int, 0 ≤ a ∧ a ≤ 11 ∧ A 60 p.toNat = a ∧ A_q 80 a.toNat = 1 ∧ (∀ n, n ≠ a.toNat → A_q 80 n = A 80 n) ∧ A_q 83 = A 83 ∧ A_q 84 = A 84) ∨ (o = 20 ∧ ∃ a : Int, 0 ≤ a ∧ a ≤ 11 ∧ A 83 a.toNat = 4 ∧ A_q 80 = A 80 ∧ A_q 83 a.toNat = 0 ∧ A_q 84 a.toNat = 1 ∧ (∀ n, n ≠ a.toNat → A_q 83 n = A 83 n ∧ A_q 84 n = A 84 n))
theorem Lk3_h {p o : Int} {A A_q : Nat → Nat → Int} (n : o ≠ 21) (h : Hi8 A A_q) : Lk3 p o A A_q := Or.inl ⟨fun q => absurd q n, h 80 (by decide), h 83 (by decide), h 84 (by decide)⟩
theorem ou_l {p a v om : Int} {A A_q : Nat → Nat → Int} (hp : 0 ≤ p) (c : Cn A p) (h : ouR A A_q om p a v) : Lcl p A A_q ∧ (((¬ (0 ≤ a ∧ a ≤ 11) ∧ A_q 80 = A 80) ∨ (0 ≤ a ∧ a ≤ 11 ∧ A_q 80 a.toNat = 1 ∧ ∀ n, n ≠ a.toNat → A_q 80 n = A 80 n)) ∧ A_q 83 = A 83 ∧ A_q 84 = A 84) := by
  have hi : ∀ {B : Nat → Nat → Int}, ¬ (0 ≤ a ∧ a ≤ 11) → Lh p A B → Lcl p A B ∧ (((¬ (0 ≤ a ∧ a ≤ 11) ∧ B 80 = A 80) ∨ (0 ≤ a ∧ a ≤ 11 ∧ B 80 a.toNat = 1 ∧ ∀ n, n ≠ a.toNat → B 80 n = A 80 n)) ∧ B 83 = A 83 ∧ B 84 = A 84) := fun no l => ⟨l.1, Or.inl ⟨no, l.2 80 (by decide)⟩, l.2 83 (by decide), l.2 84 (by decide)⟩
  rcases h with ⟨h12, e⟩ | ⟨h12, e⟩ | ⟨is, b_q, r3, c_q, r2, B1, B2, hh, l, n, hb, l3, z, hb', l2, s1, s2, m⟩ | ⟨is, w, n, B1, B2, B3, B4, B5, B6, B7, hh, l, hw, hr, e1, e2', e3, e4, s1, s2, s3, e⟩ | ⟨is, w, n, B1, B2, B3, hh, l, n_q, hw, hr, s1, s2, s3, e⟩ | ⟨is, b_q, r3, w, n, B1, B2, B3, B4, hh, l, n_q, hb, l3, z, hw, hr, s1, s2, s3, k, e⟩
  · subst e
    exact hi (by omega) Lh_r
  · refine ⟨Lcl_h e (by decide), Or.inl ⟨by omega, ?_⟩, ?_, ?_⟩
    · rw [e, uA_ne (by decide)]
    · rw [e, uA_ne (by decide)]
    · rw [e, uA_ne (by decide)]
  · refine hi (by omega) (Lh_t (Lh_t (Lh_st hp s1) (Lh_st hp s2)) (Lh_mk hp (Cn_s c ?_) m))
    rw [s2, stM_ne (by decide), s1, stM_ne (by decide)]
  · have l5 := Lh_t (Lh_t (Lh_t (Lh_st hp s1) (Lh_st hp s2)) (Lh_st hp s3)) (Lh_wait hp e)
    refine ⟨Lcl_t (Lcl_t (Lcl_t (Lcl_t (Lcl_h e1 (by decide)) (Lcl_h e2' (by decide))) (Lcl_h e3 (by decide))) (Lcl_h e4 (by decide))) l5.1, Or.inr ⟨hh.1, hh.2, ?_, fun n hn => ?_⟩, ?_, ?_⟩
    · rw [l5.2 80 (by decide), e4, uA_ne (by decide), e3, uA_ne (by decide), e2', uA_ne (by decide), e1, uA_eq]
    · rw [l5.2 80 (by decide), e4, uA_ne (by decide), e3, uA_ne (by decide), e2', uA_ne (by decide), e1, uA_ni hn]
    · rw [l5.2 83 (by decide), e4, uA_ne (by decide), e3, uA_ne (by decide), e2', uA_ne (by decide), e1, uA_ne (by decide)]
    · rw [l5.2 84 (by decide), e4, uA_ne (by decide), e3, uA_ne (by decide), e2', uA_ne (by decide), e1, uA_ne (by decide)]
  · exact hi (by omega) (Lh_t (Lh_t (Lh_t (Lh_st hp s1) (Lh_st hp s2)) (Lh_st hp s3)) (Lh_wait hp e))
  · refine hi (by omega) (Lh_t (Lh_t (Lh_t (Lh_t (Lh_st hp s1) (Lh_st hp s2)) (Lh_st hp s3)) (Lh_wk hp (Cn_s c ?_) k)) (Lh_wait hp e))
    rw [s3, stM_ne (by decide), s2, stM_ne (by decide), s1, stM_ne (by decide)]
theorem in_l {p a t it im : Int} {A A_q : Nat → Nat → Int} (hp : 0 ≤ p) (c : Cn A p) (h : inR A A_q it im p a t) : Lcl p A A_q ∧ A_q 80 = A 80 ∧ ((A_q 83 = A 83 ∧ A_q 84 = A 84) ∨ (0 ≤ a ∧ a ≤ 11 ∧ A 83 a.toNat = 4 ∧ A_q 83 a.toNat = 0 ∧ A_q 84 a.toNat = 1 ∧ ∀ n, n ≠ a.toNat → A_q 83 n = A 83 n ∧ A_q 84 n = A 84 n)) := by
  have hi : ∀ {B : Nat → Nat → Int}, Lh p A B → Lcl p A B ∧ B 80 = A 80 ∧ ((B 83 = A 83 ∧ B 84 = A 84) ∨ (0 ≤ a ∧ a ≤ 11 ∧ A 83 a.toNat = 4 ∧ B 83 a.toNat = 0 ∧ B 84 a.toNat = 1 ∧ ∀ n, n ≠ a.toNat → B 83 n = A 83 n ∧ B 84 n = A 84 n)) := fun l => ⟨l.1, l.2 80 (by decide), Or.inl ⟨l.2 83 (by decide), l.2 84 (by decide)⟩⟩
  rcases h with ⟨v, h13, hc, l, e⟩ | ⟨v, B1, B2, h11, hc, l, s1, e1, e⟩ | ⟨is, b_q, r2, B1, B2, hh, l, n, hb, l2, s1, s2, m⟩ | ⟨is, w, n, B1, B2, B3, l, hh, hw, hr, s1, s2, s3, e⟩
  · exact hi (Lh_st hp e)
  · have l1 := Lh_st hp s1
    refine ⟨Lcl_t (Lcl_t l1.1 (Lcl_h e1 (by decide))) (Lcl_h e (by decide)), ?_, Or.inr ⟨h11.1, h11.2, hc, ?_, ?_, fun n hn => ⟨?_, ?_⟩⟩⟩
    · rw [e, uA_ne (by decide), e1, uA_ne (by decide), l1.2 80 (by decide)]
    · rw [e, uA_ne (by decide), e1, uA_eq]
    · rw [e, uA_eq]
    · rw [e, uA_ne (by decide), e1, uA_ni hn, l1.2 83 (by decide)]
    · rw [e, uA_ni hn, e1, uA_ne (by decide), l1.2 84 (by decide)]
  · refine hi (Lh_t (Lh_t (Lh_st hp s1) (Lh_st hp s2)) (Lh_mk hp (Cn_s c ?_) m))
    rw [s2, stM_ne (by decide), s1, stM_ne (by decide)]
  · exact hi (Lh_t (Lh_t (Lh_t (Lh_st hp s1) (Lh_st hp s2)) (Lh_st hp s3)) (Lh_wait hp e))
theorem sp_l {p o a b it im om : Int} {A A_q : Nat → Nat → Int} (hp : 0 ≤ p) (c : Cn A p) (ha : A 60 p.toNat = a) (h : spR A A_q it im om p o a b) : Lcl p A A_q ∧ Lk3 p o A A_q := by
  have hi : ∀ {B : Nat → Nat → Int}, o ≠ 21 → Lh p A B → Lcl p A B ∧ Lk3 p o A B := fun no l => ⟨l.1, Lk3_h no l.2⟩
  rcases h with ⟨A1, A2, o21, t1, t2, k⟩ | ⟨A1, A2, o20, t1, t2, k⟩ | ⟨_, A1, oh, _, s1, s2⟩ | ⟨oh, _, t1⟩ | ⟨A1, oh, _, t1, k⟩ | ⟨oh, _, e⟩ | ⟨_, oh, _, _, e⟩ | ⟨_, _, oh, _, _, _, e⟩ | ⟨_, _, A1, oh, _, _, _, s1, e⟩ | ⟨A1, A2, oh, _, t1, t2, t3⟩ | ⟨_, A1, A2, A3, oh, _, _, t1, t2, t3, k⟩ | ⟨A1, oh, t1, t2⟩ | ⟨_, _, A1, A2, oh, _, t1, t2, _, _, e⟩ | ⟨_, _, _, A1, oh, _, _, s1, _, e⟩
  · have l2 := Lh_t (Lh_take t1) (Lh_take t2)
    have c2 : Cn A2 p := Cn_s c (take2 t1 t2 72 (by decide) (by decide))
    obtain ⟨w1, w2, w3, w4⟩ := ou_l hp c2 k
    refine ⟨Lcl_t l2.1 w1, ?_⟩
    rw [l2.2 80 (by decide)] at w2
    rw [l2.2 83 (by decide)] at w3
    rw [l2.2 84 (by decide)] at w4
    rcases w2 with w2 | ⟨y1, y2, y0, y3⟩
    · exact Or.inl ⟨fun _ => by rw [ha]; exact w2.1, w2.2, w3, w4⟩
    · exact Or.inr (Or.inl ⟨o21, a, y1, y2, ha, y0, y3, w3, w4⟩)
  · have l2 := Lh_t (Lh_take t1) (Lh_take t2)
    have c2 : Cn A2 p := Cn_s c (take2 t1 t2 72 (by decide) (by decide))
    obtain ⟨w1, w2, w3⟩ := in_l hp c2 k
    refine ⟨Lcl_t l2.1 w1, ?_⟩
    rw [l2.2 80 (by decide)] at w2
    rw [l2.2 83 (by decide), l2.2 84 (by decide)] at w3
    rcases w3 with ⟨y1, y2⟩ | ⟨y1, y2, y3, y4, y5, y6⟩
    · exact Or.inl ⟨fun q => absurd q (by omega), w2, y1, y2⟩
    · exact Or.inr (Or.inr ⟨o20, a, y1, y2, y3, w2, y4, y5, y6⟩)
  · exact hi (by omega) (Lh_t (Lh_st hp s1) (Lh_st hp s2))
  · exact hi (by omega) (Lh_take t1)
  · exact hi (by omega) (Lh_t (Lh_take t1) (Lh_en hp k))
  · subst e
    exact hi (by omega) Lh_r
  · exact hi (by omega) (Lh_st hp e)
  · subst e
    exact hi (by omega) Lh_r
  · exact hi (by omega) (Lh_t (Lh_st hp s1) (Lh_wait hp e))
  · exact hi (by omega) (Lh_t (Lh_t (Lh_take t1) (Lh_take t2)) (Lh_take t3))
  · exact hi (by omega) (Lh_t (Lh_t (Lh_t (Lh_take t1) (Lh_take t2)) (Lh_take t3)) (Lh_ds hp k))
  · exact hi (by omega) (Lh_t (Lh_take t1) (Lh_take t2))
  · exact hi (by omega) (Lh_t (Lh_t (Lh_take t1) (Lh_take t2)) (Lh_st hp e))
  · exact hi (by omega) (Lh_t (Lh_st hp s1) (Lh_u (k := 63) e (by decide) (by decide) (by decide) (by decide)))
theorem op_l {p o it im om : Int} {A A_q : Nat → Nat → Int} (hp : 0 ≤ p) (c : Cn A p) (h : opR A A_q it im om p o) : Lcl p A A_q ∧ Lk3 p o A A_q := by
  have hi : ∀ {B : Nat → Nat → Int}, o ≠ 21 → Lh p A B → Lcl p A B ∧ Lk3 p o A B := fun no l => ⟨l.1, Lk3_h no l.2⟩
  have u : ∀ {X Y : Nat → Nat → Int} {k : Nat} {v : Int}, Y = uA X k p.toNat v → 60 ≤ k ∧ k ≤ 70 → Lh p X Y := fun e w => Lh_u e (by omega) (by omega) (by omega) (by omega)
  rcases h with ⟨_, _, A1, oh, _, _, e1, e⟩ | ⟨_, _, oh, _, _, e⟩ | ⟨_, _, oh, _, _, e⟩ | ⟨_, oh, e⟩ | ⟨oh, e⟩ | ⟨_, _, oh, _, _, _, e⟩ | ⟨_, _, A1, oh, _, _, _, t, e⟩ | ⟨_, _, oh, _, _, e⟩ | ⟨_, _, _, A1, A2, A3, oh, _, _, _, f, e1, e2, e⟩ | ⟨_, _, _, _, _, _, _, A1, A2, A3, A4, oh, _, _, _, _, _, s1, s2, t1, t2, _, _, m⟩ | ⟨_, oh, _, k⟩ | ⟨oh, e⟩ | ⟨_, _, _, _, A1, A2, oh, _, _, _, _, e1, e2, e⟩ | ⟨oh, e⟩ | ⟨_, oh, _, e⟩ | ⟨A1, oh, e1, e⟩ | ⟨a, b, _, ha, hb, k⟩
  · exact hi (by omega) (Lh_t (u e1 (by decide)) (u e (by decide)))
  · exact hi (by omega) (Lh_two e)
  · exact hi (by omega) (Lh_two e)
  · exact hi (by omega) (Lh_two e)
  · exact hi (by omega) (Lh_fault e)
  · exact hi (by omega) (Lh_take e)
  · exact hi (by omega) (Lh_t (Lh_take t) (Lh_fault e))
  · exact hi (by omega) (u e (by decide))
  · refine hi (by omega) (Lh_t (Lh_t (Lh_t ?_ (u e1 (by decide))) (u e2 (by decide))) (u e (by decide)))
    rw [f]
    exact Lh_fi hp _
  · refine hi (by omega) (Lh_t (Lh_t (Lh_t (Lh_t (Lh_st hp s1) (Lh_st hp s2)) (Lh_take t1)) (Lh_take t2)) (Lh_mk hp (Cn_s c ?_) m))
    rw [take2 t1 t2 72 (by decide) (by decide), s2, stM_ne (by decide), s1, stM_ne (by decide)]
  · exact hi (by omega) (Lh_eb hp c k)
  · exact hi (by omega) (Lh_gone e)
  · exact hi (by omega) (Lh_t (Lh_t (u e1 (by decide)) (u e2 (by decide))) (u e (by decide)))
  · exact hi (by omega) (Lh_fault e)
  · exact hi (by omega) (Lh_come e)
  · exact hi (by omega) (Lh_t (u e1 (by decide)) (Lh_gone e))
  · exact sp_l hp c ha k
