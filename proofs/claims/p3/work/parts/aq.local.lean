/-! A BYTE TOUCHES ONLY ITS CORE -/
theorem ob_l {p it im om : Int} {A A_q : Nat → Nat → Int} (hp : 0 ≤ p) (c : Cn A p) (hn : A 66 p.toNat ≠ -1) (h : obR A A_q it im om p) : Lcl p A A_q := by
  have u : ∀ {X Y : Nat → Nat → Int} {k : Nat} {v : Int}, Y = uA X k p.toNat v → 60 ≤ k ∧ k ≤ 70 → Lh p X Y := fun e w => Lh_u e (by omega) (by omega) (by omega) (by omega)
  rcases h with ⟨ri, ro, b, x1, x2, fn, q, o, v, A1, A2, A3, hi, ho', hb, e1, e2, e3, hf, hq, hoo, h2, hv, e⟩ | ⟨ri, ro, b, x1, x2, fn, q, o, o2, v, A1, A2, A3, hi, ho', hb, e1, e2, e3, hf, hq, hoo, h2, ho2, hv, e⟩ | ⟨ri, ro, b, x1, x2, fn, q, o, A1, A2, A3, A4, hi, ho', hb, e1, e2, e3, hf, hq, hoo, h2, e4, k⟩ | ⟨ri, ro, b, x1, x2, fn, q, o, A1, A2, A3, A4, hi, ho', hb, e1, e2, e3, hf, hq, hoo, h2, e4, k⟩
  · have l := Lh_t (Lh_t (Lh_t (u e1 (by decide)) (u e2 (by decide))) (u e3 (by decide))) (u e (by decide))
    exact l.1
  · have l := Lh_t (Lh_t (Lh_t (u e1 (by decide)) (u e2 (by decide))) (u e3 (by decide))) (u e (by decide))
    exact l.1
  · have l := Lh_t (Lh_t (Lh_t (u e1 (by decide)) (u e2 (by decide))) (u e3 (by decide))) (u e4 (by decide))
    obtain ⟨t1, t2, t3⟩ := fetch e1 e2 e3 e4
    obtain ⟨w1, w2⟩ := op_l hp (Cn_s c (t3 72 (by decide) (by decide) (by decide) (by decide))) k
    exact Lcl_t l.1 w1
  · have l := Lh_t (Lh_t (Lh_t (u e1 (by decide)) (u e2 (by decide))) (u e3 (by decide))) (u e4 (by decide))
    obtain ⟨t1, t2, t3⟩ := fetch e1 e2 e3 e4
    have w := Lh_ac hp (Cn_s c (t3 72 (by decide) (by decide) (by decide) (by decide))) (by rw [t3 66 (by decide) (by decide) (by decide) (by decide)]; exact hn) k
    exact Lcl_t l.1 w.1
theorem Lh_y {p : Int} {A A_q : Nat → Nat → Int} (hp : 0 ≤ p) (c : Cn A p) (h : yR A A_q p) : Lh p A A_q := by
  rcases h with ⟨_, e⟩ | ⟨_, _, _, d⟩
  · subst e
    exact Lh_r
  · have ly : Lh p A (ydM A p) := by
      have sv : Lh p A (svM A p) := Lh_st hp rfl
      have sd : Lh p (svM A p) (sdM (svM A p) (2 * p + 1) 0 (A 72 (2 * p + 1).toNat)) := by
        have c3 := c.2.2.2
        refine ⟨⟨fun n _ => ?_, fun j _ _ w1 _ n _ => ?_, fun n w => ?_, fun n _ _ => ?_, fun j w => ?_⟩, fun j w => ?_⟩
        · rw [sdM_k (by decide)]
        · rw [sdM_k w1]
        · unfold sdM
          rw [if_neg (fun z => w (by omega))]
        · rw [sdM_k (by decide)]
        · exact sdM_k (by omega)
        · exact sdM_k (by omega)
      have s71 : Lh p (sdM (svM A p) (2 * p + 1) 0 (A 72 (2 * p + 1).toNat)) (uA (uA (sdM (svM A p) (2 * p + 1) 0 (A 72 (2 * p + 1).toNat)) 71 (1100 * (2 * p + 1)).toNat (A 66 p.toNat)) 72 (2 * p + 1).toNat (A 72 (2 * p + 1).toNat + 1)) := by
        refine ⟨⟨fun n _ => ?_, fun j _ _ w1 w2 n _ => ?_, fun n w => ?_, fun n w1 w2 => ?_, fun j w => ?_⟩, fun j w => ?_⟩
        · rw [uA_ne (by decide), uA_ne (by decide)]
        · rw [uA_ne w2, uA_ne w1]
        · rw [uA_ne (by decide)]
          refine uA_ni (fun z => w ?_)
          omega
        · rw [uA_ni w2, uA_ne (by decide)]
        · rw [uA_ne (by omega), uA_ne (by omega)]
        · rw [uA_ne (by omega), uA_ne (by omega)]
      unfold ydM
      exact Lh_t (Lh_t (Lh_t (Lh_t (Lh_t (Lh_t (Lh_t sv sd) s71) (Lh_u (k := 73) rfl (by decide) (by decide) (by decide) (by decide))) (Lh_u (k := 74) rfl (by decide) (by decide) (by decide) (by decide))) (Lh_u (k := 75) rfl (by decide) (by decide) (by decide) (by decide))) (Lh_u (k := 76) rfl (by decide) (by decide) (by decide) (by decide))) (Lh_u (k := 77) rfl (by decide) (by decide) (by decide) (by decide))
    refine Lh_t ly (Lh_disp hp ?_ ?_ d)
    · rw [yd_72o (by omega)]
      have := c.1
      have := c.2.1
      omega
    · rw [yd_72]
      have := c.2.2
      omega
