/-! THE CLASS'S SIDE: new cells, by names -/
theorem HC_ex {u : Int} {m : Nat} {tg ln : Int → Int} {F : Int → Int → Int} {t : Int} (h : HC u m tg ln F) (ht : 13 ≤ t ∧ t < 20) : HC u (m + 1) (up1 tg (64 + (m : Int)) t) (up1 ln (64 + (m : Int)) 0) (zF F (64 + (m : Int))) := HC_nw h (Or.inl rfl) (fun c q e hq => by
    have := cBd_len hq
    omega) (fun w => by omega) ⟨by decide, by decide⟩
theorem csz_o {t n : Int} (h : t < 20) : csz t n = 25 := if_pos h
theorem csz_r {t n : Int} (h : 20 ≤ t) : csz t n = 1 + n := if_neg (by omega)
/-- how much there is: 25 an object, 1 + length a row; the reference's cells aside -/
def szD : Nat → (Int → Int) → (Int → Int) → Int
  | 0, _, _ => 0
  | m + 1, tg, ln => szD m tg ln + (if 2 ≤ m ∧ m < 89 then 0 else csz (tg (64 + (m : Int))) (ln (64 + (m : Int))))
theorem szD_cg {tg ln tg_q ln_q : Int → Int} : ∀ (m : Nat), (∀ a, 64 ≤ a → a < 64 + (m : Int) → tg_q a = tg a ∧ ln_q a = ln a) → szD m tg_q ln_q = szD m tg ln := by
  intro m
  induction m with
  | zero => intro _; rfl
  | succ m ih =>
    intro h
    have e := h (64 + (m : Int)) (by omega) (by omega)
    show szD m tg_q ln_q + _ = szD m tg ln + _
    rw [ih (fun a h1 h2 => h a h1 (by omega)), e.1, e.2]
theorem szD_s {m : Nat} {tg ln : Int → Int} {t n : Int} (hm : 89 ≤ m) : szD (m + 1) (up1 tg (64 + (m : Int)) t) (up1 ln (64 + (m : Int)) n) = szD m tg ln + csz t n := by
  show szD m _ _ + (if 2 ≤ m ∧ m < 89 then 0 else csz _ _) = _
  rw [if_neg (by omega), up1_e, up1_e, szD_cg m (fun a _ h => ⟨up1_n (by omega), up1_n (by omega)⟩)]
theorem cx_thrw {X : jX} {d : Nat} {e : jM} {pc k0 c s q : Nat} {l : jL} {st : List Value} {R : Nat → jC} {m : Nat} {tg ln : Int → Int} {F : Int → Int → Int} {Q : jO → jH → Prop} (h1 : jGet' e pc = some (.new k0, 3)) (h2 : jFind jKl e.2.1 k0 = some c) (h3 : jGet' e (pc + 3) = some (.dup, 1)) (h4 : jGet' e (pc + 4) = some (.ldc_w s, 3)) (h5 : 13 ≤ c ∧ c < 18 ∧ jSum st ≤ 8 ∧ e.2.2.2.2.2.1 = [] ∧ jIsS (jFind jCn e.2.1 s) = true ∧ jGet' e (pc + 10) = some (.athrow, 1)) (h6 : jGet' e (pc + 7) = some (.invokespecial q, 3)) (h7 : jFind jCl e.2.1 q = some (5, c, 1)) (hm : 89 ≤ m) (k : Q (.inr (64 + m)) (cV R (m + 1) (up1 tg (64 + (m : Int)) ((c : Int) + 1)) (up1 ln (64 + (m : Int)) 0) (zF F (64 + (m : Int))))) : wj X d e (pc, l, st, cV R m tg ln F) Q := by
  have w := cV_app (R := R) (tg := tg) (ln := ln) (F := F) (t := (c : Int) + 1) (n := 0) (c := .inr (c, [])) hm (by
    rw [cC_o (c := c) up1_e (by omega)]
    have : cTy.getD c [] = [] := by
      have : c = 13 ∨ c = 14 ∨ c = 15 ∨ c = 16 ∨ c = 17 := by omega
      rcases this with rfl | rfl | rfl | rfl | rfl <;> rfl
    unfold oF
    rw [this]
    rfl)
  refine wj_out (fun call => ?_) k
  have nh : ¬ c < 13 := by omega
  have hh : jHeap X e.2.1 (e.1.name == "<init>") (.new k0) 3 st (cV R m tg ln F) = none := by
    simp only [jHeap, h2, if_neg nh]
  have hi : jThrow e e.2.1 (.new k0) 3 pc st (cV R m tg ln F) = some (.inr (.inr (64 + m), cV R m tg ln F ++ [.inr (c, [])])) := by
    simp only [jThrow, h2, h3, h4, if_pos h5, h6, h7, if_true, cV_len]
  rw [w] at hi
  unfold jStep
  simp only [h1, jLoad, jArith, jBranch, hh, jRet, jInvoke, hi]
section
variable {X : jX} {d : Nat} {e : jM} {pc pc_q k0 c : Nat} {l : jL} {st : List Value} {R : Nat → jC} {u : Int} {m : Nat} {tg ln : Int → Int} {F : Int → Int → Int} {Q : jO → jH → Prop}
/-- a new object whose fields may all be nothing -/
theorem cx_newp (h1 : jGet' e pc = some (.new k0, 3)) (h2 : jFind jKl e.2.1 k0 = some c) (hc : c < 12) (hd : (jTys.getD c []).map defaultValue = (List.range (cTy.getD c []).length).map (fun q => dV ((cTy.getD c []).getD q 0) 0)) (hp : pc + 3 = pc_q) (hC : HC u m tg ln F) (hz : (List.range (cBd.getD c []).length).all (fun q => (((cBd.getD c []).getD q (1, 0, 0, 0)).1 != 3) && ((((cBd.getD c []).getD q (1, 0, 0, 0)).1 != 0) || (decide (((cBd.getD c []).getD q (1, 0, 0, 0)).2.1 ≤ 0) && decide (0 ≤ ((cBd.getD c []).getD q (1, 0, 0, 0)).2.2.1)))) = true) (hk : c ≠ 10 ∧ c ≠ 2) (k : ∀ (n : Int) (m2 : Nat) (tg2 ln2 : Int → Int) (F2 : Int → Int → Int), n = 64 + (m : Int) → m2 = m + 1 → (own m2 n ∧ tg2 n = (c : Int) + 1) → Ex m tg ln m2 tg2 ln2 → HC u m2 tg2 ln2 F2 → (∀ b i, b ≠ n → F2 b i = F b i) → (∀ i, F2 n i = 0) → szD m2 tg2 ln2 = szD m tg ln + 25 → wj X d e (pc_q, l, rv n :: st, cV R m2 tg2 ln2 F2) Q) : wj X d e (pc, l, st, cV R m tg ln F) Q := by
  have hm := hC.1
  refine cx_new h1 h2 hc hd hp hm (k _ _ _ _ _ rfl rfl ⟨(own_s hm).mpr (Or.inr rfl), up1_e⟩ Ex_s (HC_nw hC (Or.inl rfl) (fun c_q q hc' hq => ?_) (fun w => by omega) ⟨by decide, by decide⟩) (fun b i w => zF_n w) (fun i => zF_e) (by rw [szD_s hm, csz_o (by omega)]))
  have e1 : c_q = c := by omega
  subst e1
  have z := List.all_eq_true.mp hz q (List.mem_range.mpr hq)
  obtain ⟨z1, z2⟩ := Bool.and_eq_true_iff.mp z
  constructor
  · intro w
    rcases Bool.or_eq_true_iff.mp z2 with v | v
    · rw [w] at v
      exact absurd v (by decide)
    · obtain ⟨v1, v2⟩ := Bool.and_eq_true_iff.mp v
      exact ⟨of_decide_eq_true v1, of_decide_eq_true v2⟩
  · intro w
    rw [w] at z1
    exact absurd z1 (by decide)
/-- a new object that is being made from now on -/
theorem cx_newc (h1 : jGet' e pc = some (.new k0, 3)) (h2 : jFind jKl e.2.1 k0 = some c) (hc : c < 12) (hd : (jTys.getD c []).map defaultValue = (List.range (cTy.getD c []).length).map (fun q => dV ((cTy.getD c []).getD q 0) 0)) (hp : pc + 3 = pc_q) (hC : HC 0 m tg ln F) (hz : (List.range (cBd.getD c []).length).all (fun q => (((cBd.getD c []).getD q (1, 0, 0, 0)).1 != 0) || (decide (((cBd.getD c []).getD q (1, 0, 0, 0)).2.1 ≤ 0) && decide (0 ≤ ((cBd.getD c []).getD q (1, 0, 0, 0)).2.2.1))) = true) (k : ∀ (n : Int) (m2 : Nat) (tg2 ln2 : Int → Int) (F2 : Int → Int → Int), n = 64 + (m : Int) → m2 = m + 1 → (own m2 n ∧ tg2 n = (c : Int) + 1) → Ex m tg ln m2 tg2 ln2 → HC n m2 tg2 ln2 F2 → (∀ b i, b ≠ n → F2 b i = F b i) → (∀ i, F2 n i = 0) → szD m2 tg2 ln2 = szD m tg ln + 25 → wj X d e (pc_q, l, rv n :: st, cV R m2 tg2 ln2 F2) Q) : wj X d e (pc, l, st, cV R m tg ln F) Q := by
  have hm := hC.1
  refine cx_new h1 h2 hc hd hp hm (k _ _ _ _ _ rfl rfl ⟨(own_s hm).mpr (Or.inr rfl), up1_e⟩ Ex_s (HC_nw hC (Or.inr ⟨rfl, rfl⟩) (fun c_q q hc' hq => ?_) (fun w => rfl) ⟨by decide, by decide⟩) (fun b i w => zF_n w) (fun i => zF_e) (by rw [szD_s hm, csz_o (by omega)]))
  have e1 : c_q = c := by omega
  subst e1
  have z := List.all_eq_true.mp hz q (List.mem_range.mpr hq)
  refine ⟨fun w => ?_, fun _ => rfl⟩
  rcases Bool.or_eq_true_iff.mp z with v | v
  · rw [w] at v
    exact absurd v (by decide)
  · obtain ⟨v1, v2⟩ := Bool.and_eq_true_iff.mp v
    exact ⟨of_decide_eq_true v1, of_decide_eq_true v2⟩
theorem HC_row {t z g : Int} (hC : HC u m tg ln F) (ht : 20 ≤ t) (hg : rLo g ≤ 0 ∧ 0 ≤ rHi g) (h0 : 0 ≤ z) (hz : z ≤ 1000000) (k : ∀ (n : Int) (m2 : Nat) (tg2 ln2 : Int → Int) (F2 : Int → Int → Int), n = 64 + (m : Int) → m2 = m + 1 → (own m2 n ∧ tg2 n = t) → ln2 n = z → Ex m tg ln m2 tg2 ln2 → HC u m2 tg2 ln2 F2 → (∀ b i, b ≠ n → F2 b i = F b i) → (∀ i, 0 ≤ i → F2 n i = 0) → F2 n (-1) = g → szD m2 tg2 ln2 = szD m tg ln + 1 + z → wj X d e (pc_q, l, rv n :: st, cV R m2 tg2 ln2 F2) Q) : wj X d e (pc_q, l, rv (64 + (m : Int)) :: st, cV R (m + 1) (up1 tg (64 + (m : Int)) t) (up1 ln (64 + (m : Int)) z) (zF F (64 + (m : Int)))) Q := by
  have hm := hC.1
  have w := k _ _ _ _ _ rfl rfl ⟨(own_s hm).mpr (Or.inr rfl), up1_e⟩ up1_e Ex_s (HC_nr (g := g) hC ht hg ⟨h0, hz⟩) (fun b i w => by rw [uF_a w, zF_n w]) (fun i i0 => by rw [uF_j (by omega), zF_e]) uF_e (by rw [szD_s hm, csz_r ht]; omega)
  rw [cV_gh (Or.inl (by decide))] at w
  exact w
theorem cx_thr2 {s q : Nat} (h1 : jGet' e pc = some (.new k0, 3)) (h2 : jFind jKl e.2.1 k0 = some c) (h3 : jGet' e (pc + 3) = some (.dup, 1)) (h4 : jGet' e (pc + 4) = some (.ldc s, 2)) (h5 : 13 ≤ c ∧ c < 18 ∧ jSum st ≤ 8 ∧ e.2.2.2.2.2.1 = [] ∧ jIsS (jFind jCn e.2.1 s) = true ∧ jGet' e (pc + 9) = some (.athrow, 1)) (h6 : jGet' e (pc + 6) = some (.invokespecial q, 3)) (h7 : jFind jCl e.2.1 q = some (5, c, 1)) (hC : HC u m tg ln F) (k : ∀ (x : Nat) (m2 : Nat) (tg2 ln2 : Int → Int) (F2 : Int → Int → Int), (x : Int) = 64 + (m : Int) → m2 = m + 1 → (own m2 (x : Int) ∧ tg2 (x : Int) = (c : Int) + 1) → Ex m tg ln m2 tg2 ln2 → HC u m2 tg2 ln2 F2 → (∀ b i, b ≠ (x : Int) → F2 b i = F b i) → szD m2 tg2 ln2 = szD m tg ln + 25 → Q (.inr x) (cV R m2 tg2 ln2 F2)) : wj X d e (pc, l, st, cV R m tg ln F) Q := by
  have hm := hC.1
  have hx : ((64 + m : Nat) : Int) = 64 + (m : Int) := by omega
  exact cx_thr h1 h2 h3 h4 h5 h6 h7 hm (k (64 + m) _ _ _ _ hx rfl ⟨by rw [hx]; exact (own_s hm).mpr (Or.inr rfl), by rw [hx]; exact up1_e⟩ Ex_s (HC_ex hC (by omega)) (fun b i w => zF_n (by rw [← hx]; exact w)) (by rw [szD_s hm, csz_o (by omega)]))
theorem cx_thr2w {s q : Nat} (h1 : jGet' e pc = some (.new k0, 3)) (h2 : jFind jKl e.2.1 k0 = some c) (h3 : jGet' e (pc + 3) = some (.dup, 1)) (h4 : jGet' e (pc + 4) = some (.ldc_w s, 3)) (h5 : 13 ≤ c ∧ c < 18 ∧ jSum st ≤ 8 ∧ e.2.2.2.2.2.1 = [] ∧ jIsS (jFind jCn e.2.1 s) = true ∧ jGet' e (pc + 10) = some (.athrow, 1)) (h6 : jGet' e (pc + 7) = some (.invokespecial q, 3)) (h7 : jFind jCl e.2.1 q = some (5, c, 1)) (hC : HC u m tg ln F) (k : ∀ (x : Nat) (m2 : Nat) (tg2 ln2 : Int → Int) (F2 : Int → Int → Int), (x : Int) = 64 + (m : Int) → m2 = m + 1 → (own m2 (x : Int) ∧ tg2 (x : Int) = (c : Int) + 1) → Ex m tg ln m2 tg2 ln2 → HC u m2 tg2 ln2 F2 → (∀ b i, b ≠ (x : Int) → F2 b i = F b i) → szD m2 tg2 ln2 = szD m tg ln + 25 → Q (.inr x) (cV R m2 tg2 ln2 F2)) : wj X d e (pc, l, st, cV R m tg ln F) Q := by
  have hm := hC.1
  have hx : ((64 + m : Nat) : Int) = 64 + (m : Int) := by omega
  exact cx_thrw h1 h2 h3 h4 h5 h6 h7 hm (k (64 + m) _ _ _ _ hx rfl ⟨by rw [hx]; exact (own_s hm).mpr (Or.inr rfl), by rw [hx]; exact up1_e⟩ Ex_s (HC_ex hC (by omega)) (fun b i w => zF_n (by rw [← hx]; exact w)) (by rw [szD_s hm, csz_o (by omega)]))
end
theorem ne_n {m : Nat} {a n : Int} (h : own m a) (e : n = 64 + (m : Int)) : a ≠ n := fun w => by
  have := h.2.1
  omega
theorem rv_x {m x : Nat} (h : own m (x : Int)) : rv (x : Int) = .ref x := by
  rw [rv_n (own_z h), Int.toNat_natCast]
theorem Fq_n {x0 n : Int} {L : List (Int × Int)} {m : Nat} {tg : Int → Int} {F F1 F2 : Int → Int → Int} (h : Fq x0 L m tg F F1) (hf : ∀ b i, b ≠ n → F2 b i = F1 b i) (hn : 64 + (m : Int) ≤ n) : Fq x0 L m tg F F2 := fun x q ho hx hl => by
  rw [← h x q ho hx hl]
  exact hf x q (fun w => by have := ho.2.1; omega)
