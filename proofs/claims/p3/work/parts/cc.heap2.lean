/-! THE CLASS'S SIDE: new things, calls, what is thrown -/
theorem rv_cat {z : Int} : (rv z).category = 1 := by
  unfold rv
  by_cases h : z = 0
  · rw [if_pos h]
    rfl
  · rw [if_neg h]
    rfl
theorem jl_rvn {l : jL} {a : Fin 4} {n m : Nat} {z : Int} {st : List Value} (h : jGet l a.val = some (rv z)) : jLoad (.aload_n a) 1 n m l st = some (n + 1, l, rv z :: st) := by
  simp only [jLoad, h, rv_isR, if_true]
theorem jl_rv {l : jL} {a n m : Nat} {z : Int} {st : List Value} (h : jGet l a = some (rv z)) : jLoad (.aload a) 2 n m l st = some (n + 2, l, rv z :: st) := by
  simp only [jLoad, h, rv_isR, if_true]
theorem js_rvn {l : jL} {a : Fin 4} {n m : Nat} {z : Int} {st : List Value} (h : a.val < m) : jLoad (.astore_n a) 1 n m l (rv z :: st) = some (n + 1, jSto1 l a.val (rv z), st) := by
  simp only [jLoad, rv_isR, h, decide_true, Bool.and_self, if_true]
theorem js_rv {l : jL} {a n m : Nat} {z : Int} {st : List Value} (h : a < m) : jLoad (.astore a) 2 n m l (rv z :: st) = some (n + 2, jSto1 l a (rv z), st) := by
  simp only [jLoad, rv_isR, h, decide_true, Bool.and_self, if_true]
theorem ja_dup {z : Int} {st : List Value} : jArith .dup 1 (rv z :: st) = some (rv z :: rv z :: st) := by
  simp only [jArith, rv_cat, if_true]
theorem jr_are {z : Int} {s : String} : jRet .areturn 1 (some (.object s)) [rv z] = some (some (rv z)) := by
  simp only [jRet, rv_isR, if_true]
theorem jr_ara {z : Int} {t : FieldType} : jRet .areturn 1 (some (.array t)) [rv z] = some (some (rv z)) := by
  simp only [jRet, rv_isR, if_true]
/-- the same ref, or another -/
theorem rv_o {z : Int} (h : z = 0 ∨ 64 ≤ z) : jIsO (rv z) = true := by
  unfold rv
  rcases h with h | h
  · rw [if_pos h]
    rfl
  · rw [if_neg (by omega)]
    show decide (64 ≤ z.toNat) = true
    rw [decide_eq_true (by omega)]
theorem rv_inj {y z : Int} (hy : y = 0 ∨ 64 ≤ y) (hz : z = 0 ∨ 64 ≤ z) : rv y = rv z ↔ y = z := by
  constructor
  · intro h
    unfold rv at h
    by_cases a : y = 0 <;> by_cases b : z = 0
    · omega
    · rw [if_pos a, if_neg b] at h
      cases h
    · rw [if_neg a, if_pos b] at h
      cases h
    · rw [if_neg a, if_neg b] at h
      have : y.toNat = z.toNat := by injection h
      omega
  · intro h
    rw [h]
theorem cx_aeq {X : jX} {d : Nat} {e : jM} {pc pc_q tg_q : Nat} {off : Int} {l : jL} {st : List Value} {V : jH} {Q : jO → jH → Prop} {y z : Int} (h1 : jGet' e pc = some (.if_acmp .eq off, 3)) (ht : jTgt pc off = some tg_q) (hp : pc + 3 = pc_q) (hy : y = 0 ∨ 64 ≤ y) (hz : z = 0 ∨ 64 ≤ z) (kt : z = y → wj X d e (tg_q, l, st, V) Q) (kf : z ≠ y → wj X d e (pc_q, l, st, V) Q) : wj X d e (pc, l, rv y :: rv z :: st, V) Q := by
  subst hp
  by_cases h : z = y
  · have e2 : rv z = rv y := by rw [h]
    refine jx_br h1 rfl rfl ?_ (kt h)
    simp only [jBranch, rv_o hy, rv_o hz, Bool.and_self, if_true, e2, ht, Option.map_some]
  · have e2 : ¬ rv z = rv y := fun q => h ((rv_inj hz hy).mp q)
    refine jx_br h1 rfl rfl ?_ (kf h)
    simp only [jBranch, rv_o hy, rv_o hz, Bool.and_self, if_true, e2, if_false]
theorem cx_ane {X : jX} {d : Nat} {e : jM} {pc pc_q tg_q : Nat} {off : Int} {l : jL} {st : List Value} {V : jH} {Q : jO → jH → Prop} {y z : Int} (h1 : jGet' e pc = some (.if_acmp .ne off, 3)) (ht : jTgt pc off = some tg_q) (hp : pc + 3 = pc_q) (hy : y = 0 ∨ 64 ≤ y) (hz : z = 0 ∨ 64 ≤ z) (kt : z ≠ y → wj X d e (tg_q, l, st, V) Q) (kf : z = y → wj X d e (pc_q, l, st, V) Q) : wj X d e (pc, l, rv y :: rv z :: st, V) Q := by
  subst hp
  by_cases h : z = y
  · have e2 : rv z = rv y := by rw [h]
    refine jx_br h1 rfl rfl ?_ (kf h)
    simp only [jBranch, rv_o hy, rv_o hz, Bool.and_self, if_true, e2]
  · have e2 : ¬ rv z = rv y := fun q => h ((rv_inj hz hy).mp q)
    refine jx_br h1 rfl rfl ?_ (kt h)
    simp only [jBranch, rv_o hy, rv_o hz, Bool.and_self, if_true, e2, if_false, ht, Option.map_some]
/-- one more cell -/
def up1 (f : Int → Int) (a z : Int) : Int → Int := fun b => if b = a then z else f b
theorem up1_e {f : Int → Int} {a z : Int} : up1 f a z a = z := if_pos rfl
theorem up1_n {f : Int → Int} {a z b : Int} (h : b ≠ a) : up1 f a z b = f b := if_neg h
def zF (F : Int → Int → Int) (a : Int) : Int → Int → Int := fun b i => if b = a then 0 else F b i
theorem zF_e {F : Int → Int → Int} {a i : Int} : zF F a a i = 0 := if_pos rfl
theorem zF_n {F : Int → Int → Int} {a b i : Int} (h : b ≠ a) : zF F a b i = F b i := if_neg h
theorem cC_z {tg ln : Int → Int} {F : Int → Int → Int} {a t n b : Int} (h : b ≠ a) : cCe (up1 tg a t) (up1 ln a n) (zF F a) b = cCe tg ln F b := by
  have e : ∀ i, zF F a b i = F b i := fun i => zF_n h
  unfold cCe oF
  simp only [e, up1_n h]
theorem cV_app {R : Nat → jC} {m : Nat} {tg ln : Int → Int} {F : Int → Int → Int} {t n : Int} {c : jC} (hm : 89 ≤ m) (hc : cCe (up1 tg (64 + (m : Int)) t) (up1 ln (64 + (m : Int)) n) (zF F (64 + (m : Int))) (64 + (m : Int)) = c) : cV R m tg ln F ++ [c] = cV R (m + 1) (up1 tg (64 + (m : Int)) t) (up1 ln (64 + (m : Int)) n) (zF F (64 + (m : Int))) := by
  unfold cV
  rw [List.range_succ, List.map_append]
  congr 1
  · refine List.map_congr_left (fun i hi => ?_)
    have := List.mem_range.mp hi
    by_cases r : 2 ≤ i ∧ i < 89
    · rw [if_pos r, if_pos r]
    · rw [if_neg r, if_neg r, cC_z (by omega)]
  · show [c] = [_]
    dsimp only
    rw [if_neg (show ¬ (2 ≤ m ∧ m < 89) by omega), show ((64 + m : Nat) : Int) = 64 + (m : Int) by omega, hc]
theorem rv_m {m : Nat} : rv (64 + (m : Int)) = .ref (64 + m) := by
  rw [rv_n (by omega), show (64 + (m : Int)).toNat = 64 + m by omega]
/-- a new object -/
theorem cx_new {X : jX} {d : Nat} {e : jM} {pc pc_q k0 c : Nat} {l : jL} {st : List Value} {R : Nat → jC} {m : Nat} {tg ln : Int → Int} {F : Int → Int → Int} {Q : jO → jH → Prop} (h1 : jGet' e pc = some (.new k0, 3)) (h2 : jFind jKl e.2.1 k0 = some c) (hc : c < 12) (hd : (jTys.getD c []).map defaultValue = (List.range (cTy.getD c []).length).map (fun q => dV ((cTy.getD c []).getD q 0) 0)) (hp : pc + 3 = pc_q) (hm : 89 ≤ m) (k : wj X d e (pc_q, l, rv (64 + (m : Int)) :: st, cV R (m + 1) (up1 tg (64 + (m : Int)) ((c : Int) + 1)) (up1 ln (64 + (m : Int)) 0) (zF F (64 + (m : Int)))) Q) : wj X d e (pc, l, st, cV R m tg ln F) Q := by
  refine jx_hp h1 rfl rfl rfl ?_ hp k
  simp only [jHeap, h2, cV_len]
  rw [if_pos (by omega), rv_m, hd]
  have w := cV_app (R := R) (tg := tg) (ln := ln) (F := F) (t := (c : Int) + 1) (n := 0) (c := .inr (c, (List.range (cTy.getD c []).length).map (fun q => dV ((cTy.getD c []).getD q 0) 0))) hm (by
    rw [cC_o (c := c) up1_e (by omega)]
    unfold oF
    simp only [zF_e])
  rw [w]
/-- a new row of bytes, ints, booleans -/
theorem cx_nai {X : jX} {d : Nat} {e : jM} {pc pc_q : Nat} {l : jL} {st : List Value} {R : Nat → jC} {m kd : Nat} {tg ln : Int → Int} {F : Int → Int → Int} {Q : jO → jH → Prop} {t : ArrayType} {z : Int} (h1 : jGet' e pc = some (.newarray t, 2)) (ht : (t = .byte ∧ kd = 0) ∨ (t = .int ∧ kd = 1) ∨ (t = .boolean ∧ kd = 3)) (hp : pc + 2 = pc_q) (hm : 89 ≤ m) (h0 : 0 ≤ z) (hz : z ≤ 1000000) (k : wj X d e (pc_q, l, rv (64 + (m : Int)) :: st, cV R (m + 1) (up1 tg (64 + (m : Int)) (20 + (kd : Int))) (up1 ln (64 + (m : Int)) z) (zF F (64 + (m : Int)))) Q) : wj X d e (pc, l, .int (i32 z) :: st, cV R m tg ln F) Q := by
  have hn : ¬ (i32 z < 0 ∨ 1000000 < (i32 z).toNatClampNeg) := by
    rw [i32_nat h0 (by omega), Int32.lt_iff_toInt_lt, i32_to (by omega) (by omega)]
    have : (0 : Int32).toInt = 0 := rfl
    omega
  have w : ∀ kd : Nat, kd = 0 ∨ kd = 1 ∨ kd = 3 → cV R m tg ln F ++ [.inl (kd, z.toNat, .inl (fun _ => 0))] = cV R (m + 1) (up1 tg (64 + (m : Int)) (20 + (kd : Int))) (up1 ln (64 + (m : Int)) z) (zF F (64 + (m : Int))) := fun kd hk => cV_app hm (by
    rw [cC_i (kd := kd) up1_e hk, up1_e]
    simp only [zF_e]
    rfl)
  refine jx_hp h1 rfl rfl rfl ?_ hp k
  rw [rv_m]
  rcases ht with ⟨rfl, rfl⟩ | ⟨rfl, rfl⟩ | ⟨rfl, rfl⟩
  · simp only [jHeap, cV_len]
    rw [if_neg hn, i32_nat h0 (by omega), w 0 (by omega)]
  · simp only [jHeap, cV_len]
    rw [if_neg hn, i32_nat h0 (by omega), w 1 (by omega)]
  · simp only [jHeap, cV_len]
    rw [if_neg hn, i32_nat h0 (by omega), w 3 (by omega)]
theorem cx_nal {X : jX} {d : Nat} {e : jM} {pc pc_q : Nat} {l : jL} {st : List Value} {R : Nat → jC} {m : Nat} {tg ln : Int → Int} {F : Int → Int → Int} {Q : jO → jH → Prop} {z : Int} (h1 : jGet' e pc = some (.newarray .long, 2)) (hp : pc + 2 = pc_q) (hm : 89 ≤ m) (h0 : 0 ≤ z) (hz : z ≤ 1000000) (k : wj X d e (pc_q, l, rv (64 + (m : Int)) :: st, cV R (m + 1) (up1 tg (64 + (m : Int)) 22) (up1 ln (64 + (m : Int)) z) (zF F (64 + (m : Int)))) Q) : wj X d e (pc, l, .int (i32 z) :: st, cV R m tg ln F) Q := by
  have hn : ¬ (i32 z < 0 ∨ 1000000 < (i32 z).toNatClampNeg) := by
    rw [i32_nat h0 (by omega), Int32.lt_iff_toInt_lt, i32_to (by omega) (by omega)]
    have : (0 : Int32).toInt = 0 := rfl
    omega
  have w : cV R m tg ln F ++ [.inl (2, z.toNat, .inr (.inl (fun _ => 0)))] = cV R (m + 1) (up1 tg (64 + (m : Int)) 22) (up1 ln (64 + (m : Int)) z) (zF F (64 + (m : Int))) := cV_app hm (by
    rw [cC_l up1_e, up1_e]
    simp only [zF_e]
    rfl)
  refine jx_hp h1 rfl rfl rfl ?_ hp k
  rw [rv_m]
  simp only [jHeap, cV_len]
  rw [if_neg hn, i32_nat h0 (by omega), w]
theorem cx_naa {X : jX} {d : Nat} {e : jM} {pc pc_q k0 c kd : Nat} {l : jL} {st : List Value} {R : Nat → jC} {m : Nat} {tg ln : Int → Int} {F : Int → Int → Int} {Q : jO → jH → Prop} {z : Int} (h1 : jGet' e pc = some (.anewarray k0, 3)) (h2 : jFind jKl e.2.1 k0 = some c) (h3 : jOver c = some kd) (hk : 4 ≤ kd) (hp : pc + 3 = pc_q) (hm : 89 ≤ m) (h0 : 0 ≤ z) (hz : z ≤ 1000000) (k : wj X d e (pc_q, l, rv (64 + (m : Int)) :: st, cV R (m + 1) (up1 tg (64 + (m : Int)) (20 + (kd : Int))) (up1 ln (64 + (m : Int)) z) (zF F (64 + (m : Int)))) Q) : wj X d e (pc, l, .int (i32 z) :: st, cV R m tg ln F) Q := by
  have hn : ¬ (i32 z < 0 ∨ 1000000 < (i32 z).toNatClampNeg) := by
    rw [i32_nat h0 (by omega), Int32.lt_iff_toInt_lt, i32_to (by omega) (by omega)]
    have : (0 : Int32).toInt = 0 := rfl
    omega
  have w : cV R m tg ln F ++ [.inl (kd, z.toNat, .inr (.inr (.inr (.inr (fun _ => none)))))] = cV R (m + 1) (up1 tg (64 + (m : Int)) (20 + (kd : Int))) (up1 ln (64 + (m : Int)) z) (zF F (64 + (m : Int))) := cV_app hm (by
    rw [cC_a (by rw [up1_e]; omega), up1_e, up1_e, show (20 + (kd : Int) - 20).toNat = kd by omega]
    simp only [zF_e, if_true])
  refine jx_hp h1 rfl rfl rfl ?_ hp k
  rw [rv_m]
  simp only [jHeap, h2, h3, Option.bind_some, cV_len]
  rw [if_neg hn, i32_nat h0 (by omega), w]
/-- a call's answer: it comes back, or throws what is caught here, or on -/
def cBk (X : jX) (d : Nat) (e : jM) (pc : Nat) (l : jL) (st : List Value) (Q : jO → jH → Prop) (o : jO) (V_q : jH) : Prop := (o = .inl none ∧ wj X d e (pc + 3, l, st, V_q) Q) ∨ (∃ v, o = .inl (some v) ∧ wj X d e (pc + 3, l, v :: st, V_q) Q) ∨ (∃ a c hh, o = .inr a ∧ jExc V_q a = some c ∧ jCatch e.2.1 pc c e.2.2.2.2.2.1 = some hh ∧ wj X d e (hh, l, [.ref a], V_q) Q) ∨ (∃ a c, o = .inr a ∧ jExc V_q a = some c ∧ jCatch e.2.1 pc c e.2.2.2.2.2.1 = none ∧ Q (.inr a) V_q)
theorem cx_vi {X : jX} {d : Nat} {e f : jM} {pc t na k0 c : Nat} {l : jL} {st0 st as : List Value} {R : Nat → jC} {m : Nat} {tg ln : Int → Int} {F : Int → Int → Int} {a : Int} {Q Q_q : jO → jH → Prop} (h1 : jGet' e pc = some (.invokevirtual k0, 3)) (h2 : jFind jCl e.2.1 k0 = some (0, t, na)) (h3 : st0.drop na = rv a :: st) (ho : own m a) (hg : tg a = (c : Int) + 1) (hc : c < 19) (h5 : jMs[t]? = some f) (h6 : (st0.take na).length = na ∧ c = f.2.1 ∧ jSum st ≤ 8) (h7 : (st0.take na).reverse = as) (hk : wk X d t (rv a :: as) (cV R m tg ln F) Q_q) (k : ∀ o V_q, Q_q o V_q → cBk X d e pc l st Q o V_q) : wj X d e (pc, l, st0, cV R m tg ln F) Q := by
  have h0 := ho.1
  rw [rv_n (by omega)] at h3 hk
  subst h7
  refine wj_call (t := t) (pc := pc) (l := l) (st := st) (V := cV R m tg ln F) (fun call r hr => ?_) hk (fun o V_q hq => k o V_q hq)
  have hi : jInvoke call e e.2.1 (.invokevirtual k0) 3 pc l st0 (cV R m tg ln F) = some r := by
    simp only [jInvoke, h2, h3, cV_at ho, cC_o hg hc, h5, if_pos h6]
    exact hr
  unfold jStep
  simp only [h1, jLoad, jArith, jBranch, jHeap, jRet, hi]
/-- a constructor -/
theorem cx_sp {X : jX} {d : Nat} {e : jM} {pc t na k0 kd : Nat} {l : jL} {st0 st as : List Value} {V : jH} {a : Int} {Q Q_q : jO → jH → Prop} (h1 : jGet' e pc = some (.invokespecial k0, 3)) (h2 : jFind jCl e.2.1 k0 = some (kd, t, na)) (hkd : kd = 2 ∨ kd = 3) (h3 : st0.drop na = rv a :: st) (ha : 64 ≤ a) (h6 : (st0.take na).length = na ∧ jSum st ≤ 8) (h7 : (st0.take na).reverse = as) (hk : wk X d t (rv a :: as) V Q_q) (k : ∀ o V_q, Q_q o V_q → cBk X d e pc l st Q o V_q) : wj X d e (pc, l, st0, V) Q := by
  rw [rv_n (by omega)] at h3 hk
  subst h7
  refine wj_call (t := t) (pc := pc) (l := l) (st := st) (V := V) (fun call r hr => ?_) hk (fun o V_q hq => k o V_q hq)
  have hc : (st0.take na).length = na ∧ jSum st ≤ 8 ∧ 64 ≤ a.toNat := ⟨h6.1, h6.2, by omega⟩
  have hi : jInvoke call e e.2.1 (.invokespecial k0) 3 pc l st0 V = some r := by
    rcases hkd with rfl | rfl
    · simp only [jInvoke, h2, h3, if_pos hc, true_or, if_true]
      exact hr
    · simp only [jInvoke, h2, h3, if_pos hc, or_true, if_true]
      exact hr
  unfold jStep
  simp only [h1, jLoad, jArith, jBranch, jHeap, jRet, hi]
theorem cx_ob {X : jX} {d : Nat} {e : jM} {pc pc_q k0 t na : Nat} {l : jL} {st : List Value} {V : jH} {a : Int} {Q : jO → jH → Prop} (h1 : jGet' e pc = some (.invokespecial k0, 3)) (h2 : jFind jCl e.2.1 k0 = some (4, t, na)) (ha : 64 ≤ a) (h6 : jSum st ≤ 8) (hp : pc + 3 = pc_q) (k : wj X d e (pc_q, l, st, V) Q) : wj X d e (pc, l, rv a :: st, V) Q := by
  rw [rv_n (by omega)]
  subst hp
  refine wj_step (fun call => ?_) k
  have hc : jSum st ≤ 8 ∧ 64 ≤ a.toNat := ⟨h6, by omega⟩
  have hi : jInvoke call e e.2.1 (.invokespecial k0) 3 pc l (.ref a.toNat :: st) V = some (.inl (pc + 3, l, st, V)) := by
    simp only [jInvoke, h2, if_pos hc]
  unfold jStep
  simp only [h1, jLoad, jArith, jBranch, jHeap, jRet, hi]
/-- a call of a method of no object -/
theorem cx_st {X : jX} {d : Nat} {e : jM} {pc t na k0 : Nat} {l : jL} {st0 st as : List Value} {V : jH} {Q Q_q : jO → jH → Prop} (h1 : jGet' e pc = some (.invokestatic k0, 3)) (h2 : jFind jCl e.2.1 k0 = some (1, t, na)) (h3 : st0.drop na = st) (h6 : (st0.take na).length = na ∧ jSum st ≤ 8) (h7 : (st0.take na).reverse = as) (hk : wk X d t as V Q_q) (k : ∀ o V_q, Q_q o V_q → cBk X d e pc l st Q o V_q) : wj X d e (pc, l, st0, V) Q := by
  subst h7 h3
  refine wj_call (t := t) (pc := pc) (l := l) (st := st0.drop na) (V := V) (fun call r hr => ?_) hk (fun o V_q hq => k o V_q hq)
  have hi : jInvoke call e e.2.1 (.invokestatic k0) 3 pc l st0 V = some r := by
    simp only [jInvoke, h2, if_pos h6]
    exact hr
  unfold jStep
  simp only [h1, jLoad, jArith, jBranch, jHeap, jRet, hi]
/-- throw new E("..") -/
theorem cx_thr {X : jX} {d : Nat} {e : jM} {pc k0 c s q : Nat} {l : jL} {st : List Value} {R : Nat → jC} {m : Nat} {tg ln : Int → Int} {F : Int → Int → Int} {Q : jO → jH → Prop} (h1 : jGet' e pc = some (.new k0, 3)) (h2 : jFind jKl e.2.1 k0 = some c) (h3 : jGet' e (pc + 3) = some (.dup, 1)) (h4 : jGet' e (pc + 4) = some (.ldc s, 2)) (h5 : 13 ≤ c ∧ c < 18 ∧ jSum st ≤ 8 ∧ e.2.2.2.2.2.1 = [] ∧ jIsS (jFind jCn e.2.1 s) = true ∧ jGet' e (pc + 9) = some (.athrow, 1)) (h6 : jGet' e (pc + 6) = some (.invokespecial q, 3)) (h7 : jFind jCl e.2.1 q = some (5, c, 1)) (hm : 89 ≤ m) (k : Q (.inr (64 + m)) (cV R (m + 1) (up1 tg (64 + (m : Int)) ((c : Int) + 1)) (up1 ln (64 + (m : Int)) 0) (zF F (64 + (m : Int))))) : wj X d e (pc, l, st, cV R m tg ln F) Q := by
  have w := cV_app (R := R) (tg := tg) (ln := ln) (F := F) (t := (c : Int) + 1) (n := 0) (c := .inr (c, [])) hm (by
    rw [cC_o (c := c) up1_e (by omega)]
    have : cTy.getD c [] = [] := by
      have : c = 13 ∨ c = 14 ∨ c = 15 ∨ c = 16 ∨ c = 17 := by omega
      rcases this with rfl | rfl | rfl | rfl | rfl <;> rfl
    unfold oF
    rw [this]
    rfl)
  refine wj_out (fun call => ?_) k
  have nh : ¬ c < 13 := by omega
  have hh : jHeap X e.2.1 (e.1.name == "<init>") (.new k0) 3 st (cV R m tg ln F) = none := by
    simp only [jHeap, h2, if_neg nh]
  have hi : jThrow e e.2.1 (.new k0) 3 pc st (cV R m tg ln F) = some (.inr (.inr (64 + m), cV R m tg ln F ++ [.inr (c, [])])) := by
    simp only [jThrow, h2, h3, h4, if_pos h5, h6, h7, if_true, cV_len]
  rw [w] at hi
  unfold jStep
  simp only [h1, jLoad, jArith, jBranch, hh, jRet, jInvoke, hi]
theorem cx_exc {R : Nat → jC} {m c : Nat} {tg ln : Int → Int} {F : Int → Int → Int} {a : Nat} (ho : own m (a : Int)) (hg : tg (a : Int) = (c : Int) + 1) (hc : c < 19) : jExc (cV R m tg ln F) a = some c := by
  have := cV_at (R := R) (tg := tg) (ln := ln) (F := F) ho
  rw [Int.toNat_natCast] at this
  unfold jExc
  rw [this, cC_o hg hc]
