/-! the machine does what J does: instructions that touch the frame alone. E: what a ref of J's is on the machine -/
def jE (E : Nat → Nat) (v : Value) : Value := match v with
  | .ref n => .ref (E n)
  | v => v
def jEl (E : Nat → Nat) (q : Nat × Value) : Nat × Value := (q.1, jE E q.2)
/-- those of the heap lie in a row from base on -/
def jEok (base : Nat) (E : Nat → Nat) : Prop := ∀ k, E (64 + k) = base + k
theorem jE_cat {E : Nat → Nat} (v : Value) : (jE E v).category = v.category := by
  cases v <;> rfl
theorem jE_ref {E : Nat → Nat} {v : Value} (h : jIsR v = true) : (jE E v).isRef = true := by
  cases v <;> first | rfl | simp [jIsR] at h
theorem jIsO_R {v : Value} (h : jIsO v = true) : jIsR v = true := by
  cases v <;> simp [jIsO] at h <;> rfl
theorem jGet_mem {l : jL} {i : Nat} {v : Value} (h : jGet l i = some v) : (i, v) ∈ l := by
  unfold jGet at h
  obtain ⟨q, h1, h2⟩ := Option.map_eq_some_iff.mp h
  have h3 := List.mem_of_find?_eq_some h1
  have h4 := List.find?_some h1
  obtain ⟨a, b⟩ := q
  simp at h4 h2
  subst h4; subst h2
  exact h3
theorem jGet_at {E : Nat → Nat} {l : jL} {ls : Array Slot} {nL i : Nat} {v : Value} (hl : lv_has ls nL (l.map (jEl E))) (h : jGet l i = some v) : ls[i]? = some (.val (jE E v)) :=
  hl.2.2 (i, jE E v) (List.mem_map.mpr ⟨(i, v), jGet_mem h, rfl⟩)
theorem jSto1_map {E : Nat → Nat} (l : jL) (i : Nat) (v : Value) : (jSto1 l i v).map (jEl E) = (i, jE E v) :: (l.map (jEl E)).filter (fun q => !(q.1 == i) && !(q.1 + 1 == i && q.2.category == 2)) := by
  simp only [jSto1, List.map_cons, List.filter_map]
  congr 2
  apply List.filter_congr
  intro q _
  simp [jEl, Function.comp, jE_cat]
theorem jSto2_map {E : Nat → Nat} (l : jL) (i : Nat) (v : Value) : (jSto2 l i v).map (jEl E) = (i, jE E v) :: (l.map (jEl E)).filter (fun q => !(q.1 == i) && (!(q.1 == i + 1) && !(q.1 + 1 == i && q.2.category == 2))) := by
  simp only [jSto2, List.map_cons, List.filter_map]
  congr 2
  apply List.filter_congr
  intro q _
  simp [jEl, Function.comp, jE_cat]
theorem jTgt_eq {pc : Nat} {o : Int} {t : Nat} (h : jTgt pc o = some t) : (pc : Int) + o = (t : Int) := by
  unfold jTgt at h
  split at h
  · cases h
  · cases h
    rw [Int.toNat_of_nonneg (by omega)]
section JF
variable {p : Program} {l : Launch} {e : Env} {R : Room} {s : State} {m : MethodId} {args : Array Value} {below : List Frame} {meth : Method} {c : Code} {H : Heap} {locs : List Loc} {cells slots : Nat} {Q : State → Prop}
variable {cc : ByteArray} {pc : Nat} {ls : Array Slot} {rest : List Value}
theorem jr_aload_n (hexec : p.tables.exec = Jvm.exec) (hb : c.code = cc) {k : Fin 4} {v : Value} (hdg : decode cc pc = .ok (.aload_n k, 1)) (hl : ls[k.val]? = some (.val v)) (hv : v.isRef = true)
    (k : W p l e R s m args below meth c H locs cells slots Q (F0 m (pc + 1) ls (v :: rest))) : W p l e R s m args below meth c H locs cells slots Q (F0 m pc ls rest) := by
  cases v with
  | ref x => exact lv_aload_n hexec hb hdg rfl hl k
  | null =>
    intro T hT X
    obtain ⟨t, a, b⟩ := k T hT X
    refine ⟨t, ?_, b⟩
    jvm_step X.here [X.here.top, hexec, hb, hdg, hl, Value.isRef]
    exact a
  | _ => simp [Value.isRef] at hv
theorem jr_aload (hexec : p.tables.exec = Jvm.exec) (hb : c.code = cc) {i : Nat} {v : Value} (hdg : decode cc pc = .ok (.aload i, 2)) (hl : ls[i]? = some (.val v)) (hv : v.isRef = true)
    (k : W p l e R s m args below meth c H locs cells slots Q (F0 m (pc + 2) ls (v :: rest))) : W p l e R s m args below meth c H locs cells slots Q (F0 m pc ls rest) := by
  cases v with
  | ref x => exact lv_aload hexec hb hdg hl k
  | null =>
    intro T hT X
    obtain ⟨t, a, b⟩ := k T hT X
    refine ⟨t, ?_, b⟩
    jvm_step X.here [X.here.top, hexec, hb, hdg, hl, Value.isRef]
    exact a
  | _ => simp [Value.isRef] at hv
theorem jr_astore_n (hexec : p.tables.exec = Jvm.exec) (hb : c.code = cc) {k : Fin 4} {nL : Nat} {v : Value} {lv lv' : List (Nat × Value)} (hdg : decode cc pc = .ok (.astore_n k, 1)) (hv : v.isRef = true) (h : lv_has ls nL lv) (hn : k.val < nL) (hl : (k.val, v) :: lv.filter (fun q => !(q.1 == k.val) && !(q.1 + 1 == k.val && q.2.category == 2)) = lv')
    (kk : ∀ ls' : Array Slot, lv_has ls' nL lv' → W p l e R s m args below meth c H locs cells slots Q (F0 m (pc + 1) ls' rest)) : W p l e R s m args below meth c H locs cells slots Q (F0 m pc ls (v :: rest)) := by
  cases v with
  | ref x => exact lv_astore_n hexec hb hdg rfl h hn hl kk
  | null => exact lv_astore_nN hexec hb hdg rfl h hn hl kk
  | _ => simp [Value.isRef] at hv
theorem jr_astore (hexec : p.tables.exec = Jvm.exec) (hb : c.code = cc) {i nL : Nat} {v : Value} {lv lv' : List (Nat × Value)} (hdg : decode cc pc = .ok (.astore i, 2)) (hv : v.isRef = true) (h : lv_has ls nL lv) (hn : i < nL) (hl : (i, v) :: lv.filter (fun q => !(q.1 == i) && !(q.1 + 1 == i && q.2.category == 2)) = lv')
    (kk : ∀ ls' : Array Slot, lv_has ls' nL lv' → W p l e R s m args below meth c H locs cells slots Q (F0 m (pc + 2) ls' rest)) : W p l e R s m args below meth c H locs cells slots Q (F0 m pc ls (v :: rest)) := by
  cases v with
  | ref x => exact lv_astore hexec hb hdg h hn hl kk
  | null => exact lv_astoreN hexec hb hdg h hn hl kk
  | _ => simp [Value.isRef] at hv
theorem jr_iinc (hexec : p.tables.exec = Jvm.exec) (hb : c.code = cc) {i nL : Nat} {n : Int} {x : Int32} {lv lv' : List (Nat × Value)} (hdg : decode cc pc = .ok (.iinc i n, 3)) (h : lv_has ls nL lv) (hg : ls[i]? = some (.val (.int x))) (hn : i < nL) (hl : (i, Value.int (x + Int32.ofInt n)) :: lv.filter (fun q => !(q.1 == i) && !(q.1 + 1 == i && q.2.category == 2)) = lv')
    (kk : ∀ ls' : Array Slot, lv_has ls' nL lv' → W p l e R s m args below meth c H locs cells slots Q (F0 m (pc + 3) ls' rest)) : W p l e R s m args below meth c H locs cells slots Q (F0 m pc ls rest) := by
  obtain ⟨ls', e', h'⟩ := lv_store1 (v := .int (x + Int32.ofInt n)) h hn rfl
  intro T hT X
  obtain ⟨t, a, b⟩ := kk ls' (hl ▸ h') T hT X
  refine ⟨t, ?_, b⟩
  jvm_step X.here [X.here.top, ↓top_set X.here.top, hexec, hb, hdg, hg, e']
  exact a
set_option maxHeartbeats 4000000 in
theorem js_load {E : Nat → Nat} (hx : p.tables.exec = Jvm.exec) (hb : c.code = cc) {i : Instr} {n mx : Nat} {lc : jL} {st : List Value} {r : Nat × jL × List Value} (hd : decode cc pc = .ok (i, n)) (hl : lv_has ls mx (lc.map (jEl E))) (h : jLoad i n pc mx lc st = some r)
    (k : ∀ ls', lv_has ls' mx (r.2.1.map (jEl E)) → W p l e R s m args below meth c H locs cells slots Q (F0 m r.1 ls' (r.2.2.map (jE E)))) : W p l e R s m args below meth c H locs cells slots Q (F0 m pc ls (st.map (jE E))) := by
  unfold jLoad at h
  split at h
  · split at h
    · split at h
      · rename_i hg hr
        cases h
        exact jr_aload_n hx hb hd (jGet_at hl hg) (jE_ref hr) (k ls hl)
      · cases h
    · cases h
  · split at h
    · split at h
      · rename_i hg hr
        cases h
        exact jr_aload hx hb hd (jGet_at hl hg) (jE_ref hr) (k ls hl)
      · cases h
    · cases h
  · split at h
    · rename_i hg
      cases h
      exact lv_iload_n hx hb hd rfl (jGet_at hl hg) (k ls hl)
    · cases h
  · split at h
    · rename_i hg
      cases h
      exact lv_iload hx hb hd (jGet_at hl hg) (k ls hl)
    · cases h
  · split at h
    · rename_i hg
      cases h
      exact lv_lload_n hx hb hd rfl (jGet_at hl hg) (k ls hl)
    · cases h
  · split at h
    · rename_i hg
      cases h
      exact lv_lload hx hb hd (jGet_at hl hg) (k ls hl)
    · cases h
  · split at h
    · rename_i hc
      simp only [Bool.and_eq_true, decide_eq_true_eq] at hc
      cases h
      exact jr_astore_n hx hb hd (jE_ref hc.1) hl hc.2 (jSto1_map _ _ _).symm k
    · cases h
  · split at h
    · rename_i hc
      simp only [Bool.and_eq_true, decide_eq_true_eq] at hc
      cases h
      exact jr_astore hx hb hd (jE_ref hc.1) hl hc.2 (jSto1_map _ _ _).symm k
    · cases h
  · split at h
    · rename_i hc
      cases h
      exact lv_istore_n hx hb hd rfl hl hc (jSto1_map lc _ (.int _)).symm k
    · cases h
  · split at h
    · rename_i hc
      cases h
      exact lv_istore hx hb hd hl hc (jSto1_map lc _ (.int _)).symm k
    · cases h
  · split at h
    · rename_i hc
      cases h
      exact lv_lstore_n hx hb hd rfl hl hc (jSto2_map lc _ (.long _)).symm k
    · cases h
  · split at h
    · rename_i hc
      cases h
      exact lv_lstore hx hb hd hl hc (jSto2_map lc _ (.long _)).symm k
    · cases h
  · split at h
    · split at h
      · rename_i hg hc
        cases h
        exact jr_iinc hx hb hd hl (jGet_at hl hg) hc (jSto1_map lc _ (.int _)).symm k
      · cases h
    · cases h
  · cases h
set_option maxHeartbeats 4000000 in
theorem js_arith {E : Nat → Nat} (hx : p.tables.exec = Jvm.exec) (hb : c.code = cc) {i : Instr} {n : Nat} {st r : List Value} (hd : decode cc pc = .ok (i, n)) (h : jArith i n st = some r)
    (k : W p l e R s m args below meth c H locs cells slots Q (F0 m (pc + n) ls (r.map (jE E)))) : W p l e R s m args below meth c H locs cells slots Q (F0 m pc ls (st.map (jE E))) := by
  unfold jArith at h
  split at h
  · cases h; exact lv_iconst hx hb hd rfl k
  · cases h; exact lv_bipush hx hb hd rfl k
  · cases h; exact lv_sipush hx hb hd rfl k
  · cases h; exact lv_lconst hx hb hd rfl k
  · cases h; exact lv_null hx hb hd k
  · cases h; exact lv_iadd hx hb hd k
  · cases h; exact lv_isub hx hb hd k
  · cases h; exact lv_imul hx hb hd k
  · split at h
    · cases h
    · rename_i h0; cases h; exact lv_idiv hx hb hd h0 k
  · split at h
    · cases h
    · rename_i h0; cases h; exact lv_irem hx hb hd h0 k
  · cases h; exact lv_ineg hx hb hd k
  · cases h; exact lv_iand hx hb hd k
  · cases h; exact lv_ior hx hb hd k
  · cases h; exact lv_ixor hx hb hd k
  · cases h; exact lv_ishl hx hb hd k
  · cases h; exact lv_ishr hx hb hd k
  · cases h; exact lv_iushr hx hb hd rfl k
  · cases h; exact lv_ladd hx hb hd k
  · cases h; exact lv_lsub hx hb hd k
  · cases h; exact lv_lmul hx hb hd k
  · cases h; exact W.lcmp hx hb hd k
  · cases h; exact lv_i2l hx hb hd rfl k
  · cases h; exact lv_l2i hx hb hd rfl k
  · cases h; exact lv_i2b hx hb hd rfl k
  · cases h; exact lv_i2c hx hb hd rfl k
  · split at h
    · rename_i hc; cases h; exact lv_dup hx hb hd ((jE_cat _).trans hc) k
    · cases h
  · split at h
    · rename_i hc; cases h; exact lv_pop hx hb hd ((jE_cat _).trans hc) k
    · cases h
  · split at h
    · rename_i hc; cases h; exact lv_dup2_11 hx hb hd ((jE_cat _).trans hc.1) ((jE_cat _).trans hc.2) k
    · cases h
  · cases h
/-- any condition of a branch -/
theorem jr_ifc (hexec : p.tables.exec = Jvm.exec) (hb : c.code = cc) {cd : ClassFile.Cond} {x : Int32} {off : Int} {tgt : Nat} (hdg : decode cc pc = .ok (.ifCond cd off, 3)) (ht : (pc : Int) + off = (tgt : Int)) (hh : Op.ifCond.holds cd x = true)
    (k : W p l e R s m args below meth c H locs cells slots Q (F0 m tgt ls rest)) : W p l e R s m args below meth c H locs cells slots Q (F0 m pc ls (.int x :: rest)) := by
  intro T hT X
  obtain ⟨t, a, b⟩ := k T hT X
  refine ⟨t, ?_, b⟩
  jvm_step X.here [X.here.top, hexec, hb, hdg, hh, ht]
  exact a
theorem jr_ifcN (hexec : p.tables.exec = Jvm.exec) (hb : c.code = cc) {cd : ClassFile.Cond} {x : Int32} {off : Int} (hdg : decode cc pc = .ok (.ifCond cd off, 3)) (hh : ¬ Op.ifCond.holds cd x = true)
    (k : W p l e R s m args below meth c H locs cells slots Q (F0 m (pc + 3) ls rest)) : W p l e R s m args below meth c H locs cells slots Q (F0 m pc ls (.int x :: rest)) := by
  intro T hT X
  obtain ⟨t, a, b⟩ := k T hT X
  refine ⟨t, ?_, b⟩
  jvm_step X.here [X.here.top, hexec, hb, hdg, hh]
  exact a
theorem jr_icmp (hexec : p.tables.exec = Jvm.exec) (hb : c.code = cc) {cd : ClassFile.Cond} {x y : Int32} {off : Int} {tgt : Nat} (hdg : decode cc pc = .ok (.if_icmp cd off, 3)) (ht : (pc : Int) + off = (tgt : Int)) (hh : Op.if_icmp.holds cd x y = true)
    (k : W p l e R s m args below meth c H locs cells slots Q (F0 m tgt ls rest)) : W p l e R s m args below meth c H locs cells slots Q (F0 m pc ls (.int y :: .int x :: rest)) := by
  intro T hT X
  obtain ⟨t, a, b⟩ := k T hT X
  refine ⟨t, ?_, b⟩
  jvm_step X.here [X.here.top, hexec, hb, hdg, hh, ht]
  exact a
theorem jr_icmpN (hexec : p.tables.exec = Jvm.exec) (hb : c.code = cc) {cd : ClassFile.Cond} {x y : Int32} {off : Int} (hdg : decode cc pc = .ok (.if_icmp cd off, 3)) (hh : ¬ Op.if_icmp.holds cd x y = true)
    (k : W p l e R s m args below meth c H locs cells slots Q (F0 m (pc + 3) ls rest)) : W p l e R s m args below meth c H locs cells slots Q (F0 m pc ls (.int y :: .int x :: rest)) := by
  intro T hT X
  obtain ⟨t, a, b⟩ := k T hT X
  refine ⟨t, ?_, b⟩
  jvm_step X.here [X.here.top, hexec, hb, hdg, hh]
  exact a
theorem jr_asRef {v : Value} (h : v.isRef = true) : ∃ o : Option Nat, v = va_rf o := by
  cases v with
  | ref x => exact ⟨some x, rfl⟩
  | null => exact ⟨none, rfl⟩
  | _ => simp [Value.isRef] at h
theorem jr_rfInj {a b : Option Nat} : va_rf a = va_rf b ↔ a = b := by
  cases a <;> cases b <;> simp [va_rf]
theorem jr_acmpN (hexec : p.tables.exec = Jvm.exec) (hb : c.code = cc) {rx ry : Option Nat} {off : Int} (hdg : decode cc pc = .ok (.if_acmp .eq off, 3)) (hP : ¬ rx = ry)
    (k : W p l e R s m args below meth c H locs cells slots Q (F0 m (pc + 3) ls rest)) : W p l e R s m args below meth c H locs cells slots Q (F0 m pc ls (va_rf ry :: va_rf rx :: rest)) := by
  intro T hT X
  obtain ⟨t, a, b⟩ := k T hT X
  refine ⟨t, ?_, b⟩
  cases rx with
  | none => cases ry with
    | none => exact absurd rfl hP
    | some y => jvm_step X.here [X.here.top, hexec, hb, hdg, va_rf, Value.asRef?, Op.if_acmp.holds]; exact a
  | some x => cases ry with
    | none => jvm_step X.here [X.here.top, hexec, hb, hdg, va_rf, Value.asRef?, Op.if_acmp.holds]; exact a
    | some y =>
      have hxy : ¬ x = y := fun q => hP (by rw [q])
      jvm_step X.here [X.here.top, hexec, hb, hdg, va_rf, Value.asRef?, Op.if_acmp.holds, hxy]; exact a
theorem jr_acmpNN (hexec : p.tables.exec = Jvm.exec) (hb : c.code = cc) {rx ry : Option Nat} {off : Int} (hdg : decode cc pc = .ok (.if_acmp .ne off, 3)) (hP : rx = ry)
    (k : W p l e R s m args below meth c H locs cells slots Q (F0 m (pc + 3) ls rest)) : W p l e R s m args below meth c H locs cells slots Q (F0 m pc ls (va_rf ry :: va_rf rx :: rest)) := by
  intro T hT X
  obtain ⟨t, a, b⟩ := k T hT X
  refine ⟨t, ?_, b⟩
  subst hP
  cases rx <;> (jvm_step X.here [X.here.top, hexec, hb, hdg, va_rf, Value.asRef?, Op.if_acmp.holds]; exact a)
theorem jr_offs {ps : List (Int × Int)} {d x o : Int} (h : (match ps.find? (fun q => q.1 == x) with | some q => q.2 | none => d) = o) : Op.lookupswitch.offset ps d x = o := by
  rw [← h]
  clear h
  induction ps with
  | nil => rfl
  | cons q ps ih =>
    rw [Op.lookupswitch.offset_cons]
    by_cases hq : q.1 = x
    · simp [hq]
    · simp [hq, ih]
theorem jE_inj {base : Nat} {E : Nat → Nat} (hE : jEok base E) {v w : Value} (hv : jIsO v = true) (hw : jIsO w = true) : jE E w = jE E v ↔ w = v := by
  have hk : ∀ a, 64 ≤ a → E a = base + (a - 64) := fun a h => by
    have := hE (a - 64)
    rwa [show 64 + (a - 64) = a by omega] at this
  have hh : ∀ a b : Nat, 64 ≤ a → 64 ≤ b → base + (b - 64) = base + (a - 64) → b = a := fun a b _ _ _ => by omega
  cases v with
  | ref a =>
    have ha : 64 ≤ a := by simpa [jIsO] using hv
    cases w with
    | ref b =>
      have hb : 64 ≤ b := by simpa [jIsO] using hw
      show Value.ref (E b) = Value.ref (E a) ↔ _
      rw [hk a ha, hk b hb]
      constructor
      · intro z
        exact congrArg Value.ref (hh a b ha hb (Value.ref.inj z))
      · intro z
        rw [Value.ref.inj z]
    | null => simp [jE]
    | _ => simp [jIsO] at hw
  | null => cases w with
    | ref b => simp [jE]
    | null => simp
    | _ => simp [jIsO] at hw
  | _ => simp [jIsO] at hv
set_option maxHeartbeats 4000000 in
theorem js_branch {base : Nat} {E : Nat → Nat} (hE : jEok base E) (hx : p.tables.exec = Jvm.exec) (hb : c.code = cc) {i : Instr} {n : Nat} {st : List Value} {r : Nat × List Value} (hd : decode cc pc = .ok (i, n)) (h : jBranch i n pc st = some r)
    (k : W p l e R s m args below meth c H locs cells slots Q (F0 m r.1 ls (r.2.map (jE E)))) : W p l e R s m args below meth c H locs cells slots Q (F0 m pc ls (st.map (jE E))) := by
  unfold jBranch at h
  split at h
  · split at h
    · rename_i hh
      obtain ⟨t, ht, rfl⟩ := Option.map_eq_some_iff.mp h
      exact jr_ifc hx hb hd (jTgt_eq ht) hh k
    · rename_i hh; cases h; exact jr_ifcN hx hb hd hh k
  · split at h
    · rename_i hh
      obtain ⟨t, ht, rfl⟩ := Option.map_eq_some_iff.mp h
      exact jr_icmp hx hb hd (jTgt_eq ht) hh k
    · rename_i hh; cases h; exact jr_icmpN hx hb hd hh k
  · split at h
    · rename_i v w st hr
      simp only [Bool.and_eq_true] at hr
      obtain ⟨ov, hv⟩ := jr_asRef (jE_ref (jIsO_R hr.1))
      obtain ⟨ow, hw⟩ := jr_asRef (jE_ref (jIsO_R hr.2))
      have hi := jE_inj hE hr.1 hr.2
      rw [hv, hw, jr_rfInj] at hi
      simp only [List.map_cons, hv, hw]
      split at h
      · rename_i hq
        obtain ⟨t, ht, rfl⟩ := Option.map_eq_some_iff.mp h
        exact lv_acmp_eq hx hb hd (jTgt_eq ht) (fun _ => k) (fun z => absurd (hi.mpr hq) z)
      · rename_i hq
        cases h
        exact jr_acmpN hx hb hd (fun z => hq (hi.mp z)) k
    · cases h
  · split at h
    · rename_i v w st hr
      simp only [Bool.and_eq_true] at hr
      obtain ⟨ov, hv⟩ := jr_asRef (jE_ref (jIsO_R hr.1))
      obtain ⟨ow, hw⟩ := jr_asRef (jE_ref (jIsO_R hr.2))
      have hi := jE_inj hE hr.1 hr.2
      rw [hv, hw, jr_rfInj] at hi
      simp only [List.map_cons, hv, hw]
      split at h
      · rename_i hq
        cases h
        exact jr_acmpNN hx hb hd (hi.mpr hq) k
      · rename_i hq
        obtain ⟨t, ht, rfl⟩ := Option.map_eq_some_iff.mp h
        exact lv_acmp_ne hx hb hd (jTgt_eq ht) (fun _ => k) (fun z => absurd (hi.mp z) hq)
    · cases h
  · obtain ⟨t, ht, rfl⟩ := Option.map_eq_some_iff.mp h
    exact lv_ifnullN hx hb hd (jTgt_eq ht) k
  · cases h
    exact lv_ifnull hx hb hd k
  · cases h; exact lv_ifnonnullN hx hb hd k
  · obtain ⟨t, ht, rfl⟩ := Option.map_eq_some_iff.mp h
    exact lv_ifnonnull hx hb hd (jTgt_eq ht) k
  · obtain ⟨t, ht, rfl⟩ := Option.map_eq_some_iff.mp h
    exact lv_goto hx hb hd (jTgt_eq ht) k
  · split at h
    · rename_i hq
      obtain ⟨t, ht, rfl⟩ := Option.map_eq_some_iff.mp h
      exact lv_tableOut hx hb hd hq (jTgt_eq ht) k
    · rename_i hq
      split at h
      · rename_i ho
        obtain ⟨t, ht, rfl⟩ := Option.map_eq_some_iff.mp h
        exact lv_tableIn hx hb hd (fun z => hq (Or.inl z)) (fun z => hq (Or.inr z)) ho (jTgt_eq ht) k
      · cases h
  · split at h
    · rename_i hp
      split at h
      · rename_i q hq
        obtain ⟨t, ht, rfl⟩ := Option.map_eq_some_iff.mp h
        exact lv_lookup hx hb hd hp (jr_offs (o := q.2) (by rw [← Array.find?_toList, ] at hq; rw [hq])) (jTgt_eq ht) k
      · rename_i hq
        obtain ⟨t, ht, rfl⟩ := Option.map_eq_some_iff.mp h
        exact lv_lookup hx hb hd hp (jr_offs (by rw [← Array.find?_toList] at hq; rw [hq])) (jTgt_eq ht) k
    · cases h
  · cases h
end JF
