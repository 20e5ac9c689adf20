/-! contracts of J's runs, and calls by them -/
def jRm (d mc ms : Nat) : Room := { frames := 16 + d, cells := mc, slots := ms, locals := 600 + 64 * d }
def jTn : String := "java/lang/Throwable"
/-- the bytes of a text -/
def jByt (q : Nat × Nat × String) (j : Nat) : Value := .int (Int32.ofNat ((q.2.2.toList.getD j 'A').toNat))
/-- a static field is laid: as the word says it, over a heap of its own -/
def jLs (C n d : String) (A : Nat → Prop) (U : State) (H : Heap) : Prop := ∃ c k i f a cell, U.vm.findClass C = some c ∧ U.fieldFound? C n d = some (c, k, i, f) ∧ f.isStatic = true ∧ k.statics = some a ∧ H[a]? = some cell ∧ cell.vm.isStatics = true ∧ cell.cls = c ∧ f.slot < cell.slots.size ∧ k.staticTypes[f.slot]? = some f.type ∧ ¬ A a
theorem jLs.go {C n d : String} {A : Nat → Prop} {u U : State} {H H1 : Heap} (hvm : u.vm.Alike U.vm) (hq : ∀ a : Nat, a < H.size → ¬ A a → H1[a]? = H[a]?) (h : jLs C n d A u H) : jLs C n d A U H1 := by
  obtain ⟨c, k, i, f, a, cell, h1, h2, h3, h4, h5, h6, h7, h8, h9, h10⟩ := h
  obtain ⟨k', hi', he⟩ := State.fieldFound?_setVm hvm h2
  exact ⟨c, k', i, f, a, cell, by rw [hvm.findClass]; exact h1, hi', h3, by rw [he]; exact h4, by rw [hq a (Array.getElem?_eq_some_iff.mp h5).1 h10]; exact h5, h6, h7, h8, by rw [he]; exact h9, h10⟩
theorem jLs.use {C n d : String} {A : Nat → Prop} {U : State} {a' : Array Value} (h : jLs C n d A U U.heap) : (Cond.laysStatic C n d).before a' U = true := by
  obtain ⟨c, k, i, f, a, cell, h1, h2, h3, h4, h5, h6, h7, h8, h9, h10⟩ := h
  simp [Cond.before, Cond.holds, Cond.value, h1, h2, h3, h4, h5, h6, h7, h8, h9]
theorem jLs.of {C n d : String} {A : Nat → Prop} {U : State} {a' : Array Value} (h : (Cond.laysStatic C n d).before a' U = true) (hA : ∀ a : Nat, a < U.heap.size → ¬ A a) : jLs C n d A U U.heap := by
  obtain ⟨c, k, i, f, a, cell, h1, h2, h3, h4, h5, h6, h7, h8, h9⟩ := Cond.laysStatic_spec h
  exact ⟨c, k, i, f, a, cell, h1, h2, h3, h4, h5, h6, h7, h8, h9, hA a (Array.getElem?_eq_some_iff.mp h5).1⟩
/-- constructors that the exceptions' pass on to -/
def jDl : List MethodName := [⟨"java/lang/RuntimeException", "<init>", "(Ljava/lang/String;)V"⟩, ⟨"java/lang/Exception", "<init>", "(Ljava/lang/String;)V"⟩, ⟨"java/lang/Throwable", "<init>", "(Ljava/lang/String;)V"⟩]
/-- what lies outside the heap of the run: the script, the texts, two statics of Throwable's -/
def jOu (E : Nat → Nat) (base : Nat) (X : jX) (U : State) (H : Heap) : Prop :=
  (∀ c c', 13 ≤ c → c < 18 → 13 ≤ c' → c' < 18 → c' ≠ c → va_Nc (jnm c) (jnm c') U) ∧ (∀ c kd, jOver c = some kd → va_AO (jnm c) U) ∧ (∀ o k f, jFind jCl o k = some (3, f) → ∀ e, jMs[f.1]? = some e → va_Nw (.methodLinkNest (jnm o) k e.1 (jnm 0)) U) ∧ va_X (E 63) X.1 X.2 U H ∧ E 63 < base ∧ (∀ i q, jSt[i]? = some q → vk_R (jnm q.1) q.2.1 q.2.2 (E i) U) ∧
  va_Zq jTn "UNASSIGNED_STACK" "[Ljava/lang/StackTraceElement;" (jAb base) U H ∧ va_Zq jTn "SUPPRESSED_SENTINEL" "Ljava/util/List;" (jAb base) U H ∧
  ((∀ i q, jSt[i]? = some q → va_O "java/lang/String" (E i) (jAb base) U H ∧ va_OF "java/lang/String" "coder" "B" (.int 0) (E i) (jAb base) U H ∧ va_OF "java/lang/String" "value" "[B" (.ref (E (31 + i))) (E i) (jAb base) U H ∧ va_T .byte (E (31 + i)) q.2.2.length (jByt q) (jAb base) U H) ∧ va_Z "java/lang/String" "COMPACT_STRINGS" "Z" (.int 1) (jAb base) U H ∧ va_Zq "jdk/internal/util/Preconditions" "SIOOBE_FORMATTER" "Ljava/util/function/BiFunction;" (jAb base) U H) ∧
  jLs jTn "UNASSIGNED_STACK" "[Ljava/lang/StackTraceElement;" (jAb base) U H ∧ jLs jTn "SUPPRESSED_SENTINEL" "Ljava/util/List;" (jAb base) U H ∧ ∀ y ∈ jDl, va_Nw (.declares y) U
theorem jOu.go {E : Nat → Nat} {base : Nat} {X : jX} {u U : State} {H H1 : Heap} (h : jOu E base X u H) (hb : base ≤ H.size) (hW : u.WarmedH U.vm) (hq : ∀ a : Nat, a < H.size → ¬ jAb base a → H1[a]? = H[a]?) : jOu E base X U H1 := by
  obtain ⟨h00, h01, h02, h1, h2, h3, h4, h5, h6, h7, h8, h9⟩ := h
  refine ⟨fun c c' z1 z2 z3 z4 z5 => (h00 c c' z1 z2 z3 z4 z5).moved hW.alike, fun c kd z => (h01 c kd z).moved hW.alike, fun o k f z e y => va_Nw.warmM hW (h02 o k f z e y), va_X.moved hW.alike (h1.kept (hq _ (by omega) (by show ¬ base ≤ E 63; omega))), h2, fun i q hi => (h3 i q hi).warm hW, va_Zq.moved hW.alike (h4.kept hq), va_Zq.moved hW.alike (h5.kept hq), ⟨fun i q hi => ?_, va_Z.moved hW.alike (h6.2.1.kept hq), va_Zq.moved hW.alike (h6.2.2.kept hq)⟩, jLs.go hW.alike hq h7, jLs.go hW.alike hq h8, fun y hy => va_Nw.warmD hW (h9 y hy)⟩
  obtain ⟨g1, g2, g3, g4⟩ := h6.1 i q hi
  exact ⟨va_O.moved hW.alike (g1.kept hq), va_OF.moved hW.alike (g2.kept hq), va_OF.moved hW.alike (g3.kept hq), va_T.moved hW.alike (g4.kept hq)⟩
def jU (E : Nat → Nat) (dA : Nat → ClassId) (D : va_G) (base : Nat) (X : jX) (V : jH) (U : State) : Prop :=
  U.heap.size = base + V.length ∧ va_P D jCs (jw E dA base V) U.heap ∧ va_K D jCs (jTs dA) U ∧ jOu E base X U U.heap
def jOut (E : Nat → Nat) (o : jO) : Outcome := match o with
  | .inl v => .returned (v.map (jE E))
  | .inr a => .threw (E a)
def jFr (st t : State) (L : List Loc) (k n : Nat) : Prop := st.WarmedH t.vm ∧ st.sameButNew ({ t with vm := st.vm } : State) L k n
/-- the end of a run with V' on the heap -/
def jEnd (E : Nat → Nat) (dA : Nat → ClassId) (D : va_G) (base : Nat) (V' : jH) (mc ms : Nat) (st t : State) : Prop :=
  (t.heap.size = base + V'.length ∧ va_P D jCs (jw E dA base V') t.heap ∧ va_F (jAb base) st t) ∧ ∃ L, jFr st t L mc ms ∧ ∀ q ∈ L, jAb base q.base
def jMet (l : Launch) (E : Nat → Nat) (dA : Nat → ClassId) (D : va_G) (base : Nat) (X : jX) (d : Nat) (f : jM) (as : List Value) (V : jH) (o : jO) (V' : jH) : Prop :=
  MetFree l f.1 (headSpec (jCw f :: lw_g) (jRm d (V'.length - V.length) (jSl V' - jSl V))) (va_Pc (as.map (jE E)) (jU E dA D base X V)) (fun _ _ _ _ _ => True)
    (fun _ st oc t => oc = jOut E o ∧ jEnd E dA D base V' (V'.length - V.length) (jSl V' - jSl V) st t)
/-- a method's own word, read -/
theorem jCw_spec {f : jM} {a : Array Value} {U : State} {mk : MethodId} (hn : U.methodNamed? f.1 = some mk) (h : (jCw f).before a U = true) :
    ∃ meth c, U.vm.method? mk = some meth ∧ meth.code = some c ∧ c.code = f.2.2.1 ∧ c.maxLocals = f.2.2.2.1 ∧ meth.sig.returnType = f.2.2.2.2.1 ∧ meth.locks = false ∧
      c.exceptionTable.toList.map (fun h => (h.startPc, h.endPc, h.handlerPc, h.catchType)) = f.2.2.2.2.2.1 ∧ parseMethodDescriptor f.1.desc = some meth.sig := by
  unfold jCw at h
  split at h
  · rename_i hh
    obtain ⟨meth, c, h1, h2, h3, h4, h5, h6, h7, h8⟩ := Cond.code_spec hn h
    refine ⟨meth, c, h1, h2, h3, h4, h5, h6, ?_, h8⟩
    rw [hh]
    have : c.exceptionTable = #[] := by simpa using h7
    rw [this]
    rfl
  · rename_i x xs hh
    obtain ⟨m9, meth, c, hn9, h1, h2, h3, h4, h7, h5, h6, h8⟩ := Cond.codeWith_spec h
    cases hn.symm.trans hn9
    exact ⟨meth, c, h1, h2, h3, h4, h5, h6, by rw [hh]; exact h7, h8⟩
