/-! links to the exceptions' constructors (by program) -/
def jWe (o : Nat) : List Cond := (jCl.getD o []).filterMap (fun q => if q.2.1 = 5 then some (.methodLink (jnm o) q.1 (Bundle.initS (jnm q.2.2.1))) else none)
set_option maxRecDepth 100000 in
theorem jWe0 : jWe 0 = jTp [(6, 225), (7, 1), (7, 42), (7, 57), (7, 82)] := by decide +kernel
set_option maxRecDepth 100000 in
theorem jWe8 : jWe 8 = jTp [(3, 78)] := by decide +kernel
theorem jWe_ok : ∀ c, ∀ w ∈ jWe c, w ∈ lw_tbl := fun c => match c with
  | 0 => jMem _ jWe0
  | 1 => fun _ h => absurd h (by simp [jWe, jCl, jCl1])
  | 2 => fun _ h => absurd h (by simp [jWe, jCl, jCl2])
  | 3 => fun _ h => absurd h (by simp [jWe, jCl, jCl3])
  | 4 => fun _ h => absurd h (by simp [jWe, jCl, jCl4])
  | 5 => fun _ h => absurd h (by simp [jWe, jCl, jCl5])
  | 6 => fun _ h => absurd h (by simp [jWe, jCl, jCl6])
  | 7 => fun _ h => absurd h (by simp [jWe, jCl, jCl7])
  | 8 => jMem _ jWe8
  | 9 => fun _ h => absurd h (by simp [jWe, jCl, jCl9])
  | 10 => fun _ h => absurd h (by simp [jWe, jCl, jCl10])
  | 11 => fun _ h => absurd h (by simp [jWe, jCl, jCl11])
  | 12 => fun _ h => absurd h (by simp [jWe, jCl, jCl12])
  | 13 => fun _ h => absurd h (by simp [jWe, jCl, jCl13])
  | 14 => fun _ h => absurd h (by simp [jWe, jCl, jCl14])
  | 15 => fun _ h => absurd h (by simp [jWe, jCl, jCl15])
  | 16 => fun _ h => absurd h (by simp [jWe, jCl, jCl16])
  | 17 => fun _ h => absurd h (by simp [jWe, jCl, jCl17])
  | 18 => fun _ h => absurd h (by simp [jWe, jCl, jCl18])
  | 19 => fun _ h => absurd h (by simp [jWe, jCl, jCl19])
  | 20 => fun _ h => absurd h (by simp [jWe, jCl, jCl20])
  | n + 21 => fun _ h => absurd h (by simp [jWe, jCl])
theorem jWe_link {o i c na : Nat} (h : jFind jCl o i = some (5, c, na)) : Cond.methodLink (jnm o) i (Bundle.initS (jnm c)) ∈ lw_tbl := jWe_ok o _ (List.mem_filterMap.mpr ⟨_, jFind_mem h, rfl⟩)
section JX
variable {p : Program} {l : Launch} {e : Env} {R : Room} {s : State} {m : MethodId} {args : Array Value} {below : List Frame} {meth : Method} {c : Code}
variable {E : Nat → Nat} {base : Nat} {X : jX} {T : State} {locs : List Loc} {cells slots : Nat}
theorem ja_static {C n d : String} {A : Nat → Prop} {c' i a : Nat} {k : Class} {fd : Field} {cell : Cell} (h : va_Zq C n d A s s.heap) (hf : s.fieldFound? C n d = some (c', k, i, fd)) (ha : k.statics = some a) (hc : s.heap[a]? = some cell) : ∃ u : RefV, cell.slots[fd.slot]? = some u.v ∧ ¬ A a := by
  have go : ∀ v : Value, v.isRef = true → va_Z C n d v A s s.heap → ∃ u : RefV, cell.slots[fd.slot]? = some u.v ∧ ¬ A a := by
    rintro v hv ⟨cf, kf, fi, f2, a2, cell2, g1, g2, g3, g4, g5, g6, g7, g8⟩
    cases hf.symm.trans g1
    cases ha.symm.trans g4
    cases hc.symm.trans g5
    exact ⟨⟨v, hv⟩, g7, g8⟩
  rcases h with h | ⟨t, h⟩
  · exact go _ rfl h
  · exact go _ rfl h
set_option maxHeartbeats 4000000 in
/-- the constructor of an exception, and the athrow behind it -/
theorem ja_ctor (hx : p.tables.exec = Jvm.exec) (htr : e.platform.stackTraces = false) (Y : Stand p l e R s m args below meth c T locs cells slots) (hts : ∀ w ∈ lw_g, w.before args s = true) (hO : jOu E base X s s.heap) (hbs : base ≤ s.heap.size) (hlocs : ∀ q ∈ locs, jAb base q.base)
    {ow cn q : Nat} (hown : s.vm.findClass (jnm ow) = some m.cls) (h13 : 13 ≤ cn) (h18 : cn < 18) (hq : jFind jCl ow q = some (5, cn, 1)) {cX : ClassId} {kX : Class} (hfc : s.vm.findClass (jnm cn) = some cX) (hk : s.vm.classes[cX]? = some kX) {a : Nat} (hcell : T.heap[a]? = some (freshCell cX kX)) (hnew : s.heap.size ≤ a)
    {g : JFrame} (hg : g.method = m) (hsize : g.locals.size = c.maxLocals) (hlocked : g.locked = none) (hentered : g.entered = []) (hlocks : meth.locks = false) {msg : Nat} {rest : List Value} (hstack : g.stack = .ref msg :: .ref a :: .ref a :: rest)
    (hd6 : decode c.code g.pc = .ok (.invokespecial q, 3)) (hd9 : decode c.code (g.pc + 3) = .ok (.athrow, 1)) (hout : c.exceptionTable.toList = []) (hRf : 17 ≤ R.frames) (hRl : 2 * g.monitorRoom + ((Value.ref a :: rest).map fun v => v.category).sum + 200 ≤ R.locals) :
    ∃ (t : State) (cell : Cell) (L : List Loc), Steps p.tables e below (T.setTop g) t ∧ t.status = .running ∧ Ended t below (.threw a) ∧ jFr s t (locs ++ L) cells slots ∧ (∀ q ∈ L, q.base = a) ∧ t.heap[a]? = some cell ∧ cell.cls = cX ∧ cell.vm = .none ∧ t.heap.size = T.heap.size ∧ ∀ q : Nat, q ≠ a → t.heap[q]? = T.heap[q]? := by
  have howns : e.platform.frameOwnsMonitors = true := by rw [Y.admits.platform]
  have hfin : e.platform.finalization = false := by rw [Y.admits.platform]
  have hpl : e.platform.magicAccessors = ({} : Platform).magicAccessors := by rw [Y.admits.platform]
  obtain ⟨B, Z0, L, -, Ti⟩ := ThrowableC.of_atoms (args := args) howns hfin hpl (ja_th hts hO)
  obtain ⟨Z, M, LZ, LM, hnZ⟩ := Init0T.ofS_atoms (args := args) hpl L Ti (ja_tS hts)
  obtain ⟨P2, Ps, hlen, L2, hL, hP2m, hlink2, hlink⟩ := Bundle.chainS (args := args) hpl hnZ ["java/lang/Exception"] "java/lang/RuntimeException" (by decide +kernel) (by decide +kernel) (ja_up hts hO)
  obtain ⟨d0, d1, d2, d5, hplain, hmh1, hmh2⟩ := ja_six h13 h18
  obtain ⟨P1, L1, hP1m, hP1s⟩ := PassC.ofS_atoms (args := args) hpl hplain (by decide +kernel) d0 d1 d2 d5 (ja_p h13 h18 hts hO)
  have ow' : ∀ w, w ∈ jOwn (jnm cn) → w.holds args s none s [] = true := fun w hw => ja_o h13 h18 hts w hw
  have hfound : s.vm.findClass (jnm cn) = some P1.m.cls := findClass_of_methodNamed hP1m
  cases Option.some.inj (hfc.symm.trans hfound)
  have hsup : P1.sup = P2.m := Option.some.inj (hP1s.symm.trans hP2m)
  obtain ⟨c1, kX', hc1, hk1, hord, -, -, hn6⟩ := Cond.instantiable_spec (ow' (.instantiable (jnm cn) 6) (by simp [jOwn]))
  cases Option.some.inj (hc1.symm.trans hfound)
  cases Option.some.inj (hk.symm.trans hk1)
  have hsel : ∀ {y : MethodName} {mk : MethodId}, s.methodNamed? y = some mk → (y.cls ≠ "java/lang/invoke/MethodHandle" ∧ y.cls ≠ "java/lang/invoke/VarHandle") → Cond.selects (jnm cn) y y ∈ jOwn (jnm cn) → selectMethod e.platform s.vm P1.m.cls mk = .method mk := by
    intro y mk hn hy hw
    obtain ⟨c2, r2, m2, q1, q2, q3, q4, -⟩ := Cond.selects_spec (ow' _ hw)
    cases Option.some.inj (q1.symm.trans hfound)
    cases Option.some.inj (q2.symm.trans (State.methodFound?_of_named hn hy))
    cases Option.some.inj (q3.symm.trans hn)
    rw [Launch.admits_selectMethod Y.admits]
    exact q4
  have hsel0 := hsel Ti.fill0 (by decide +kernel) (by simp [jOwn])
  have hselF := hsel Ti.fill (by decide +kernel) (by simp [jOwn])
  obtain ⟨cellS0, hcS0, hiss⟩ := Ti.statics
  obtain ⟨u0, hu0, hnA⟩ := ja_static hO.2.2.2.2.2.2.1 Ti.unassigned L.statics hcS0
  obtain ⟨sen, hsen, -⟩ := ja_static hO.2.2.2.2.2.2.2.1 Ti.sentinel L.statics hcS0
  obtain ⟨cellS, hcS', heS, -, hkeep⟩ := Y.same.2.2.2.2.2 B.aS cellS0 hcS0
  have hcellS : T.heap[B.aS]? = some cellS := hcS'
  have hout' : ∀ i, (⟨B.aS, i⟩ : Loc) ∉ locs := fun i hmem => hnA (hlocs _ hmem)
  have hknownS : cellS.vm ≠ .unknown := by
    rw [heS]
    intro hu
    rw [show cellS0.vm = .unknown from hu] at hiss
    cases hiss
  have hneS : B.aS ≠ a := Nat.ne_of_lt (Nat.lt_of_lt_of_le (Array.getElem?_eq_some_iff.mp hcS0).1 hnew)
  obtain ⟨iM, hffM⟩ := Ti.msg
  have hbk := ja_bk hts
  obtain ⟨ci198, i198, fB, hk198, hg198, ha198, hsB, -, hnB, htB, hffB⟩ := Cond.ownField (t := .object "java/lang/Object") Ti.found L.cls (by decide +kernel) (hbk (.fieldLink Bundle.tN 198 Bundle.tN "backtrace" "Ljava/lang/Object;") (by simp)) (hbk (.lays Bundle.tN Bundle.tN "backtrace" "Ljava/lang/Object;") (by simp)) e.platform hpl
  obtain ⟨tyC, dC, hdC, hdnC⟩ := Cond.laysAt hfound hk Ti.cause (ow' (.lays (jnm cn) Bundle.tN "cause" "Ljava/lang/Throwable;") (by simp [jOwn]))
  obtain ⟨tyS, dS, hdS, hdnS⟩ := Cond.laysAt hfound hk Ti.stack (ow' (.lays (jnm cn) Bundle.tN "stackTrace" Bundle.steD) (by simp [jOwn]))
  obtain ⟨tyP, dP, hdP, hdnP⟩ := Cond.laysAt hfound hk Ti.supp (ow' (.lays (jnm cn) Bundle.tN "suppressedExceptions" Bundle.listD) (by simp [jOwn]))
  obtain ⟨tyM, dM, hdM, hdnM⟩ := Cond.laysAt hfound hk hffM (ow' (.lays (jnm cn) Bundle.tN "detailMessage" "Ljava/lang/String;") (by simp [jOwn]))
  obtain ⟨tyB, dB, hdB, hdnB⟩ := Cond.laysAt hfound hk hffB (ow' (.lays (jnm cn) Bundle.tN "backtrace" "Ljava/lang/Object;") (by simp [jOwn]))
  have bC := Cond.laysApart hdB hdC hdnB hdnC (by rw [hnB, Ti.causeName]; decide)
  have bS := Cond.laysApart hdB hdS hdnB hdnS (by rw [hnB, Ti.stackName]; decide)
  have bP := Cond.laysApart hdB hdP hdnB hdnP (by rw [hnB, Ti.suppName]; decide)
  have hskip : SkipFacts B e.platform s (fun u => u) u0 ((preparedCellV B.toThrowableT (freshCell P1.m.cls kX) a u0 sen).withEntry T.cur) := by
    refine ⟨{ ci198 := ci198, i198 := i198, fBack := fB }, ⟨hk198, hg198, ha198, hsB⟩, ?_, fun _ _ => rfl⟩
    have hfd := fresh_default (c := P1.m.cls) tyB
    rw [htB] at hfd
    simpa [preparedCellV, Cell.setSlot, Cell.withEntry, Array.getElem?_setIfInBounds, bC, bS, bP, bC.symm, bS.symm, bP.symm, defaultValue] using hfd
  have hpass := ja_p h13 h18 hts hO
  obtain ⟨tm, methC, cdC, kC, vm₁, hnC, -, -, -, -, -, -, -, hW₁, st1⟩ := Steps.initColdS (tb := p.tables) (e := e) (below := below) (s := s) (U := T) Y.here hx Y.warmed hpl hown (t := Bundle.initS (jnm cn)) rfl rfl ⟨hmh1, hmh2⟩
    (hts _ (lg (jWe_link hq) rfl)) (hpass (.instanceMethod (Bundle.initS (jnm cn))) (by simp [Bundle.passSAtoms])) (bytes := jSix cn) (maxL := 2) (hpass (.code (Bundle.initS (jnm cn)) (jSix cn) 2 none) (by simp [Bundle.passSAtoms]))
    (f := g) hg (a := a) (msg := .ref msg) (rest := .ref a :: rest) hstack hd6
  cases Option.some.inj (hnC.symm.trans hP1m)
  have X₁ := Y.noted hW₁
  obtain ⟨vm₂, X₂, st2⟩ := X₁.ctorMessageOffV hx (g := { g with stack := .ref a :: rest }) hg hsize B L Z LZ M LM (P1 :: P2 :: Ps)
    (fun P hP => by
      rcases List.mem_cons.mp hP with rfl | hP
      · exact L1
      · rcases List.mem_cons.mp hP with rfl | hP
        · exact L2
        · exact hL P hP) ⟨hsup, hlink2, hlink⟩ (u0 := u0) (sen := sen) (self := a) (msg := .ref msg) rfl (cell := freshCell P1.m.cls kX) (cellS := cellS)
    hcell (fun _ => by simp) (by simp) rfl rfl hsel0 hselF hcellS hneS hknownS (by rw [hkeep _ (hout' _)]; exact hu0) (by rw [hkeep _ (hout' _)]; exact hsen)
    (Takes.of_laid hk hord tyC (by rw [Ti.causeType]; rfl)) (Takes.of_laid hk hord tyS (by rw [Ti.stackType]; exact fits_refV_array _ u0)) (Takes.of_laid hk hord tyP (by rw [Ti.suppType]; exact fits_refV_object _ sen))
    (Takes.of_laid hk hord tyM (by rw [Ti.msgType]; rfl)) Ti.objLocals hskip htr [] hd6
    (by simp only [List.length_cons, hlen, List.length_nil]; omega) (by simp only [List.length_cons, hlen, List.length_nil]; omega)
  obtain ⟨hwalk, hrun, hended, hWU, hsame⟩ := X₂.athrowLeaves hx (g := { g with stack := .ref a :: rest, pc := g.pc + 3 }) hg hlocked hentered (by rw [hout]; intro x hx; cases hx) (a := a) (rest := rest) rfl hd9
  have hlt : a < ((T.setVm vm₁).setVm vm₂).heap.size := (Array.getElem?_eq_some_iff.mp hcell).1
  refine ⟨_, _, _, st1 _ (fun acts => by rw [doInvoke_state]; exact st2 _ hwalk), hrun, hended, ⟨hWU, hsame⟩, ?_, heapAt_setCell_self (s := (T.setVm vm₁).setVm vm₂) (plainBareV B.toThrowableT (freshCell P1.m.cls kX) a u0 sen (.ref msg)) hlt, rfl, rfl, ?_, ?_⟩
  · intro x hx
    simp only [List.mem_cons, List.not_mem_nil, or_false] at hx
    rcases hx with rfl | rfl | rfl | rfl | rfl <;> rfl
  · exact size_setCell ..
  · intro q hq
    exact heapAt_setCell_ne _ (Ne.symm hq)
end JX
