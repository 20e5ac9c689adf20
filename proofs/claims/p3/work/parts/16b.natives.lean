/-! links to what is not ours (by program: wip/tools/gen4.py) -/
def jsL : MethodName := ⟨"java/lang/String", "length", "()I"⟩
def jsC : MethodName := ⟨"java/lang/String", "charAt", "(I)C"⟩
def jsX : MethodName := ⟨"java/lang/String", "indexOf", "(I)I"⟩
def jWo (o : Nat) : List Cond := (jCl.getD o []).filterMap (fun q => if q.2.1 = 4 then some (.methodLink (jnm o) q.1 objectInit) else if q.2.1 = 9 then some (.methodLink (jnm o) q.1 arraycopyName) else if q.2.1 = 6 then some (.methodLink (jnm o) q.1 jsL) else if q.2.1 = 7 then some (.methodLink (jnm o) q.1 jsC) else if q.2.1 = 8 then some (.methodLink (jnm o) q.1 jsX) else none)
set_option maxRecDepth 100000 in
theorem jWo0 : jWo 0 = jTp [(1, 35)] := by decide +kernel
set_option maxRecDepth 100000 in
theorem jWo1 : jWo 1 = jTp [(5, 102)] := by decide +kernel
set_option maxRecDepth 100000 in
theorem jWo2 : jWo 2 = jTp [(6, 95), (7, 152)] := by decide +kernel
set_option maxRecDepth 100000 in
theorem jWo3 : jWo 3 = jTp [(4, 182)] := by decide +kernel
set_option maxRecDepth 100000 in
theorem jWo4 : jWo 4 = jTp [(4, 135)] := by decide +kernel
set_option maxRecDepth 100000 in
theorem jWo5 : jWo 5 = jTp [(5, 146)] := by decide +kernel
set_option maxRecDepth 100000 in
theorem jWo6 : jWo 6 = jTp [(2, 169)] := by decide +kernel
set_option maxRecDepth 100000 in
theorem jWo7 : jWo 7 = jTp [(3, 145)] := by decide +kernel
set_option maxRecDepth 100000 in
theorem jWo8 : jWo 8 = jTp [(2, 137)] := by decide +kernel
set_option maxRecDepth 100000 in
theorem jWo9 : jWo 9 = jTp [(1, 70)] := by decide +kernel
set_option maxRecDepth 100000 in
theorem jWo10 : jWo 10 = jTp [(1, 138), (1, 234), (2, 91), (2, 92)] := by decide +kernel
set_option maxRecDepth 100000 in
theorem jWo11 : jWo 11 = jTp [(5, 8)] := by decide +kernel
set_option maxRecDepth 100000 in
theorem jWo12 : jWo 12 = jTp [(8, 167), (10, 96), (10, 98), (10, 175)] := by decide +kernel
theorem jWo_ok : ∀ c, ∀ w ∈ jWo c, w ∈ lw_tbl := fun c => match c with
  | 0 => jMem _ jWo0
  | 1 => jMem _ jWo1
  | 2 => jMem _ jWo2
  | 3 => jMem _ jWo3
  | 4 => jMem _ jWo4
  | 5 => jMem _ jWo5
  | 6 => jMem _ jWo6
  | 7 => jMem _ jWo7
  | 8 => jMem _ jWo8
  | 9 => jMem _ jWo9
  | 10 => jMem _ jWo10
  | 11 => jMem _ jWo11
  | 12 => jMem _ jWo12
  | 13 => fun _ h => absurd h (by simp [jWo, jCl, jCl13])
  | 14 => fun _ h => absurd h (by simp [jWo, jCl, jCl14])
  | 15 => fun _ h => absurd h (by simp [jWo, jCl, jCl15])
  | 16 => fun _ h => absurd h (by simp [jWo, jCl, jCl16])
  | 17 => fun _ h => absurd h (by simp [jWo, jCl, jCl17])
  | 18 => fun _ h => absurd h (by simp [jWo, jCl, jCl18])
  | 19 => fun _ h => absurd h (by simp [jWo, jCl, jCl19])
  | 20 => fun _ h => absurd h (by simp [jWo, jCl, jCl20])
  | n + 21 => fun _ h => absurd h (by simp [jWo, jCl])
set_option maxRecDepth 100000 in
theorem jWp : ([.instanceMethod objectInit, .native arraycopyName, .static arraycopyName, .initialized "java/lang/System"] : List Cond) = jTp [(1, 36), (7, 154), (7, 153), (1, 29)] := by decide +kernel
theorem jWobj : Cond.code objectInit ⟨#[0xb1]⟩ 1 none ∈ lw_tbl := jTb1 _ (List.mem_of_getElem? (i := 37) rfl)
section JN
variable {p : Program} {l : Launch} {e : Env} {R : Room} {s : State} {m : MethodId} {args : Array Value} {below : List Frame} {meth : Method} {c : Code} {Q : State → Prop}
variable {E : Nat → Nat} {dA : Nat → ClassId} {D : va_G} {base N0 S0 : Nat} {X : jX} {f : jM} {pc : Nat} {ls : Array Slot} {lc : jL} {V : jH}
theorem jWo_link {o i kd t na : Nat} (h : jFind jCl o i = some (kd, t, na)) {y : MethodName} (hy : (if kd = 4 then some (Cond.methodLink (jnm o) i objectInit) else if kd = 9 then some (Cond.methodLink (jnm o) i arraycopyName) else if kd = 6 then some (Cond.methodLink (jnm o) i jsL) else if kd = 7 then some (Cond.methodLink (jnm o) i jsC) else if kd = 8 then some (Cond.methodLink (jnm o) i jsX) else none) = some (Cond.methodLink (jnm o) i y)) : Cond.methodLink (jnm o) i y ∈ lw_tbl :=
  jWo_ok o _ (List.mem_filterMap.mpr ⟨_, jFind_mem h, hy⟩)
theorem js_obj (K : jKm p s m args meth c E dA D base N0 X f) (hRf : 17 ≤ R.frames) (hRl : 664 ≤ R.locals) {k t na : Nat} {a : Nat} {rest : List Value} (hq : jFind jCl f.2.1 k = some (4, t, na)) (hd : decode f.2.2.1 pc = .ok (.invokespecial k, 3)) (hl : lv_has ls f.2.2.2.1 (lc.map (jEl E))) (h8 : jSum rest ≤ 8)
    (kk : jWc' p l e R s m args below meth c Q E dA D base N0 S0 V (F0 m (pc + 3) ls (rest.map (jE E)))) : jWc' p l e R s m args below meth c Q E dA D base N0 S0 V (F0 m pc ls ((.ref a :: rest).map (jE E))) := by
  intro H locs cells slots hP hS hc hs
  obtain ⟨⟨hx, hb, hE, hts, hown, hK, h0, hini, -, -, -⟩, hml, htab, hlocks, hret, hO⟩ := K
  refine W.objInit hx hb hown (hts _ (lg (jWo_link hq rfl) rfl)) (hts _ (lg (jMem _ jWp _ (List.mem_of_getElem? (i := 0) rfl)) rfl)) (hts _ (lg jWobj rfl)) rfl (by show ls.size = _; rw [hml]; exact hl.1) (a := E a) (rest := rest.map (jE E)) rfl hd (by omega) ?_ (kk H locs cells slots hP hS hc hs)
  have h9 : ((rest.map (jE E)).map fun v => v.category).sum ≤ 8 := by
    rw [List.map_map]
    have : ((fun v : Value => v.category) ∘ jE E) = fun v => v.category := by funext v; exact jE_cat v
    rw [this]
    exact h8
  show 2 * 0 + _ + 12 ≤ _
  omega
theorem js_copy (K : jKm p s m args meth c E dA D base N0 X f) (hRf : 17 ≤ R.frames) (hRl : 664 ≤ R.locals) {k t na : Nat} {a b : Nat} {n0 n1 : Nat} {sp dp n : Int32} {g h : Nat → Int32} {rest : List Value} (hq : jFind jCl f.2.1 k = some (9, t, na)) (hd : decode f.2.2.1 pc = .ok (.invokestatic k, 3)) (hl : lv_has ls f.2.2.2.1 (lc.map (jEl E))) (h8 : jSum rest ≤ 8)
    (ha : jAt V a = some (.inl (1, n0, .inl g))) (hbb : jAt V b = some (.inl (1, n1, .inl h))) (h1 : ¬ n < 0) (h2 : ¬ sp < 0) (h3 : ¬ dp < 0) (h4 : sp.toNatClampNeg + n.toNatClampNeg ≤ n0) (h5 : dp.toNatClampNeg + n.toNatClampNeg ≤ n1)
    (kk : jWc' p l e R s m args below meth c Q E dA D base N0 S0 (jPut V b (.inl (1, n1, .inl (va_cpy g h sp.toNatClampNeg dp.toNatClampNeg n.toNatClampNeg)))) (F0 m (pc + 3) ls (rest.map (jE E)))) : jWc' p l e R s m args below meth c Q E dA D base N0 S0 V (F0 m pc ls ((.int n :: .int dp :: .ref b :: .int sp :: .ref a :: rest).map (jE E))) := by
  intro H locs cells slots hP hS hc hs
  obtain ⟨⟨hx, hb, hE, hts, hown, hK, h0, hini, -, -, -⟩, hml, htab, hlocks, hret, hO⟩ := K
  obtain ⟨ha6, hVa⟩ := jAt_of ha
  obtain ⟨hb6, hVb⟩ := jAt_of hbb
  have h9 : ((rest.map (jE E)).map fun v => v.category).sum ≤ 8 := by
    rw [List.map_map]
    have : ((fun v : Value => v.category) ∘ jE E) = fun v => v.category := by funext v; exact jE_cat v
    rw [this]
    exact h8
  simp only [List.map_cons, jE]
  rw [jE_at hE ha6, jE_at hE hb6]
  refine va_copyi hx hb (by rw [hml]; exact hl.1.symm) hown (hts _ (lg (jWo_link hq rfl) rfl)) (hts _ (lg (jMem _ jWp _ (List.mem_of_getElem? (i := 1) rfl)) rfl)) (hts _ (lg (jMem _ jWp _ (List.mem_of_getElem? (i := 2) rfl)) rfl)) (hts _ (lg (jMem _ jWp _ (List.mem_of_getElem? (i := 3) rfl)) rfl)) hK hP jw_D hS (a - 64) (b - 64) 1 1 (jw_get hVa) (jw_get hVb) (jTs_get (t := .int) rfl) (jTs_get rfl) rfl h2 h3 h1 h4 h5 (fun _ _ => rfl) (by omega) ?_ hd (fun H1 locs1 p1 _ s1 => kk H1 locs1 cells slots (by rw [jPut, jw_set]; exact p1) s1 (by simpa [jPut] using hc) (hs.trans (jSl_setA hVb).symm))
  have : nativeFrameWords "java/lang/System" "arraycopy" 5 ≤ 100 := by decide +kernel
  omega
end JN
