/-! a call in a walk -/
/-- the end of an activation: the outcome o, V' on the heap -/
def jMQ (below : List Frame) (s : State) (E : Nat → Nat) (dA : Nat → ClassId) (D : va_G) (base : Nat) (o : jO) (V' : jH) (mc ms : Nat) : State → Prop := fun t => t.status = .running ∧ Ended t below (jOut E o) ∧ jEnd E dA D base V' mc ms s t
/-- what an activation of the method f knows -/
def jKm (p : Program) (s : State) (m : MethodId) (args : Array Value) (meth : Method) (c : Code) (E : Nat → Nat) (dA : Nat → ClassId) (D : va_G) (base N0 : Nat) (X : jX) (f : jM) : Prop :=
  jKn p s m args meth c f.2.2.1 E dA D base N0 f.2.1 (f.1.name == "<init>") X ∧ c.maxLocals = f.2.2.2.1 ∧ c.exceptionTable.toList.map (fun h => (h.startPc, h.endPc, h.handlerPc, h.catchType)) = f.2.2.2.2.2.1 ∧ meth.locks = false ∧ meth.sig.returnType = f.2.2.2.2.1 ∧ jOu E base X s s.heap
theorem jMs_hanB : jMs.all (fun f => f.2.2.2.2.2.1.all (fun h => !(h.2.2.2 == 0) && match jFind jKl f.2.1 h.2.2.2 with
    | some c => decide (13 ≤ c) && decide (c < 18)
    | none => false)) = true := by decide +kernel
theorem jMs_han {f : jM} (hf : f ∈ jMs) : ∀ h ∈ f.2.2.2.2.2.1, h.2.2.2 ≠ 0 ∧ ∃ c', jFind jKl f.2.1 h.2.2.2 = some c' ∧ 13 ≤ c' ∧ c' < 18 := fun h hh => by
  have h1 := List.all_eq_true.mp (List.all_eq_true.mp jMs_hanB f hf) h hh
  simp only [Bool.and_eq_true, Bool.not_eq_true', beq_eq_false_iff_ne] at h1
  refine ⟨h1.1, ?_⟩
  have h2 := h1.2
  split at h2
  · rename_i c hc
    simp only [Bool.and_eq_true, decide_eq_true_eq] at h2
    exact ⟨c, hc, h2⟩
  · cases h2
section JW
variable {p : Program} {l : Launch} {e : Env} {R : Room} {s : State} {m : MethodId} {args : Array Value} {below : List Frame} {meth : Method} {c : Code}
variable {E : Nat → Nat} {dA : Nat → ClassId} {D : va_G} {base N0 S0 : Nat} {X : jX}
theorem jU_here {H : Heap} {locs : List Loc} {V : jH} {T : State} (hK : va_K D jCs (jTs dA) s) (hO : jOu E base X s s.heap) (h0 : s.heap.size = base + N0) (hP : va_P D jCs (jw E dA base V) H) (hS : va_S (jAb base) s.heap H locs) (hz : H.size = base + V.length) (hT : T.heap = H) (hW : s.WarmedH T.vm) : jU E dA D base X V T := by
  refine ⟨by rw [hT]; exact hz, by rw [hT]; exact hP, va_K.moved hW.alike hK, ?_⟩
  rw [hT]
  exact hO.go (by omega) hW hS.2.1
set_option maxHeartbeats 4000000 in
theorem js_callW {f t : jM} (hf : f ∈ jMs) (K : jKm p s m args meth c E dA D base N0 X f) {pc : Nat} {ls : Array Slot} {st rest : List Value} {as : List Value} {V V' : jH} {o oF : jO} {VF : jH} {d mcF msF : Nat} {ig : Instr}
    (hdg : decode f.2.2.1 pc = .ok (ig, 3)) (hls : ls.size = f.2.2.2.1) (h8 : jSum rest ≤ 8) (hRf : 16 + (d + 1) ≤ R.frames) (hRl : 600 + 64 * (d + 1) ≤ R.locals) (hmx : t.2.2.2.1 ≤ 40)
    (M : jMet l E dA D base X d t as V o V') (hlen : V.length ≤ V'.length) (hsl : jSl V ≤ jSl V') (hC : V'.length ≤ R.cells + N0) (hCs : jSl V' ≤ R.slots + S0) (hw : jCw t ∈ lw_tbl) (hwi : Cond.initialized t.1.cls ∈ lw_tbl) (hgood : goodWord (jCw t) = true)
    (lead : ∀ (T : State) (locs : List Loc) (cells slots : Nat), va_P D jCs (jw E dA base V) T.heap → Stand p l e R s m args below meth c T locs cells slots → jLeads p l e R s m args below meth c T locs cells slots (F0 m pc ls (st.map (jE E))) (rest.map (jE E)) t.1 (as.map (jE E)))
    (kret : ∀ v, o = .inl v → jWc' p l e R s m args below meth c (jMQ below s E dA D base oF VF mcF msF) E dA D base N0 S0 V' (F0 m (pc + 3) ls (((v.map (jE E)).toList) ++ rest.map (jE E))))
    (kcat : ∀ a cn h, o = .inr a → jExc V' a = some cn → jCatch f.2.1 pc cn f.2.2.2.2.2.1 = some h → jWc' p l e R s m args below meth c (jMQ below s E dA D base oF VF mcF msF) E dA D base N0 S0 V' (F0 m h ls [.ref (E a)]))
    (kout : ∀ a cn, o = .inr a → jExc V' a = some cn → 13 ≤ cn ∧ cn < 18)
    (kend : ∀ a cn, o = .inr a → jExc V' a = some cn → jCatch f.2.1 pc cn f.2.2.2.2.2.1 = none → oF = o ∧ VF = V' ∧ mcF + N0 = V'.length ∧ msF + S0 = jSl V') (kex : ∀ a, o = .inr a → ∃ cn, jExc V' a = some cn) :
    jWc' p l e R s m args below meth c (jMQ below s E dA D base oF VF mcF msF) E dA D base N0 S0 V (F0 m pc ls (st.map (jE E))) := by
  intro H locs cells slots hP hS hc hs
  obtain ⟨⟨hx, hb, hE, hts, hown, hK, h0, hini, -, -, -⟩, hml, htab, hlocks, hret, hO⟩ := K
  refine js_size hP hS h0 hc (fun hz => ?_)
  intro T hT Y
  obtain ⟨vm₁, mk, hW₁, Y₁, hn, hstep⟩ := lead T locs cells slots (by rw [hT]; exact hP) Y
  have hU : jU E dA D base X V (T.setVm vm₁) := jU_here hK hO h0 hP hS hz (show (T.setVm vm₁).heap = H from hT) hW₁
  have hg8 : 2 * (F0 m pc ls (rest.map (jE E))).monitorRoom + ((rest.map (jE E)).map fun v => v.category).sum ≤ 8 := by
    rw [List.map_map]
    have : ((fun v : Value => v.category) ∘ jE E) = fun v => v.category := by funext v; exact jE_cat v
    rw [this]
    unfold jSum at h8
    simpa using h8
  obtain ⟨T', L, Y', hL, ⟨hP', hz1, hk'⟩, hsR, hsT⟩ := j_back Y₁ (g := F0 m pc ls (rest.map (jE E))) rfl (by show ls.size = _; rw [hml]; exact hls) (by rw [hb]; exact hdg) hg8 M hn
    (fun w hw' a' => by
      rcases List.mem_cons.mp hw' with rfl | hw'
      · exact word_at hW₁ (good_of_word hgood) (hts _ (lg hw hgood))
      · exact word_at hW₁ (lw_good w hw') (hts w hw'))
    (fun a' => word_at hW₁ (good_of_word rfl) (hts _ (lg hwi rfl))) (by omega) (by omega) (by omega) (by omega) hU
  have hS' : va_S (jAb base) s.heap T'.heap (locs ++ L) := by
    have hTh : (T.setVm vm₁).heap = H := hT
    rw [hTh] at hz1 hk'
    refine ⟨Nat.le_trans hS.1 hz1, fun q h1 h2 => ?_, fun q hq => ?_⟩
    · rw [hk' q (Nat.lt_of_lt_of_le h1 hS.1) h2]
      exact hS.2.1 q h1 h2
    · rcases List.mem_append.mp hq with z | z
      · exact hS.2.2 q z
      · exact hL q z
  have hc' : cells + (V'.length - V.length) + N0 = V'.length := by omega
  have hs' : slots + (jSl V' - jSl V) + S0 = jSl V' := by omega
  cases o with
  | inl v =>
    obtain ⟨tt, a1, b1⟩ := kret v rfl T'.heap (locs ++ L) _ _ hP' hS' hc' hs' T' rfl Y'
    exact ⟨tt, hstep tt ((hsR v rfl).trans a1), b1⟩
  | inr a =>
    obtain ⟨cn, hcn⟩ := kex a rfl
    obtain ⟨h13, h18⟩ := kout a cn rfl hcn
    have hat : jAt V' a = some (.inr (cn, ((fun x : jC => match x with | .inr o => o.2 | _ => []) ((jAt V' a).getD (.inr (0, [])))))) := by
      unfold jExc at hcn
      split at hcn
      · rename_i o ho
        cases hcn
        rw [ho]
        rfl
      · cases hcn
    obtain ⟨ha64, hV64⟩ := jAt_of hat
    obtain ⟨r', hr', cell, g1, g2, g3, -⟩ := hP' _ _ (jw_get hV64)
    have hcl : ClassAt s (jnm cn) cell.cls := by
      rw [g2]
      exact (hK.1 cn _ (jCs_get h18)).2
    have g1' : T'.heap[E a]? = some cell := by rw [jE_at hE ha64]; exact g1
    obtain ⟨vm₂, Y₂, hin, hout⟩ := jt_go Y' (g := F0 m pc ls (rest.map (jE E))) rfl rfl rfl hlocks htab (jMs_han hf) hts hown (a := E a) g1' g3 hcl (fun c' z1 z2 z3 => hO.1 cn c' h13 h18 z1 z2 z3)
    cases hj : jCatch f.2.1 pc cn f.2.2.2.2.2.1 with
    | some h =>
      obtain ⟨tt, a1, b1⟩ := kcat a cn h rfl hcn hj T'.heap (locs ++ L) _ _ hP' hS' hc' hs' (T'.setVm vm₂) rfl Y₂
      exact ⟨tt, hstep tt ((hsT a rfl).trans (hin h hj tt a1)), b1⟩
    | none =>
      obtain ⟨hoF, hVF, hmF, hsF⟩ := kend a cn rfl hcn hj
      refine ⟨_, hstep _ ((hsT a rfl).trans (hout hj)), Y₂.here.running, ?_, ?_⟩
      · rw [hoF]
        obtain ⟨g₀, hfr⟩ := Y₂.frames_eq
        exact State.frames_setFrames _ (State.cur_lt_of_frames hfr)
      · subst hVF
        refine ⟨⟨?_, hP', ?_⟩, locs ++ L, ?_, hS'.2.2⟩
        · have h1 := Y₂.heapSize
          have h2 : base + VF.length ≤ T'.heap.size := by
            have hl : VF.length - 1 < VF.length := by
              have := (List.getElem?_eq_some_iff.mp hV64).1
              omega
            have := (hP' _ _ (jw_get (List.getElem?_eq_getElem hl))).lt
            have h3 : base + (VF.length - 1) < T'.heap.size := this
            omega
          show T'.heap.size = _
          have h4 : T'.heap.size ≤ s.heap.size + (cells + (VF.length - V.length)) := h1
          omega
        · exact ⟨hS'.1, hS'.2.1⟩
        · rw [show mcF = cells + (VF.length - V.length) by omega, show msF = slots + (jSl VF - jSl V) by omega]
          exact ⟨(Y₂.ends _).1, (Y₂.ends _).2⟩
end JW
