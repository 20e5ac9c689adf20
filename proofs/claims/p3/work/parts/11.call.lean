/-! a call by a contract of a J run, whatever its outcome -/
theorem jU.calling {E : Nat → Nat} {dA : Nat → ClassId} {D : va_G} {base : Nat} {X : jX} {V : jH} {U : State} (h : jU E dA D base X V U) (g : JFrame) (mk : MethodId) (a : Array Value) : jU E dA D base X V (U.calling g mk a) := by
  obtain ⟨h1, h2, h3, h4⟩ := h
  exact ⟨h1, h2, va_K.moved (u := U) (U := U.calling g mk a) (Vm.Alike.refl U.vm) h3, jOu.go (u := U) (U := U.calling g mk a) h4 (by rw [h1]; exact Nat.le_add_right _ _) (State.WarmedH.refl U) (fun _ _ _ => rfl)⟩
section JB
variable {p : Program} {l : Launch} {e : Env} {R : Room} {s : State} {m : MethodId} {args : Array Value} {below : List Frame} {meth : Method} {c : Code} {T : State} {locs : List Loc} {cells slots : Nat}
variable {E : Nat → Nat} {dA : Nat → ClassId} {D : va_G} {base : Nat} {X : jX}
set_option maxHeartbeats 4000000 in
theorem j_back (Y : Stand p l e R s m args below meth c T locs cells slots) {g : JFrame} (hg : g.method = m) (hsize : g.locals.size = c.maxLocals) {ig : Instr} (hdg : decode c.code g.pc = .ok (ig, 3)) (hW8 : 2 * g.monitorRoom + (g.stack.map fun v => v.category).sum ≤ 8)
    {f : jM} {as : List Value} {V V' : jH} {o : jO} {d : Nat} {mk : MethodId} (M : jMet l E dA D base X d f as V o V') (hn : T.methodNamed? f.1 = some mk) (hws : ∀ w ∈ jCw f :: lw_g, ∀ a', w.before a' T = true) (hini : ∀ a', (Cond.initialized f.1.cls).before a' T = true)
    (hfrm : 16 + d + 1 ≤ R.frames) (hloc : 8 + (f.2.2.2.1 + 11) + (600 + 64 * d) ≤ R.locals) (hcl : cells + (V'.length - V.length) ≤ R.cells) (hsl : slots + (jSl V' - jSl V) ≤ R.slots) (hU : jU E dA D base X V T) :
    ∃ (T' : State) (L : List Loc), Stand p l e R s m args below meth c T' (locs ++ L) (cells + (V'.length - V.length)) (slots + (jSl V' - jSl V)) ∧ (∀ q ∈ L, jAb base q.base) ∧
      (va_P D jCs (jw E dA base V') T'.heap ∧ T.heap.size ≤ T'.heap.size ∧ ∀ q : Nat, q < T.heap.size → ¬ jAb base q → T'.heap[q]? = T.heap[q]?) ∧
      (∀ v, o = .inl v → Steps p.tables e below (doInvoke e (T.setTop g) [] mk (as.map (jE E)).toArray).1 (T'.setTop { g with pc := g.pc + 3, stack := (v.map (jE E)).toList ++ g.stack })) ∧
      (∀ x, o = .inr x → Steps p.tables e below (doInvoke e (T.setTop g) [] mk (as.map (jE E)).toArray).1 ((T'.setTop g).pushFrame (.throwing (E x)))) := by
  obtain ⟨methY, cY, hmY, hcY, -, hlY, -, -, -, -⟩ := jCw_spec hn (hws _ List.mem_cons_self #[])
  obtain ⟨kY, hkY, -⟩ := className_of_methodNamed hn
  have hinitY : kY.init = .initialized := Cond.initialized_spec (findClass_of_methodNamed hn) hkY (hini #[])
  have h : At T g.method c below := by rw [hg]; exact Y.here
  have happ : (headSpec (jCw f :: lw_g) (jRm d (V'.length - V.length) (jSl V' - jSl V))).appliesLoose f.1 e.platform (T.calling g mk (as.map (jE E)).toArray) = true :=
    Spec.appliesLoose_calling (g := g) h hdg hn hkY hinitY
      (Y.room_calling (g := g) (R' := jRm d (V'.length - V.length) (jSl V' - jSl V)) hsize hmY hcY hfrm (by rw [hlY]; show _ + (600 + 64 * d) ≤ _; omega) hcl hsl) (atoms_intro fun w hw => hws w hw _)
  obtain ⟨mid, hmid⟩ := h.above
  have hfr : (T.setTop g).frames = (.java g :: mid) ++ below := by rw [State.frames_setTop' g h.top, hmid]; rfl
  obtain ⟨oc, s₂, hsteps, -, hend, hq⟩ := Steps.callFree M p Y.admits Y.cas Y.clock (acts := []) hfr happ ⟨rfl, hU.calling g mk _⟩ trivial
  rw [State.frames_setTop' g h.top] at hend
  obtain ⟨hoc, ⟨z1, z2, z3⟩, L, ⟨hW₂, hsame0⟩, hL⟩ := hq
  have hW' : T.WarmedH s₂.vm := hW₂
  obtain ⟨e2, q2, q3, q4, q5, q6⟩ := id hsame0
  cases o with
  | inl v =>
    have hoc' : oc = .returned (v.map (jE E)) := hoc
    subst hoc'
    have e3 : s₂ = ({ (T.calling g mk (as.map (jE E)).toArray).setFrames s₂.frames with heap := s₂.heap, slotsUsed := s₂.slotsUsed } : State).setVm s₂.vm := by
      have : s₂ = ({ s₂ with vm := (T.calling g mk (as.map (jE E)).toArray).vm } : State).setVm s₂.vm := rfl
      rw [show ({ s₂ with vm := (T.calling g mk (as.map (jE E)).toArray).vm } : State) = _ from e2] at this
      exact this
    obtain ⟨c₂, i₂, len₂, hc₂, hd₂, hf₂⟩ := hend
    have hcc : c₂ = c := by
      have h1 : s₂.code? g.method = T.code? g.method := by
        rw [State.code?_eq, State.code?_eq, hW'.alike.method?]
      exact Option.some.inj (hc₂.symm.trans (h1.trans h.code))
    subst hcc
    have hlen : len₂ = 3 := by rw [hdg] at hd₂; cases hd₂; rfl
    subst hlen
    obtain ⟨g₀, hg0⟩ := Option.isSome_iff_exists.mp h.top
    obtain ⟨r, hr⟩ := State.topJava?_eq_some.mp hg0
    have hs₂ : s₂ = (({ T with heap := s₂.heap, slotsUsed := s₂.slotsUsed } : State).setVm s₂.vm).setTop { g with pc := g.pc + 3, stack := (v.map (jE E)).toList ++ g.stack } := by
      have hr' : (({ T with heap := s₂.heap, slotsUsed := s₂.slotsUsed } : State).setVm s₂.vm).frames = .java g₀ :: r := hr
      refine e3.trans ?_
      rw [hf₂, State.calling_eq h.top, State.setFrames_setFrames, State.setTop_of_frames _ hr', hr]
      rfl
    have hsame : T.sameButNew ({ T with heap := s₂.heap, slotsUsed := s₂.slotsUsed } : State) L (V'.length - V.length) (jSl V' - jSl V) := by
      refine ⟨?_, q2, q3, q4, q5, q6⟩
      obtain ⟨t, ht, -⟩ := State.frames_cons hr
      show ({ T with heap := s₂.heap, slotsUsed := s₂.slotsUsed } : State) = { T.setFrames T.frames with heap := s₂.heap, slotsUsed := s₂.slotsUsed }
      rw [State.setFrames_self ht]
    subst hg
    refine ⟨(({ T with heap := s₂.heap, slotsUsed := s₂.slotsUsed } : State).setVm s₂.vm), L,
      ⟨Y.admits, Y.cas, Y.clock, Y.frames, Y.room, Y.hears, Y.method, Y.code, (Y.here.setHeapUsed s₂.heap s₂.slotsUsed).setVm hW'.alike, Y.tail, State.WarmedH.trans Y.warmed hW', Y.limits, Y.bytes, Y.same.trans (hsame.setVm s.vm)⟩, hL, ⟨z2, z3.1, z3.2⟩, fun v' hv' => ?_, fun x hx => by cases hx⟩
    cases hv'
    rw [← hs₂]
    exact hsteps
  | inr x =>
    have hoc' : oc = .threw (E x) := hoc
    subst hoc'
    obtain ⟨T', X', hW3, hB, ht⟩ := Y.outOfThrown hg (mk := mk) (a := (as.map (jE E)).toArray) (t := s₂) (x := E x) (L := L) (k := V'.length - V.length) (n := jSl V' - jSl V) (by
      have h1 : s₂.frames = .throwing (E x) :: .java g :: T.frames.tail := hend
      rw [Y.tail] at h1
      exact h1) hW₂ hsame0
    have hh : T'.heap = s₂.heap := by rw [ht, Stand.throwing_heap]
    refine ⟨T', L, X', hL, ?_, fun v hv => (by cases hv), fun x' hx' => ?_⟩
    · rw [hh]
      exact ⟨z2, z3.1, z3.2⟩
    · cases hx'
      rw [← ht]
      exact hsteps
end JB
