/-! a thrown exception, in the frame that it comes to: into a handler, or out -/
section JT
variable {tb : Tables} {e : Env} {T target : State} {g : JFrame} {c : Code} {below : List Frame} {a : Addr}
theorem jt_stepCatch {s : State} {f : JFrame} {r : List Frame} {pc : Nat} {vm' : Vm} (hfind : jFinds e s f a (.found pc) vm') :
    (stepThrowing e s a (.java f :: r)).Is ((s.setVm vm').setFrames (.java { f with pc := pc, stack := [.ref a] } :: r)) [] := by
  simp only [stepThrowing, searchFrame, vmDo]
  generalize hr : Sem.go _ e false [] s = res
  obtain ⟨as, rfl, ha⟩ := Sem.eq_ok_of hr (a := Handler.found pc) (s' := s.setVm vm') (acts' := []) (by simp [hfind _ _ _ _])
  exact ⟨rfl, ha⟩
theorem jt_stepLeave {s : State} {f : JFrame} {r : List Frame} {meth : Method} {vm' : Vm} (hm : vm'.method? f.method = some meth) (hl : meth.locks = false) (hlocked : f.locked = none) (hentered : f.entered = []) (hfind : jFinds e s f a .none vm') :
    (stepThrowing e s a (.java f :: r)).Is ((s.setVm vm').setFrames (.throwing a :: r)) [] := by
  simp only [stepThrowing, searchFrame, vmDo]
  generalize hr : Sem.go _ e false [] s = res
  obtain ⟨as, rfl, ha⟩ := Sem.eq_ok_of hr (a := Handler.none) (s' := s.setVm vm') (acts' := [])
    (by cases hp : e.platform.frameOwnsMonitors <;> simp [hfind _ _ _ _, hm, hl, hlocked, hentered, hp, leaveIfLocked])
  exact ⟨rfl, ha⟩
theorem jt_caught (h : At T g.method c below) {pc : Nat} {vm' : Vm} (hfind : jFinds e ((T.setTop g).pushFrame (.throwing a)) g a (.found pc) vm')
    (hrest : Steps tb e below ((T.setVm vm').setTop { g with pc := pc, stack := [.ref a] }) target) : Steps tb e below ((T.setTop g).pushFrame (.throwing a)) target := by
  obtain ⟨hgo, hw⟩ := h.throwing a
  refine Steps.head hgo hw ?_
  rw [stepThread_throwing (frames_entered h.top _), (jt_stepCatch (s := (T.setTop g).pushFrame (.throwing a)) hfind).1]
  obtain ⟨g₀, hg⟩ := Option.isSome_iff_exists.mp h.top
  obtain ⟨r, hr⟩ := State.topJava?_eq_some.mp hg
  have hr' : (T.setVm vm').frames = .java g₀ :: r := hr
  rw [State.setTop_of_frames _ hr'] at hrest
  have e1 : (((T.setTop g).pushFrame (.throwing a)).setVm vm').setFrames (.java { g with pc := pc, stack := [.ref a] } :: T.frames.tail) = (T.setVm vm').setFrames (.java { g with pc := pc, stack := [.ref a] } :: r) := by
    rw [State.pushFrame, State.setTop_of_frames _ hr, State.setFrames_setFrames, State.setFrames_setVm, State.setFrames_setFrames, hr]
    rfl
  rw [e1]
  exact hrest
theorem jt_out (h : At T g.method c below) {meth : Method} {vm' : Vm} (hm : vm'.method? g.method = some meth) (hl : meth.locks = false) (hlocked : g.locked = none) (hentered : g.entered = []) (hfind : jFinds e ((T.setTop g).pushFrame (.throwing a)) g a .none vm')
    (hrest : Steps tb e below ((T.setVm vm').setFrames (.throwing a :: T.frames.tail)) target) : Steps tb e below ((T.setTop g).pushFrame (.throwing a)) target := by
  obtain ⟨hgo, hw⟩ := h.throwing a
  refine Steps.head hgo hw ?_
  rw [stepThread_throwing (frames_entered h.top _), (jt_stepLeave (s := (T.setTop g).pushFrame (.throwing a)) hm hl hlocked hentered hfind).1]
  obtain ⟨g₀, hg⟩ := Option.isSome_iff_exists.mp h.top
  obtain ⟨r, hr⟩ := State.topJava?_eq_some.mp hg
  have e1 : (((T.setTop g).pushFrame (.throwing a)).setVm vm').setFrames (.throwing a :: T.frames.tail) = (T.setVm vm').setFrames (.throwing a :: T.frames.tail) := by
    rw [State.pushFrame, State.setTop_of_frames _ hr, State.setFrames_setFrames, State.setFrames_setVm, State.setFrames_setFrames]
  rw [e1]
  exact hrest
end JT
section JT2
variable {p : Program} {l : Launch} {e : Env} {R : Room} {s : State} {m : MethodId} {args : Array Value} {below : List Frame} {meth : Method} {c : Code} {T : State} {locs : List Loc} {cells slots : Nat}
/-- into the handler, or out: which, J's search tells -/
theorem jt_go (Y : Stand p l e R s m args below meth c T locs cells slots) {g : JFrame} (hg : g.method = m) (hlocked : g.locked = none) (hentered : g.entered = []) (hlocks : meth.locks = false) {hs : List (Nat × Nat × Nat × Nat)}
    (htab : c.exceptionTable.toList.map (fun h => (h.startPc, h.endPc, h.handlerPc, h.catchType)) = hs) {ow cn : Nat} (hh : ∀ h ∈ hs, h.2.2.2 ≠ 0 ∧ ∃ c', jFind jKl ow h.2.2.2 = some c' ∧ 13 ≤ c' ∧ c' < 18)
    (hts : ∀ w ∈ lw_g, w.before args s = true) (hown : s.vm.findClass (jnm ow) = some m.cls) {a : Addr} {cell : Cell} (hcell : T.heap[a]? = some cell) (hvm : cell.vm = .none) (hcls : ClassAt s (jnm cn) cell.cls)
    (hNc : ∀ c', 13 ≤ c' → c' < 18 → c' ≠ cn → va_Nc (jnm cn) (jnm c') s) :
    ∃ vm' : Vm, Stand p l e R s m args below meth c (T.setVm vm') locs cells slots ∧
      (∀ h, jCatch ow g.pc cn hs = some h → ∀ target, Steps p.tables e below ((T.setVm vm').setTop { g with pc := h, stack := [.ref a] }) target → Steps p.tables e below ((T.setTop g).pushFrame (.throwing a)) target) ∧
      (jCatch ow g.pc cn hs = none → Steps p.tables e below ((T.setTop g).pushFrame (.throwing a)) ((T.setVm vm').setFrames (.throwing a :: below))) := by
  subst hg
  have hpl : e.platform.magicAccessors = ({} : Platform).magicAccessors := by rw [Y.admits.platform]
  have hS : ((T.setTop g).pushFrame (.throwing a)).heap = T.heap := Stand.throwing_heap T g a
  have hV : ((T.setTop g).pushFrame (.throwing a)).vm = T.vm := Stand.throwing_vm T g a
  obtain ⟨vm', hW', hi⟩ := jf_search (e := e) (S := (T.setTop g).pushFrame (.throwing a)) (f := g) (a := a) (s := s) (args := args) (ow := ow) (cn := cn) (cell := cell) hpl hts hown (by rw [hS]; exact hcell) (fun k => by rw [hvm]; intro z; cases z) hcls.1 (va_assign hcls) hNc c.exceptionTable.toList hs htab hh T.vm Y.warmed
  have hself : ((T.setTop g).pushFrame (.throwing a)).setVm T.vm = (T.setTop g).pushFrame (.throwing a) := by
    have := State.setVm_self ((T.setTop g).pushFrame (.throwing a))
    rw [hV] at this
    exact this
  rw [hself] at hi
  have hfind : jFinds e ((T.setTop g).pushFrame (.throwing a)) g a (jHd (jCatch ow g.pc cn hs)) vm' := fun Q E d acts => by
    rw [W.findHandler_eq (meth := meth) (code := c) (by rw [hV]; exact Y.method') Y.code]
    exact hi Q E d acts
  refine ⟨vm', Y.noted hW', fun h hj target hrest => ?_, fun hj => ?_⟩
  · rw [hj] at hfind
    exact jt_caught Y.here hfind hrest
  · rw [hj] at hfind
    refine jt_out Y.here (meth := meth) (by rw [hW'.alike.method?]; exact Y.method) hlocks hlocked hentered hfind ?_
    rw [Y.tail]
    exact Steps.refl _
end JT2
