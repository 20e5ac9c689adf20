/-! catching: the search through a method's table, whether or not the catch types are resolved -/
section JC
variable {e : Env} {d : Bool} {acts : List Action} {S : State} {f : JFrame} {a : Addr}
theorem jf_cold {Q : Handler → Pre} {E : CtlPost} {x : ExceptionTableEntry} {t : List ExceptionTableEntry} {c : ClassId} {cell : Cell} {vm' : Vm} (hx : covers x f.pc = true) (h0 : x.catchType ≠ 0)
    (hg : (Jvm.resolveClass f.method.cls x.catchType).Gives e.toSetting S.vm (.ok c) vm') (hsz : vm'.classes.size ≤ S.vm.classes.size)
    (hcell : S.heap[a]? = some cell) (hobj : ∀ k, cell.vm ≠ .statics k) (hk : ∃ k, vm'.classes[cell.cls]? = some k) (hc : ∃ k, vm'.classes[c]? = some k) :
    Sem.wp (findHandler.go f a (x :: t)) Q E e d acts S ↔ if vm'.assignable cell.cls c = true then Q (.found x.handlerPc) d acts (S.setVm vm') else Sem.wp (findHandler.go f a t) Q E e d acts (S.setVm vm') := by
  simp only [covers] at hx
  obtain ⟨ha, ht⟩ := hg.op (op := VmOp.resolveClass f.method.cls x.catchType) rfl
  cases hfit : vm'.assignable cell.cls c <;>
    simp [findHandler.go, hx, h0, ha, ht, hsz, hcell, hobj, hk, hc, hfit, VmOp.dirties, VmOp.acts]
/-- what the search gives: it may warm the tables -/
def jFinds (e : Env) (S : State) (f : JFrame) (a : Addr) (h : Handler) (vm' : Vm) : Prop := ∀ (Q : Handler → Pre) (E : CtlPost) (d : Bool) (acts : List Action), Sem.wp (findHandler f a) Q E e d acts S ↔ Q h d acts (S.setVm vm')
def jHd (o : Option Nat) : Handler := match o with
  | some h => .found h
  | none => .none
theorem jf_search {s : State} {args : Array Value} {ow cn : Nat} {cell : Cell} (hpl : e.platform.magicAccessors = ({} : Platform).magicAccessors) (hts : ∀ w ∈ lw_g, w.before args s = true) (hown : s.vm.findClass (jnm ow) = some f.method.cls)
    (hcell : S.heap[a]? = some cell) (hobj : ∀ k, cell.vm ≠ .statics k) (hcls : s.vm.findClass (jnm cn) = some cell.cls) (hself : s.vm.assignable cell.cls cell.cls = true) (hNc : ∀ c', 13 ≤ c' → c' < 18 → c' ≠ cn → va_Nc (jnm cn) (jnm c') s) :
    ∀ (ts : List ExceptionTableEntry) (hs : List (Nat × Nat × Nat × Nat)), ts.map (fun h => (h.startPc, h.endPc, h.handlerPc, h.catchType)) = hs → (∀ h ∈ hs, h.2.2.2 ≠ 0 ∧ ∃ c', jFind jKl ow h.2.2.2 = some c' ∧ 13 ≤ c' ∧ c' < 18) →
      ∀ vm : Vm, s.WarmedH vm → ∃ vm' : Vm, s.WarmedH vm' ∧ ∀ (Q : Handler → Pre) (E : CtlPost) (d : Bool) (acts : List Action), Sem.wp (findHandler.go f a ts) Q E e d acts (S.setVm vm) ↔ Q (jHd (jCatch ow f.pc cn hs)) d acts (S.setVm vm') := by
  intro ts
  induction ts with
  | nil =>
    intro hs hm _ vm hW
    subst hm
    exact ⟨vm, hW, fun Q E d acts => W.findHandler_go_nil⟩
  | cons x t ih =>
    intro hs hm hh vm hW
    subst hm
    simp only [List.map_cons] at hh ⊢
    have hh' : ∀ h ∈ t.map (fun h => (h.startPc, h.endPc, h.handlerPc, h.catchType)), h.2.2.2 ≠ 0 ∧ ∃ c', jFind jKl ow h.2.2.2 = some c' ∧ 13 ≤ c' ∧ c' < 18 := fun h hm => hh h (List.mem_cons_of_mem _ hm)
    obtain ⟨h0, c', hf, h13, h18⟩ := hh _ List.mem_cons_self
    by_cases hx : covers x f.pc = true
    · have hlk : _ ∈ jWk ow := List.mem_map.mpr ⟨_, jFind_mem hf, rfl⟩
      obtain ⟨cc, hfcc, hcl⟩ := Cond.classLink_spec hown (hts _ (lg (jWk_ok ow _ hlk) rfl)) e.platform hpl
      obtain ⟨hg₁, hwarm₁, hready₁⟩ := State.classEntry (e := e) hW hcl
      generalize hvm1 : vm.noted f.method.cls x.catchType (.cls cc) = vm₁ at hg₁ hwarm₁ hready₁
      have hsz : vm₁.classes.size ≤ vm.classes.size := by
        rw [← hvm1]
        first | no_record | simp [Vm.noted]
      obtain ⟨kc, hkc⟩ := Vm.classAt_of_findClass hcls
      obtain ⟨kc1, hkc1, -⟩ := hwarm₁.alike.2.2 _ _ hkc
      obtain ⟨kt, hkt⟩ := Vm.classAt_of_findClass hfcc
      obtain ⟨kt1, hkt1, -⟩ := hwarm₁.alike.2.2 _ _ hkt
      have key : ∀ (Q : Handler → Pre) (E : CtlPost) (d : Bool) (acts : List Action), Sem.wp (findHandler.go f a (x :: t)) Q E e d acts (S.setVm vm) ↔ if vm₁.assignable cell.cls cc = true then Q (.found x.handlerPc) d acts (S.setVm vm₁) else Sem.wp (findHandler.go f a t) Q E e d acts (S.setVm vm₁) := fun Q E d acts =>
        jf_cold (S := S.setVm vm) hx h0 hg₁ hsz hcell hobj ⟨kc1, hkc1⟩ ⟨kt1, hkt1⟩
      by_cases hq : c' = cn
      · subst hq
        cases hcls.symm.trans hfcc
        have hyes : vm₁.assignable cell.cls cell.cls = true := by rw [hwarm₁.alike.assignable]; exact hself
        refine ⟨vm₁, hwarm₁, fun Q E d acts => ?_⟩
        rw [key, if_pos hyes]
        have hj : jCatch ow f.pc c' ((x.startPc, x.endPc, x.handlerPc, x.catchType) :: t.map (fun h => (h.startPc, h.endPc, h.handlerPc, h.catchType))) = some x.handlerPc := by
          simp only [covers, Bool.and_eq_true, decide_eq_true_eq] at hx
          simp only [jCatch]
          rw [if_pos ⟨hx.1, hx.2, hf⟩]
        rw [hj]
        exact Iff.rfl
      · obtain ⟨k1, k2, n1, n2, n3⟩ := hNc c' h13 h18 hq
        cases hcls.symm.trans n1
        cases hfcc.symm.trans n2
        have hno : vm₁.assignable cell.cls cc = false := by rw [hwarm₁.alike.assignable]; exact n3
        obtain ⟨vm', hW', hi⟩ := ih _ rfl hh' vm₁ hwarm₁
        refine ⟨vm', hW', fun Q E d acts => ?_⟩
        rw [key, if_neg (by rw [hno]; decide), hi]
        have hj : jCatch ow f.pc cn ((x.startPc, x.endPc, x.handlerPc, x.catchType) :: t.map (fun h => (h.startPc, h.endPc, h.handlerPc, h.catchType))) = jCatch ow f.pc cn (t.map (fun h => (h.startPc, h.endPc, h.handlerPc, h.catchType))) := by
          simp only [jCatch]
          rw [if_neg]
          rintro ⟨-, -, z⟩
          rw [hf] at z
          exact hq (Option.some.inj z)
        rw [hj]
    · obtain ⟨vm', hW', hi⟩ := ih _ rfl hh' vm hW
      refine ⟨vm', hW', fun Q E d acts => ?_⟩
      have hx' : covers x f.pc = false := by simpa using hx
      rw [W.findHandler_go_skip hx', hi]
      have hj : jCatch ow f.pc cn ((x.startPc, x.endPc, x.handlerPc, x.catchType) :: t.map (fun h => (h.startPc, h.endPc, h.handlerPc, h.catchType))) = jCatch ow f.pc cn (t.map (fun h => (h.startPc, h.endPc, h.handlerPc, h.catchType))) := by
        simp only [jCatch]
        rw [if_neg]
        rintro ⟨z1, z2, -⟩
        exact hx (by simp [covers, z1, z2])
      rw [hj]
end JC
