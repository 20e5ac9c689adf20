/-! THE SIMULATION: what J does, the machine does -/
theorem jArgs_map {E : Nat → Nat} : ∀ (as : List Value) (i : Nat), lv_args i (as.map (jE E)) = (lv_args i as).map (jEl E) := by
  intro as
  induction as with
  | nil => intro i; rfl
  | cons v vs ih =>
    intro i
    simp only [List.map_cons, lv_args, jE_cat, ih]
    rfl
theorem jSl_len {E : Nat → Nat} : ∀ as : List Value, (lg_sl (as.map (jE E))).length = jSum as := by
  intro as
  induction as with
  | nil => rfl
  | cons v vs ih =>
    have h : (lg_sl (jE E v :: vs.map (jE E))).length = v.category + (lg_sl (vs.map (jE E))).length := by
      cases v <;> simp [lg_sl, jE, Value.category] <;> omega
    show (lg_sl (jE E v :: vs.map (jE E))).length = _
    rw [h, ih]
    simp [jSum]
theorem W.monoQ {p : Program} {l : Launch} {e : Env} {R : Room} {s : State} {m : MethodId} {args : Array Value} {below : List Frame} {meth : Method} {c : Code} {H : Heap} {locs : List Loc} {cells slots : Nat} {Q Q' : State → Prop} {g : JFrame} (h : ∀ t, Q t → Q' t) (k : W p l e R s m args below meth c H locs cells slots Q g) : W p l e R s m args below meth c H locs cells slots Q' g := by
  intro T hT X
  obtain ⟨t, a, b⟩ := k T hT X
  exact ⟨t, a, h t b⟩
section JZ
variable {p : Program} {l : Launch} {e : Env} {R : Room} {s : State} {m : MethodId} {args : Array Value} {below : List Frame} {meth : Method} {c : Code}
variable {E : Nat → Nat} {dA : Nat → ClassId} {D : va_G} {base N0 S0 : Nat} {X : jX} {f : jM} {call : jCall} {d mcF msF pc : Nat} {ls : Array Slot} {lc : jL} {st rest as : List Value} {V VF : jH} {oF : jO} {r : jR}
set_option maxHeartbeats 4000000 in
theorem js_ret (K : jKm p s m args meth c E dA D base N0 X f) {i : Instr} {n : Nat} (hd : decode f.2.2.1 pc = .ok (i, n)) {v : Option Value} (h : jRet i n f.2.2.2.2.1 st = some v) (ho : oF = .inl v) (hV : VF = V) (hm : mcF + N0 = V.length) (hs : msF + S0 = jSl V) :
    jWc' p l e R s m args below meth c (jMQ below s E dA D base oF VF mcF msF) E dA D base N0 S0 V (F0 m pc ls (st.map (jE E))) := by
  intro H locs cells slots hP hS hc hsl
  obtain ⟨⟨hx, hb, hE, hts, hown, hK, h0, hini, -, -, -⟩, hml, htab, hlocks, hret, hO⟩ := K
  refine js_size hP hS h0 hc (fun hz => ?_)
  subst ho; subst hV
  have ec : cells = mcF := by omega
  have es : slots = msF := by omega
  subst ec; subst es
  have fin : ∀ t, MQ below (fun _ st oc t => oc = jOut E (.inl v) ∧ t.heap = H) args s cells slots (jAb base) t → jMQ below s E dA D base (.inl v) VF cells slots t := by
    rintro t ⟨oc, h1, h2, ⟨h3, h4⟩, L, ⟨-, h5, h6⟩, h7⟩
    subst h3
    refine ⟨h1, h2, ⟨by rw [h4]; exact hz, by rw [h4]; exact hP, ?_⟩, L, ⟨h5, h6⟩, h7⟩
    exact ⟨by rw [h4]; exact hS.1, fun q z1 z2 => by rw [h4]; exact hS.2.1 q z1 z2⟩
  refine W.monoQ fin ?_
  unfold jRet at h
  split at h
  · rename_i hrt
    cases h
    exact W.vret hx hb (hret.trans hrt) (fun t ht _ => ⟨rfl, ht⟩) hS.2.2 hd
  · rename_i hrt
    cases h
    exact W.iret hx hb (hret.trans hrt) (fun t ht _ => ⟨rfl, ht⟩) hS.2.2 hd
  · rename_i x hrt
    split at h
    · rename_i hx01
      cases h
      exact W.zret hx hb (hret.trans hrt) (by rcases hx01 with rfl | rfl <;> decide +kernel) (fun t ht _ => ⟨rfl, ht⟩) hS.2.2 hd
    · cases h
  · rename_i hrt
    cases h
    exact W.lret hx hb (hret.trans hrt) (fun t ht _ => ⟨rfl, ht⟩) hS.2.2 hd
  · rename_i w hrt
    split at h
    · rename_i hr
      cases h
      exact W.aret hx hb (hret.trans hrt) (Or.inl ⟨_, rfl⟩) (by cases w <;> simp [jIsR] at hr <;> simp [jE]) (fun t ht _ => ⟨rfl, ht⟩) hS.2.2 hd
    · cases h
  · rename_i w hrt
    split at h
    · rename_i hr
      cases h
      exact W.aret hx hb (hret.trans hrt) (Or.inr ⟨_, rfl⟩) (by cases w <;> simp [jIsR] at hr <;> simp [jE]) (fun t ht _ => ⟨rfl, ht⟩) hS.2.2 hd
    · cases h
  · cases h
set_option maxHeartbeats 4000000 in
theorem js_step (htr : ∀ e : Env, l.admits e → e.platform.stackTraces = false) (hf : f ∈ jMs) (K : jKm p s m args meth c E dA D base N0 X f) (hRf : 16 + (d + 1) ≤ R.frames) (hRl : 600 + 64 * (d + 1) ≤ R.locals) (ih : jIh l E dA D base X d call)
    (hl : lv_has ls f.2.2.2.1 (lc.map (jEl E))) (h : jStep call X f (pc, lc, st, V) = some r) (hC : (jRh r).length ≤ R.cells + N0) (hCs : jSl (jRh r) ≤ R.slots + S0)
    (k : jOn p l e R s m args below meth c E dA D base N0 S0 oF VF mcF msF f.2.2.2.1 r) : jWc' p l e R s m args below meth c (jMQ below s E dA D base oF VF mcF msF) E dA D base N0 S0 V (F0 m pc ls (st.map (jE E))) := by
  have K' := K
  obtain ⟨⟨hx, hb, hE, -⟩, -⟩ := K'
  unfold jStep at h
  dsimp only at h
  split at h
  · cases h
  · rename_i i n hi
    have hd := jGet'_dec hf hi
    split at h
    · rename_i q hq
      cases h
      intro H locs cells slots hP hS hc hs
      exact js_load hx hb hd hl hq (fun ls' hl' => k ls' hl' H locs cells slots hP hS hc hs)
    · split at h
      · rename_i q hq
        cases h
        intro H locs cells slots hP hS hc hs
        exact js_arith hx hb hd hq (k ls hl H locs cells slots hP hS hc hs)
      · split at h
        · rename_i q hq
          cases h
          intro H locs cells slots hP hS hc hs
          exact js_branch hE hx hb hd hq (k ls hl H locs cells slots hP hS hc hs)
        · split at h
          · rename_i q hq
            cases h
            exact js_heap K.1 hd hq hC hCs (k ls hl)
          · split at h
            · rename_i v hq
              cases h
              exact js_ret K hd hq k.1 k.2.1 k.2.2.1 k.2.2.2
            · split at h
              · rename_i q hq
                cases h
                exact js_invoke hf K hRf hRl ih hd hl hq hC hCs k
              · exact js_throw htr hf K hRf hRl hd hl h hC hCs k
set_option maxHeartbeats 4000000 in
theorem js_loop (htr : ∀ e : Env, l.admits e → e.platform.stackTraces = false) (hf : f ∈ jMs) (K : jKm p s m args meth c E dA D base N0 X f) (hRf : 16 + (d + 1) ≤ R.frames) (hRl : 600 + 64 * (d + 1) ≤ R.locals) (ih : jIh l E dA D base X d call) (hmo : jMono call) (hm : mcF + N0 = VF.length) (hs : msF + S0 = jSl VF) (hRc : mcF ≤ R.cells) (hRs : msF ≤ R.slots) :
    ∀ (n : Nat) (S : jS) (ls : Array Slot), jLoop call X f n S = some (oF, VF) → lv_has ls f.2.2.2.1 (S.2.1.map (jEl E)) →
      jWc' p l e R s m args below meth c (jMQ below s E dA D base oF VF mcF msF) E dA D base N0 S0 S.2.2.2 (F0 m S.1 ls (S.2.2.1.map (jE E))) := by
  intro n
  induction n with
  | zero => intro S ls h; cases h
  | succ n ihn =>
    intro S ls h hl
    obtain ⟨pc, lc, st, V⟩ := S
    unfold jLoop at h
    split at h
    · rename_i S' hs'
      have h2 := jm_loop hmo _ _ _ _ h
      exact js_step htr hf K hRf hRl ih hl hs' (show S'.2.2.2.length ≤ _ by omega) (show jSl S'.2.2.2 ≤ _ by omega) (fun ls' hl' => ihn S' ls' h hl')
    · rename_i q hs'
      cases h
      exact js_step htr hf K hRf hRl ih hl hs' (show VF.length ≤ _ by omega) (show jSl VF ≤ _ by omega) ⟨rfl, rfl, hm, hs⟩
    · cases h
end JZ
/-- what J throws is an exception -/
def jThr (call : jCall) : Prop := ∀ t as V o V', call t as V = some (o, V') → ∀ a, o = .inr a → ∃ cn, jExc V' a = some cn ∧ 13 ≤ cn ∧ cn < 18
theorem jx_new {V : jH} {c : Nat} : jExc (V ++ [.inr (c, [])]) (64 + V.length) = some c := by
  have h : ¬ 64 + V.length < 64 := by omega
  simp [jExc, jAt, h]
theorem jx_back {f : jM} {ow pc t : Nat} {l : jL} {st as : List Value} {V V' : jH} {call : jCall} {a : Nat} (hm : jThr call) (h : jBack f ow pc l st (call t as V) = some (.inr (.inr a, V'))) : ∃ cn, jExc V' a = some cn ∧ 13 ≤ cn ∧ cn < 18 := by
  cases hcl : call t as V with
  | none => rw [hcl] at h; simp [jBack] at h
  | some q =>
    obtain ⟨o, V2⟩ := q
    rw [hcl] at h
    cases o with
    | inl v => cases v <;> simp [jBack] at h
    | inr b =>
      obtain ⟨cn, h1, h2⟩ := hm t as V _ V2 hcl b rfl
      simp only [jBack, h1] at h
      split at h
      · cases h
      · cases h
        exact ⟨cn, h1, h2⟩
set_option maxHeartbeats 4000000 in
theorem jx_invoke {call : jCall} {f : jM} {ow n pc : Nat} {i : Instr} {l : jL} {st : List Value} {V V' : jH} {a : Nat} (hm : jThr call) (h : jInvoke call f ow i n pc l st V = some (.inr (.inr a, V'))) : ∃ cn, jExc V' a = some cn ∧ 13 ≤ cn ∧ cn < 18 := by
  unfold jInvoke at h
  split at h
  · split at h
    · split at h
      · split at h
        · split at h
          · exact jx_back hm h
          · cases h
        · cases h
      · cases h
    · split at h
      · split at h
        · split at h <;> cases h
        · cases h
      · cases h
    · split at h
      · split at h
        · split at h <;> cases h
        · cases h
      · cases h
    · split at h
      · split at h
        · split at h <;> cases h
        · cases h
      · cases h
    · cases h
  · split at h
    · split at h
      · exact jx_back hm h
      · cases h
    · split at h
      · split at h
        · split at h <;> cases h
        · cases h
      · cases h
    · cases h
  · split at h
    · split at h
      · split at h <;> cases h
      · cases h
    · split at h
      · split at h
        · split at h
          · exact jx_back hm h
          · cases h
        · cases h
      · cases h
    · cases h
  · cases h
/-- a step that ends with a throw -/
theorem jx_step {call : jCall} {X : jX} {f : jM} {S : jS} {o : jO} {V' : jH} (hm : jThr call) (h : jStep call X f S = some (.inr (o, V'))) : ∀ a, o = .inr a → ∃ cn, jExc V' a = some cn ∧ 13 ≤ cn ∧ cn < 18 := by
  intro a ha
  subst ha
  unfold jStep at h
  split at h
  · cases h
  · split at h
    · cases h
    · split at h
      · cases h
      · split at h
        · cases h
        · split at h
          · cases h
          · split at h
            · cases h
            · split at h
              · rename_i q hq
                cases h
                exact jx_invoke hm hq
              · obtain ⟨-, c, h1, h2, h3⟩ := jm_throw h
                cases h3
                exact ⟨c, jx_new, h1, h2⟩
theorem jx_loop {call : jCall} {X : jX} {f : jM} (hm : jThr call) : ∀ (n : Nat) (S : jS) (o : jO) (V' : jH), jLoop call X f n S = some (o, V') → ∀ a, o = .inr a → ∃ cn, jExc V' a = some cn ∧ 13 ≤ cn ∧ cn < 18 := by
  intro n
  induction n with
  | zero => intro S o V' h; cases h
  | succ n ih =>
    intro S o V' h
    unfold jLoop at h
    split at h
    · exact ih _ o V' h
    · rename_i q hs
      cases h
      exact jx_step hm hs
    · cases h
theorem jx_run {X : jX} {f : Nat} : ∀ d, jThr (jRun X f d) := by
  intro d
  induction d with
  | zero => intro t as V o V' h; cases h
  | succ d ih =>
    intro t as V o V' h
    unfold jRun at h
    split at h
    · split at h
      · exact jx_loop ih _ _ _ _ h
      · cases h
    · cases h
theorem jMs_plainB : jMs.all (fun f => plainFor f.1 && (f.1.cls == jnm f.2.1)) = true := by decide +kernel
theorem jPlain {f : jM} (hf : f ∈ jMs) : plainFor f.1 = true := by
  have h := List.all_eq_true.mp jMs_plainB f hf
  simp only [Bool.and_eq_true] at h
  exact h.1
theorem jMs_own {f : jM} (hf : f ∈ jMs) : jnm f.2.1 = f.1.cls := by
  have h := List.all_eq_true.mp jMs_plainB f hf
  simp only [Bool.and_eq_true, beq_iff_eq] at h
  exact h.2.symm
set_option maxHeartbeats 4000000 in
/-- THE SIMULATION of methods -/
theorem jSim (l : Launch) (htr : ∀ e : Env, l.admits e → e.platform.stackTraces = false) {E : Nat → Nat} {dA : Nat → ClassId} {D : va_G} {base : Nat} {X : jX} (hE : jEok base E) (fu : Nat) : ∀ d, jIh l E dA D base X d (jRun X fu d) := by
  intro d
  induction d with
  | zero => intro t e as V o V' _ _ h; cases h
  | succ d ih =>
    intro t f as V o V' he hnl h
    have hmono := jm_run (X := X) (f := fu) (d + 1) t as V o V' h
    refine ⟨?_, hmono.1, hmono.2, jx_run (d + 1) t as V o V' h⟩
    unfold jRun at h
    rw [he] at h
    simp only at h
    split at h
    · rename_i hsum
      have hf := jMs_mem he
      refine MetFree.of_bodySF (code := f.2.2.1) (maxLocals := f.2.2.2.1) (ret := f.2.2.2.2.1) ?_ ?_ ?_
      · exact jPlain hf
      · intro args s m hpre hn
        obtain ⟨meth, c, h1, h2, h3, h4, h5, h6, -, -⟩ := jCw_spec hn (atoms_spec (ws := jCw f :: lw_g) hpre _ List.mem_cons_self)
        exact ⟨meth, c, h1, h2, h3, h4, h5, h6⟩
      · intro p e s m args below meth c s₁ B hml hv _
        obtain ⟨hargs, hz, hP, hK, hO⟩ := hv
        have hts := atoms_spec (ws := jCw f :: lw_g) B.pre
        obtain ⟨meth', c', g1, g2, g3, g4, g5, g6, g7, -⟩ := jCw_spec B.named (hts _ List.mem_cons_self)
        have em : meth' = meth := Option.some.inj (g1.symm.trans B.method)
        subst em
        have Y : Stand p l e (jRm (d + 1) (V'.length - V.length) (jSl V' - jSl V)) s m args below meth' c s₁ [] 0 0 := Stand.of_body B
        have ecc : c' = c := Option.some.inj (g2.symm.trans Y.code)
        subst ecc
        have hcls : jnm f.2.1 = f.1.cls := jMs_own hf
        have hK0 : jKm p s m args meth' c' E dA D base V.length X f := by
          refine ⟨⟨B.exec, B.bytes, hE, fun w hw => hts w (List.mem_cons_of_mem _ hw), by rw [hcls]; exact findClass_of_methodNamed B.named, hK, hz, fun hi => ?_, ⟨hO.2.2.2.1, hO.2.2.2.2.1⟩, hO.2.2.2.2.2.1, hO.2.1⟩, g4, g7, g6, g5, hO⟩
          rw [(name_of_methodNamed B.named B.method).1]
          exact eq_of_beq hi
        have hl := lv_entry (as.map (jE E)) (n := f.2.2.2.1) (by rw [jSl_len]; exact hsum)
        rw [jArgs_map] at hl
        have hw := js_loop (e := e) (R := jRm (d + 1) (V'.length - V.length) (jSl V' - jSl V)) (below := below) (S0 := jSl V) (mcF := V'.length - V.length) (msF := jSl V' - jSl V) htr hf hK0 (Nat.le_refl _) (Nat.le_refl _) ih (jm_run d) (by omega) (by omega) (Nat.le_refl _) (Nat.le_refl _) fu _ _ h hl s.heap [] 0 0 hP va_S.rf (by simp) (by simp)
        have hh0 : s₁.heap = s.heap := by rw [B.state]; rfl
        obtain ⟨t2, a1, b1, b2, b3⟩ := hw s₁ hh0 Y
        subst hargs
        refine ⟨t2, jOut E o, ?_, b1, b2, rfl, b3⟩
        rw [lg_entry_eq]
        exact a1
    · cases h
