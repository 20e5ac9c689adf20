/-! the invoking instructions in a walk -/
def jRh (r : jR) : jH := match r with
  | .inl S => S.2.2.2
  | .inr q => q.2
section JV
variable {p : Program} {l : Launch} {e : Env} {R : Room} {s : State} {m : MethodId} {args : Array Value} {below : List Frame} {meth : Method} {c : Code}
variable {E : Nat → Nat} {dA : Nat → ClassId} {D : va_G} {base N0 S0 : Nat} {X : jX} {f : jM} {call : jCall} {d mcF msF pc : Nat} {ls : Array Slot} {lc : jL} {st rest as : List Value} {V VF : jH} {oF : jO} {r : jR}
/-- what a depth less gives -/
def jIh (l : Launch) (E : Nat → Nat) (dA : Nat → ClassId) (D : va_G) (base : Nat) (X : jX) (d : Nat) (call : jCall) : Prop :=
  ∀ (t : Nat) (e : jM) (as : List Value) (V : jH) (o : jO) (V' : jH), jMs[t]? = some e → ¬ e.1.name = "law" → call t as V = some (o, V') → jMet l E dA D base X d e as V o V' ∧ V.length ≤ V'.length ∧ jSl V ≤ jSl V' ∧ ∀ a, o = .inr a → ∃ cn, jExc V' a = some cn ∧ 13 ≤ cn ∧ cn < 18
/-- what goes on behind a step of J's -/
def jOn (p : Program) (l : Launch) (e : Env) (R : Room) (s : State) (m : MethodId) (args : Array Value) (below : List Frame) (meth : Method) (c : Code) (E : Nat → Nat) (dA : Nat → ClassId) (D : va_G) (base N0 S0 : Nat) (oF : jO) (VF : jH) (mcF msF mx : Nat) (r : jR) : Prop := match r with
  | .inl S => ∀ ls', lv_has ls' mx (S.2.1.map (jEl E)) → jWc' p l e R s m args below meth c (jMQ below s E dA D base oF VF mcF msF) E dA D base N0 S0 S.2.2.2 (F0 m S.1 ls' (S.2.2.1.map (jE E)))
  | .inr q => oF = q.1 ∧ VF = q.2 ∧ mcF + N0 = q.2.length ∧ msF + S0 = jSl q.2
set_option maxHeartbeats 4000000 in
theorem js_backW (hf : f ∈ jMs) (K : jKm p s m args meth c E dA D base N0 X f) (hRf : 16 + (d + 1) ≤ R.frames) (hRl : 600 + 64 * (d + 1) ≤ R.locals) (ih : jIh l E dA D base X d call) {t : Nat} {e' : jM} (he : jMs[t]? = some e') (hnl : ¬ e'.1.name = "law") (hmx : e'.2.2.2.1 ≤ 40) (hwi : Cond.initialized e'.1.cls ∈ lw_tbl) {ig : Instr}
    (hd : decode f.2.2.1 pc = .ok (ig, 3)) (hl : lv_has ls f.2.2.2.1 (lc.map (jEl E))) (h8 : jSum rest ≤ 8) (h : jBack f f.2.1 pc lc rest (call t as V) = some r) (hC : (jRh r).length ≤ R.cells + N0) (hCs : jSl (jRh r) ≤ R.slots + S0)
    (lead : ∀ (T : State) (locs : List Loc) (cells slots : Nat), va_P D jCs (jw E dA base V) T.heap → Stand p l e R s m args below meth c T locs cells slots → jLeads p l e R s m args below meth c T locs cells slots (F0 m pc ls (st.map (jE E))) (rest.map (jE E)) e'.1 (as.map (jE E)))
    (k : jOn p l e R s m args below meth c E dA D base N0 S0 oF VF mcF msF f.2.2.2.1 r) : jWc' p l e R s m args below meth c (jMQ below s E dA D base oF VF mcF msF) E dA D base N0 S0 V (F0 m pc ls (st.map (jE E))) := by
  cases hcl : call t as V with
  | none => rw [hcl] at h; simp [jBack] at h
  | some q =>
    obtain ⟨o, V'⟩ := q
    rw [hcl] at h
    obtain ⟨M, m1, m2, m3⟩ := ih t e' as V o V' he hnl hcl
    have hV' : jRh r = V' := by
      cases o with
      | inl v => cases v <;> (simp [jBack] at h; rw [← h]; rfl)
      | inr a =>
        obtain ⟨cn, hcn, -⟩ := m3 a rfl
        simp only [jBack, hcn] at h
        split at h <;> (cases h; rfl)
    rw [hV'] at hC hCs
    refine js_callW hf K (o := o) hd hl.1 h8 hRf hRl hmx M m1 m2 hC hCs (jMw_ok e' (jMs_mem he) hnl) hwi (jCw_good e') lead ?_ ?_ ?_ ?_ ?_
    · intro v hv
      subst hv
      cases v with
      | none =>
        simp only [jBack, Option.some.injEq] at h
        subst h
        exact k ls hl
      | some v =>
        simp only [jBack, Option.some.injEq] at h
        subst h
        exact k ls hl
    · intro a cn h' ho hcn hj
      subst ho
      simp only [jBack, hcn, hj, Option.some.injEq] at h
      subst h
      exact k ls hl
    · intro a cn ho hcn
      obtain ⟨cn', h1, h2⟩ := m3 a ho
      cases hcn.symm.trans h1
      exact h2
    · intro a cn ho hcn hj
      subst ho
      simp only [jBack, hcn, hj, Option.some.injEq] at h
      subst h
      exact k
    · intro a ho
      obtain ⟨cn, h1, -⟩ := m3 a ho
      exact ⟨cn, h1⟩
theorem jTake {na : Nat} {v : Value} (h : (st.take na).length = na) (hd : st.drop na = v :: rest) : st.map (jE E) = (((st.take na).reverse).map (jE E)).reverse ++ jE E v :: rest.map (jE E) := by
  conv => lhs; rw [← List.take_append_drop na st, hd]
  simp
theorem jTake0 {na : Nat} : st.map (jE E) = (((st.take na).reverse).map (jE E)).reverse ++ (st.drop na).map (jE E) := by
  conv => lhs; rw [← List.take_append_drop na st]
  simp
theorem jClS : (List.range 21).all (fun o => (jCl.getD o []).all (fun q => if q.2.1 = 6 then (o == 10 && q.1 == 129) || (o == 12 && q.1 == 361) else if q.2.1 = 7 then (o == 10 && q.1 == 132) || (o == 12 && q.1 == 367) else if q.2.1 = 8 then (o == 10 && q.1 == 122) || (o == 12 && q.1 == 394) else true)) = true := by decide +kernel
theorem jCl_str {o i kd t na : Nat} (h : jFind jCl o i = some (kd, t, na)) : (kd = 6 → Cond.methodLink (jnm o) i ys_len ∈ lw_g) ∧ (kd = 7 → Cond.methodLink (jnm o) i ys_cha ∈ lw_g) ∧ (kd = 8 → Cond.methodLink (jnm o) i ys_ix1 ∈ lw_g) := by
  have h1 := jFind_mem h
  have ho : o < 21 := by
    by_cases ho : o < jCl.length
    · exact ho
    · rw [List.getD_eq_getElem?_getD, List.getElem?_eq_none (by omega)] at h1
      cases h1
  have h2 := List.all_eq_true.mp (List.all_eq_true.mp jClS o (List.mem_range.mpr ho)) _ h1
  refine ⟨fun hk => ?_, fun hk => ?_, fun hk => ?_⟩ <;> subst hk <;> simp only [Bool.or_eq_true, Bool.and_eq_true, beq_iff_eq, if_true, if_false, reduceIte, Nat.reduceEqDiff] at h2 <;> rcases h2 with ⟨rfl, rfl⟩ | ⟨rfl, rfl⟩
  · exact jj 51 rfl rfl
  · exact jj 53 rfl rfl
  · exact jj 52 rfl rfl
  · exact jj 54 rfl rfl
  · exact jj 50 rfl rfl
  · exact jj 55 rfl rfl
theorem jTx_of {a : Nat} {x : List Char} (h : jTx a = some x) : ∃ q, jSt[a]? = some q ∧ x = q.2.2.toList := by
  unfold jTx at h
  obtain ⟨q, h1, h2⟩ := Option.map_eq_some_iff.mp h
  exact ⟨q, h1, h2.symm⟩
theorem jSumE {rest : List Value} (h : jSum rest ≤ 8) : ((rest.map (jE E)).map fun v => v.category).sum ≤ 8 := by
  rw [List.map_map]
  have : ((fun v : Value => v.category) ∘ jE E) = fun v => v.category := by funext v; exact jE_cat v
  rw [this]
  exact h
set_option maxHeartbeats 4000000 in
theorem js_str (K : jKm p s m args meth c E dA D base N0 X f) (hRf : 16 + (d + 1) ≤ R.frames) (hRl : 600 + 64 * (d + 1) ≤ R.locals) {kx : Nat} (hd : decode f.2.2.1 pc = .ok (.invokevirtual kx, 3)) (hl : lv_has ls f.2.2.2.1 (lc.map (jEl E)))
    {a na fr lo ny : Nat} {q : Nat × Nat × String} {y : MethodName} {cy : ByteArray} {ret : Option FieldType} {as' : List Value} {v : Value} (hi : jSt[a]? = some q) (M : jPs l E base X y cy ny ret fr lo (.ref (E a) :: as') (some v)) (hw : Cond.code y cy ny ret ∈ lw_g) (hln : Cond.methodLink (jnm f.2.1) kx y ∈ lw_g) (hst : Cond.instanceMethod y ∈ lw_g) (hse : Cond.selects "java/lang/String" y y ∈ lw_g) (hin : Cond.initialized y.cls ∈ lw_g)
    (hdd : y.cls ≠ "java/lang/invoke/MethodHandle" ∧ y.cls ≠ "java/lang/invoke/VarHandle" ∧ (parseMethodDescriptor y.desc).map (fun d => d.parameters.length) = some na) (hna : as'.length = na) (hfr : fr ≤ 3) (hlo : lo ≤ 70) (hny : ny ≤ 2) (hsk : st.map (jE E) = as'.reverse ++ .ref (E a) :: rest.map (jE E)) (h8 : jSum rest ≤ 8) (hC : V.length ≤ R.cells + N0) (hCs : jSl V ≤ R.slots + S0)
    (k : jWc' p l e R s m args below meth c (jMQ below s E dA D base oF VF mcF msF) E dA D base N0 S0 V (F0 m (pc + 3) ls (v :: rest.map (jE E)))) : jWc' p l e R s m args below meth c (jMQ below s E dA D base oF VF mcF msF) E dA D base N0 S0 V (F0 m pc ls (st.map (jE E))) := by
  obtain ⟨⟨hx, hb, hE, hts, hown, hK, h0, hini, -, -, -⟩, hml, htab, hlocks, hret, hO⟩ := K
  intro H locs cells slots hP hS hc hs
  refine js_size hP hS h0 hc (fun hz => ?_)
  refine jq_virtual hx hb (by rw [hml, hl.1]) hown hts hO (by omega) hS (by omega) (by omega) (by omega) hi M hw hln hst hse hin hdd hna ⟨by omega, by omega⟩ hsk (jSumE h8) hd ?_
  exact k H locs cells slots hP hS hc hs
set_option maxHeartbeats 8000000 in
theorem js_invoke (hf : f ∈ jMs) (K : jKm p s m args meth c E dA D base N0 X f) (hRf : 16 + (d + 1) ≤ R.frames) (hRl : 600 + 64 * (d + 1) ≤ R.locals) (ih : jIh l E dA D base X d call) {i : Instr} {n : Nat}
    (hd : decode f.2.2.1 pc = .ok (i, n)) (hl : lv_has ls f.2.2.2.1 (lc.map (jEl E))) (h : jInvoke call f f.2.1 i n pc lc st V = some r) (hC : (jRh r).length ≤ R.cells + N0) (hCs : jSl (jRh r) ≤ R.slots + S0)
    (k : jOn p l e R s m args below meth c E dA D base N0 S0 oF VF mcF msF f.2.2.2.1 r) : jWc' p l e R s m args below meth c (jMQ below s E dA D base oF VF mcF msF) E dA D base N0 S0 V (F0 m pc ls (st.map (jE E))) := by
  have K' := K
  obtain ⟨⟨hx, hb, hE, hts, hown, hK, h0, hini, -, -, -⟩, hml, htab, hlocks, hret, hO⟩ := K'
  unfold jInvoke at h
  split at h
  · -- invokevirtual
    rename_i kx
    split at h
    · rename_i t na hq
      split at h
      · rename_i a rest' hdrop
        split at h
        · rename_i oo f' hat he
          split at h
          · rename_i hcond
            obtain ⟨c1, c2, c3⟩ := hcond
            obtain ⟨ht18, hpar, hmh, hcn, h40, hnl, hk0, -, -⟩ := jCl_own hq (by omega) he
            obtain ⟨s1, s2, s3⟩ := hk0 rfl
            obtain ⟨ha, hV⟩ := jAt_of hat
            obtain ⟨oc, fs⟩ := oo
            have hwn := jWn_ok he ht18
            simp only [jWn, s1, Bool.false_eq_true, if_false, if_neg s2] at hwn
            have hwi : Cond.initialized f'.1.cls ∈ lw_tbl := hwn _ (by simp)
            refine js_backW hf K hRf hRl ih he hnl h40 hwi hd hl c3 h hC hCs (fun T locs cells slots hP Y => ?_) k
            obtain ⟨r', hr', cell, g1, g2, g3, -⟩ := hP _ _ (jw_get hV)
            have hoc : oc < 13 := by rw [show oc = f'.2.1 from c2]; exact s3
            refine jl_virtual Y hx hown (hts _ (lg (jCl_link hq (by omega) he) rfl)) (hts _ (lg (hwn _ (by simp)) rfl)) (hts _ (lg (hwn _ (by simp)) rfl)) (hts _ (lg (jMw_ok f' (jMs_mem he) hnl) (jCw_good f'))) hmh (b := E a) (cellB := cell) (by rw [jE_at hE ha]; exact g1) (by rw [g3]; rfl) ?_ rfl (fun sig hs => ?_) (by rw [jTake c1 hdrop]; rfl) (by rw [hb]; exact hd)
            · rw [hcn, g2, ← show oc = f'.2.1 from c2]
              exact (hK.1 oc _ (jCs_get (by omega))).2.1
            · rw [hs] at hpar
              simp only [Option.map_some, Option.some.injEq] at hpar
              rw [hpar]
              simpa using c1
          · cases h
        · cases h
      · cases h
    · rename_i hq
      split at h
      · split at h
        · rename_i x hx'
          split at h
          · rename_i hcond
            cases h
            obtain ⟨q, hi, rfl⟩ := jTx_of hx'
            have e1 : q.2.2.toList.length = q.2.2.length := String.length_toList
            rw [e1] at k
            exact js_str K hRf hRl hd hl hi (jc_len hi) (jj 0 rfl rfl) ((jCl_str hq).1 rfl) (jj 1 rfl rfl) (jj 2 rfl rfl) (jj 34 rfl rfl) (na := 0) (by decide +kernel) rfl (by omega) (by omega) (by omega) rfl hcond.1 hC hCs (k ls hl)
          · cases h
        · cases h
      · cases h
    · rename_i hq
      split at h
      · split at h
        · rename_i x hx'
          split at h
          · rename_i hcond
            cases h
            obtain ⟨q, hi, rfl⟩ := jTx_of hx'
            have e1 : q.2.2.toList.length = q.2.2.length := String.length_toList
            have hcj := hcond.2.2
            rw [e1] at hcj
            exact js_str K hRf hRl hd hl hi (jc_cha hi hcj) (jj 9 rfl rfl) ((jCl_str hq).2.1 rfl) (jj 10 rfl rfl) (jj 11 rfl rfl) (jj 34 rfl rfl) (na := 1) (by decide +kernel) rfl (by omega) (by omega) (by omega) rfl hcond.1 hC hCs (k ls hl)
          · cases h
        · cases h
      · cases h
    · rename_i hq
      split at h
      · split at h
        · rename_i x hx'
          split at h
          · rename_i hcond
            cases h
            obtain ⟨q, hi, rfl⟩ := jTx_of hx'
            exact js_str K hRf hRl hd hl hi (jc_ix1 hi hcond.2.2.1 hcond.2.2.2) (jj 18 rfl rfl) ((jCl_str hq).2.2 rfl) (jj 19 rfl rfl) (jj 20 rfl rfl) (jj 34 rfl rfl) (na := 1) (by decide +kernel) rfl (by omega) (by omega) (by omega) rfl hcond.1 hC hCs (k ls hl)
          · cases h
        · cases h
      · cases h
    · cases h
  · -- invokestatic
    rename_i kx
    split at h
    · rename_i t na hq
      split at h
      · rename_i hcond
        obtain ⟨c1, c3⟩ := hcond
        cases he : jMs[t]? with
        | none =>
          have h1 := jCl_ok hq
          simp [jClOk, he] at h1
        | some f' =>
          obtain ⟨ht18, hpar, hmh, hcn, h40, hnl, -, hk1, -⟩ := jCl_own hq (by omega) he
          have s1 := hk1 rfl
          have hwn := jWn_ok he ht18
          simp only [jWn, s1, if_true] at hwn
          have hwi : Cond.initialized f'.1.cls ∈ lw_tbl := hwn _ (by simp)
          refine js_backW hf K hRf hRl ih he hnl h40 hwi hd hl c3 h hC hCs (fun T locs cells slots hP Y => ?_) k
          refine jl_static Y hx hown (hts _ (lg (jCl_link hq (by omega) he) rfl)) (hts _ (lg (hwn _ (by simp)) rfl)) (hts _ (lg hwi rfl)) (hts _ (lg (jMw_ok f' (jMs_mem he) hnl) (jCw_good f'))) hmh rfl (fun sig hs => ?_) jTake0 (by rw [hb]; exact hd)
          rw [hs] at hpar
          simp only [Option.map_some, Option.some.injEq] at hpar
          rw [hpar]
          simpa using c1
      · cases h
    · rename_i hq
      split at h
      · split at h
        · rename_i hat hbt
          split at h
          · rename_i hcond
            obtain ⟨c1, c2, c3, c4, c5, c6⟩ := hcond
            cases h
            exact js_copy K (by omega) (by omega) hq hd hl c1 hat hbt c2 c3 c4 c5 c6 (k ls hl)
          · cases h
        · cases h
      · cases h
    · cases h
  · -- invokespecial
    rename_i kx
    split at h
    · rename_i hq
      split at h
      · rename_i a rest'
        split at h
        · rename_i hcond
          cases h
          exact js_obj K (by omega) (by omega) hq hd hl hcond.1 (k ls hl)
        · cases h
      · cases h
    · rename_i kd t na hne hq
      split at h
      · rename_i hkd
        split at h
        · rename_i a rest' hdrop
          split at h
          · rename_i hcond
            obtain ⟨c1, c3, c4⟩ := hcond
            have hkd4 : kd < 4 := by omega
            cases he : jMs[t]? with
            | none =>
              have h1 := jCl_ok hq
              simp [jClOk, he] at h1
              omega
            | some f' =>
              obtain ⟨ht18, hpar, hmh, hcn, h40, hnl, -, -, hk2⟩ := jCl_own hq hkd4 he
              obtain ⟨s1, s2, s3, s4⟩ := hk2 (by omega)
              have hwn := jWn_ok he ht18
              simp only [jWn, s1, Bool.false_eq_true, if_false, if_pos s2] at hwn
              have hwi : Cond.initialized f'.1.cls ∈ lw_tbl := hwn _ (by simp)
              have hcd : Cond.code f'.1 f'.2.2.1 f'.2.2.2.1 none ∈ lw_tbl := by
                have := jMw_ok f' (jMs_mem he) hnl
                unfold jCw at this
                rw [s3, s4] at this
                exact this
              refine js_backW hf K hRf hRl ih he hnl h40 hwi hd hl c3 h hC hCs (fun T locs cells slots hP Y => ?_) k
              refine jl_init Y hx hown s2 ?_ (hts _ (lg (hwn _ (by simp)) rfl)) (hts _ (lg hcd rfl)) hmh rfl (fun sig hs => ?_) (by rw [jTake c1 hdrop]; rfl) (by rw [hb]; exact hd)
              · rcases hkd with rfl | rfl
                · exact Or.inl (hts _ (lg (jCl_link hq (by omega) he) rfl))
                · exact Or.inr ⟨_, va_Nw.use rfl (hO.2.2.1 f.2.1 kx (t, na) hq f' he)⟩
              · rw [hs] at hpar
                simp only [Option.map_some, Option.some.injEq] at hpar
                rw [hpar]
                simpa using c1
          · cases h
        · cases h
      · cases h
    · cases h
  · cases h
end JV
