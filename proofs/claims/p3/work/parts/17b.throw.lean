/-! throw new E("..") in a walk -/
theorem jGet'_dec {f : jM} (hf : f ∈ jMs) {pc : Nat} {q : Instr × Nat} (h : jGet' f pc = some q) : decode f.2.2.1 pc = .ok (q.1, q.2) := by
  have h5 : jDec f := jMs_ok f hf
  clear hf
  unfold jDec at h5
  unfold jGet' at h
  obtain ⟨x, h1, h2⟩ := Option.map_eq_some_iff.mp h
  have h3 : x ∈ f.2.2.2.2.2.2 := List.mem_of_find?_eq_some h1
  have h4 : (x.1 == pc) = true := List.find?_some (p := fun q : Nat × Instr × Nat => q.1 == pc) h1
  have h6 := h5 x h3
  rw [← h2, ← eq_of_beq h4]
  exact h6
theorem jIsS_ref {o : Option Value} (h : jIsS o = true) : ∃ i, o = some (.ref i) := by
  unfold jIsS at h
  split at h
  · exact ⟨_, rfl⟩
  · cases h
section JTH
variable {p : Program} {l : Launch} {e : Env} {R : Room} {s : State} {m : MethodId} {args : Array Value} {below : List Frame} {meth : Method} {c : Code}
variable {E : Nat → Nat} {dA : Nat → ClassId} {D : va_G} {base N0 S0 : Nat} {X : jX} {f : jM} {mcF msF pc : Nat} {ls : Array Slot} {lc : jL} {st : List Value} {V VF : jH} {oF : jO}
set_option maxHeartbeats 4000000 in
/-- behind new, dup and the text: the constructor, athrow, and out -/
theorem jth_end (htr : ∀ e : Env, l.admits e → e.platform.stackTraces = false) (K : jKm p s m args meth c E dA D base N0 X f) (hRf : 17 ≤ R.frames) (hRl : 664 ≤ R.locals) (hl : lv_has ls f.2.2.2.1 (lc.map (jEl E))) (h8 : jSum st ≤ 8) (hh : f.2.2.2.2.2.1 = []) {cn q qc : Nat} (h13 : 13 ≤ cn) (h18 : cn < 18) (hq : jFind jCl f.2.1 q = some (5, cn, 1))
    (hd6 : decode f.2.2.1 qc = .ok (.invokespecial q, 3)) (hd9 : decode f.2.2.1 (qc + 3) = .ok (.athrow, 1)) {H : Heap} {locs : List Loc} {cells slots : Nat} (hP : va_P D jCs (jw E dA base V) H) (hS : va_S (jAb base) s.heap H locs) (hz : H.size = base + V.length) (hc : cells + N0 = V.length) (hs : slots + S0 = jSl V)
    {cX : ClassId} {kX : Class} (hfc : s.vm.findClass (jnm cn) = some cX) (hk : s.vm.classes[cX]? = some kX) {msg : Nat} (ho : oF = .inr (64 + V.length)) (hV : VF = V ++ [.inr (cn, [])]) (hmF : mcF + N0 = VF.length) (hsF : msF + S0 = jSl VF) :
    W p l e R s m args below meth c (H.push (freshCell cX kX)) locs (cells + 1) (slots + 6) (jMQ below s E dA D base oF VF mcF msF) (F0 m qc ls (.ref msg :: .ref H.size :: .ref H.size :: st.map (jE E))) := by
  obtain ⟨⟨hx, hb, hE, hts, hown, hK, h0, hini, -, -, -⟩, hml, htab, hlocks, hret, hO⟩ := K
  intro T hT Y
  have hcat : ((st.map (jE E)).map fun v => v.category).sum ≤ 8 := by
    rw [List.map_map]
    have : ((fun v : Value => v.category) ∘ jE E) = fun v => v.category := by funext v; exact jE_cat v
    rw [this]
    exact h8
  obtain ⟨t, cell, L, hst, hrun, hend, hfr, hL, hcell, hcls, hvm, hsz, hkeep⟩ := ja_ctor hx (htr e Y.admits) Y hts hO (by omega) hS.2.2 hown h13 h18 hq hfc hk (a := H.size) (by rw [hT]; simp) (by omega) (g := F0 m qc ls (.ref msg :: .ref H.size :: .ref H.size :: st.map (jE E))) rfl (by show ls.size = _; rw [hml]; exact hl.1) rfl rfl hlocks rfl (by rw [hb]; exact hd6) (by rw [hb]; exact hd9) (by
    have := htab
    rw [hh] at this
    simpa using this) hRf (by
    simp only [List.map_cons, List.sum_cons]
    show 2 * 0 + (1 + _) + 200 ≤ _
    omega)
  have hTs : T.heap.size = base + V.length + 1 := by rw [hT, Array.size_push, hz]
  have hTk : ∀ q : Nat, q < H.size → T.heap[q]? = H[q]? := fun q hq => by rw [hT, Array.getElem?_push, if_neg (Nat.ne_of_lt hq)]
  have hsl : jSl VF = jSl V + 6 := by
    rw [hV, jSl_push]
    show _ + (if cn < 13 then jN cn else 6) = _
    rw [if_neg (by omega)]
  have hlen : VF.length = V.length + 1 := by rw [hV]; simp
  have hall : ∀ q : Nat, q < H.size → t.heap[q]? = H[q]? := fun q hq => by rw [hkeep q (Nat.ne_of_lt hq)]; exact hTk q hq
  refine ⟨t, hst, hrun, ?_, ⟨?_, ?_, ?_⟩, locs ++ L, ?_, ?_⟩
  · rw [ho]
    show Ended t below (.threw (E (64 + V.length)))
    rw [hE V.length, ← hz]
    exact hend
  · rw [hsz, hTs, hlen]
    omega
  · rw [hV, jw_push]
    refine va_P.app (hP.kept (fun k q hq => hall _ (hP k q hq).lt)) (fun k q hq => ?_)
    have hk0 : k < 1 := (List.getElem?_eq_some_iff.mp hq).1
    rw [show k = 0 by omega] at hq
    cases hq
    refine ⟨_, jCs_get h18, cell, ?_, ?_, hvm, fun j hj => ?_⟩
    · show t.heap[base + V.length]? = _
      rw [← hz]
      exact hcell
    · rw [hcls]
      exact Option.some.inj (hfc.symm.trans (hK.1 cn _ (jCs_get h18)).2.1)
    · exfalso
      have h0' : jN cn = 0 := by
        rcases (show cn = 13 ∨ cn = 14 ∨ cn = 15 ∨ cn = 16 ∨ cn = 17 by omega) with rfl | rfl | rfl | rfl | rfl <;> decide +kernel
      have hj' : j < jN cn := hj
      omega
  · refine ⟨by rw [hsz, hTs]; have := hS.1; omega, fun q h1 h2 => ?_⟩
    rw [hall q (by have := hS.1; omega)]
    exact hS.2.1 q h1 h2
  · rw [show mcF = cells + 1 by omega, show msF = slots + 6 by omega]
    exact hfr
  · intro x hx'
    rcases List.mem_append.mp hx' with z | z
    · exact hS.2.2 x z
    · rw [show x.base = H.size from hL x z]
      show base ≤ _
      omega
set_option maxHeartbeats 4000000 in
theorem js_throw {d : Nat} {r : jR} (htr : ∀ e : Env, l.admits e → e.platform.stackTraces = false) (hf : f ∈ jMs) (K : jKm p s m args meth c E dA D base N0 X f) (hRf : 16 + (d + 1) ≤ R.frames) (hRl : 600 + 64 * (d + 1) ≤ R.locals) {i : Instr} {n : Nat}
    (hd : decode f.2.2.1 pc = .ok (i, n)) (hl : lv_has ls f.2.2.2.1 (lc.map (jEl E))) (h : jThrow f f.2.1 i n pc st V = some r) (hC : (jRh r).length ≤ R.cells + N0) (hCs : jSl (jRh r) ≤ R.slots + S0)
    (k : jOn p l e R s m args below meth c E dA D base N0 S0 oF VF mcF msF f.2.2.2.1 r) : jWc' p l e R s m args below meth c (jMQ below s E dA D base oF VF mcF msF) E dA D base N0 S0 V (F0 m pc ls (st.map (jE E))) := by
  intro H locs cells slots hP hS hc hs
  have K' := K
  obtain ⟨⟨hx, hb, hE, hts, hown, hK, h0, hini, -, hZ, -⟩, hml, htab, hlocks, hret, hO⟩ := K'
  refine js_size hP hS h0 hc (fun hz => ?_)
  unfold jThrow at h
  split at h
  · rename_i kx
    split at h
    · rename_i cn s' hcn hdup hldc
      split at h
      · rename_i hcond
        obtain ⟨h13, h18, h8, hh, hstr, hath⟩ := hcond
        split at h
        · rename_i q hinv
          split at h
          · rename_i hq
            cases h
            obtain ⟨i', hi'⟩ := jIsS_ref hstr
            obtain ⟨qq, hq0, hq1, hq2⟩ := jCn_ref hi'
            have hzz := hZ _ qq hq0
            rw [hq1, hq2] at hzz
            have hcl : cells + 1 ≤ R.cells := by have := jC1 hC; omega
            have hsl : slots + 6 ≤ R.slots := by
              have : jSl V + 6 ≤ R.slots + S0 := by
                have hz1 : jSl (V ++ [.inr (cn, [])]) ≤ R.slots + S0 := hCs
                rw [jSl_push] at hz1
                have hz2 : jSl1 (.inr (cn, [])) = 6 := if_neg (by omega)
                rw [hz2] at hz1
                exact hz1
              omega
            have hlk : _ ∈ jWk f.2.1 := List.mem_map.mpr ⟨_, jFind_mem hcn, rfl⟩
            have how := ja_o h13 h18 hts
            refine W.newc hx hb hown (hts _ (lg (jWk_ok f.2.1 _ hlk) rfl)) (how (.instantiable (jnm cn) 6) (by simp [jOwn])) (how (.initialized (jnm cn)) (by simp [jOwn])) rfl hd hcl hsl (fun cC kC g1 g2 g3 g4 => ?_)
            refine lv_dup hx hb (jGet'_dec hf hdup) rfl ?_
            refine va_ldcS hx hb hown hzz (jGet'_dec hf hldc) ?_
            exact jth_end htr K (by omega) (by omega) hl h8 hh h13 h18 hq (jGet'_dec hf hinv) (jGet'_dec hf hath) hP hS hz hc hs g1 g2 k.1 k.2.1 (by rw [k.2.1]; exact k.2.2.1) (by rw [k.2.1]; exact k.2.2.2)
          · cases h
        · cases h
      · cases h
    · rename_i cn s' hcn hdup hldc
      split at h
      · rename_i hcond
        obtain ⟨h13, h18, h8, hh, hstr, hath⟩ := hcond
        split at h
        · rename_i q hinv
          split at h
          · rename_i hq
            cases h
            obtain ⟨i', hi'⟩ := jIsS_ref hstr
            obtain ⟨qq, hq0, hq1, hq2⟩ := jCn_ref hi'
            have hzz := hZ _ qq hq0
            rw [hq1, hq2] at hzz
            have hcl : cells + 1 ≤ R.cells := by have := jC1 hC; omega
            have hsl : slots + 6 ≤ R.slots := by
              have : jSl V + 6 ≤ R.slots + S0 := by
                have hz1 : jSl (V ++ [.inr (cn, [])]) ≤ R.slots + S0 := hCs
                rw [jSl_push] at hz1
                have hz2 : jSl1 (.inr (cn, [])) = 6 := if_neg (by omega)
                rw [hz2] at hz1
                exact hz1
              omega
            have hlk : _ ∈ jWk f.2.1 := List.mem_map.mpr ⟨_, jFind_mem hcn, rfl⟩
            have how := ja_o h13 h18 hts
            refine W.newc hx hb hown (hts _ (lg (jWk_ok f.2.1 _ hlk) rfl)) (how (.instantiable (jnm cn) 6) (by simp [jOwn])) (how (.initialized (jnm cn)) (by simp [jOwn])) rfl hd hcl hsl (fun cC kC g1 g2 g3 g4 => ?_)
            refine lv_dup hx hb (jGet'_dec hf hdup) rfl ?_
            refine jr_ldcwS hx hb hown hzz (jGet'_dec hf hldc) ?_
            exact jth_end htr K (by omega) (by omega) hl h8 hh h13 h18 hq (jGet'_dec hf hinv) (jGet'_dec hf hath) hP hS hz hc hs g1 g2 k.1 k.2.1 (by rw [k.2.1]; exact k.2.2.1) (by rw [k.2.1]; exact k.2.2.2)
          · cases h
        · cases h
      · cases h
    · cases h
  · cases h
end JTH
