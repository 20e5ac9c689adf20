/-! the machine does what J does: the heap's instructions -/
theorem jTs_get {dA : Nat → ClassId} {k : Nat} {t : FieldType} (h : jAk[k]? = some t) : (jTs dA)[k]? = some (dA k, t) := by
  simp [jTs, List.getElem?_mapIdx, h]
theorem jIn_in {i : Int32} {n : Nat} (h : jIn i n = true) : vp_in i n := by
  unfold jIn at h
  simp only [Bool.and_eq_true, Bool.not_eq_true', decide_eq_false_iff_not, decide_eq_true_eq] at h
  intro z
  rcases z with z | z
  · exact h.1 z
  · omega
theorem jFit_ok {E : Nat → Nat} {t : FieldType} {v : Value} (h : jFit t v = true) : narrow t (jE E v) = jE E v ∧ fits t (jE E v) = true := by
  unfold jFit at h
  split at h
  · exact ⟨rfl, rfl⟩
  · rename_i x
    simp only [Bool.or_eq_true, beq_iff_eq] at h
    rcases h with rfl | rfl
    · exact ⟨(by decide +kernel : narrow .boolean (.int 0) = .int 0), (by decide +kernel : fits .boolean (.int 0) = true)⟩
    · exact ⟨(by decide +kernel : narrow .boolean (.int 1) = .int 1), (by decide +kernel : fits .boolean (.int 1) = true)⟩
  · exact ⟨rfl, rfl⟩
  · exact ⟨rfl, rfl⟩
  · exact ⟨rfl, rfl⟩
  · exact ⟨rfl, rfl⟩
  · exact ⟨rfl, rfl⟩
  · cases h
theorem jAk_obj {kd : Nat} (h1 : 4 ≤ kd) (h2 : kd < 8) : ∃ C, jAk[kd]? = some (.object C) := by
  rcases (show kd = 4 ∨ kd = 5 ∨ kd = 6 ∨ kd = 7 by omega) with rfl | rfl | rfl | rfl
  · exact ⟨_, rfl⟩
  · exact ⟨_, rfl⟩
  · exact ⟨_, rfl⟩
  · exact ⟨_, rfl⟩
theorem jAk_lt {kd : Nat} (h : kd < 8) : ∃ t, jAk[kd]? = some t := ⟨_, List.getElem?_eq_getElem (show kd < jAk.length from h)⟩
theorem jOver_ok {c kd : Nat} (h : jOver c = some kd) : c < 18 ∧ jAk[kd]? = some (.object (jnm c)) := by
  unfold jOver at h
  split at h
  · rename_i hc; subst hc; cases h; exact ⟨by omega, by decide +kernel⟩
  · split at h
    · rename_i hc; subst hc; cases h; exact ⟨by omega, by decide +kernel⟩
    · split at h
      · rename_i hc; subst hc; cases h; exact ⟨by omega, by decide +kernel⟩
      · split at h
        · rename_i hc; subst hc; cases h; exact ⟨by omega, by decide +kernel⟩
        · cases h
theorem jE_rf {E : Nat → Nat} (o : Option Nat) : jE E (va_rf o) = va_rf (o.map E) := by
  cases o <;> rfl
theorem jEup {E : Nat → Nat} {f : Nat → Option Nat} {i : Nat} {x : Option Nat} : (fun j => (va_up f i x j).map E) = va_up (fun j => (f j).map E) i (x.map E) := by
  funext j
  unfold va_up
  split <;> rfl
theorem jEc_arr {E : Nat → Nat} {dA : Nat → ClassId} (kd mm : Nat) (x : (Nat → Int32) ⊕ (Nat → Int64) ⊕ (Nat → UInt32) ⊕ (Nat → UInt64) ⊕ (Nat → Option Nat)) : ∃ y : vp_A, jEc E dA (.inl (kd, mm, x)) = .inl (dA kd, y) ∧ y.1 = mm := by
  rcases x with x | x | x | x | x
  · exact ⟨_, rfl, rfl⟩
  · exact ⟨_, rfl, rfl⟩
  · exact ⟨_, rfl, rfl⟩
  · exact ⟨_, rfl, rfl⟩
  · exact ⟨_, rfl, rfl⟩
theorem jSl_setA {V : jH} {k kd mm kd' : Nat} {x y : (Nat → Int32) ⊕ (Nat → Int64) ⊕ (Nat → UInt32) ⊕ (Nat → UInt64) ⊕ (Nat → Option Nat)} (h : V[k]? = some (.inl (kd, mm, x))) : jSl (V.set k (.inl (kd', mm, y))) = jSl V := jSl_set h rfl
theorem jSl_setO {V : jH} {k n : Nat} {x y : List Value} (h : V[k]? = some (.inr (n, x))) : jSl (V.set k (.inr (n, y))) = jSl V := jSl_set h rfl
theorem jC1 {V : jH} {x : jC} {n : Nat} (h : (V ++ [x]).length ≤ n) : V.length + 1 ≤ n := by
  simpa using h
theorem jOver_w {c kd : Nat} (h : jOver c = some kd) : Cond.arrayOver (.object (jnm c)) ∈ lw_tbl := by
  refine jMem _ jWa_ok _ ?_
  unfold jOver at h
  split at h
  · rename_i hc; subst hc; decide +kernel
  · split at h
    · rename_i hc; subst hc; decide +kernel
    · split at h
      · rename_i hc; subst hc; decide +kernel
      · split at h
        · rename_i hc; subst hc; decide +kernel
        · cases h
/-- a text's place among the constants -/
theorem jCnB : (List.range jCn.length).all (fun o => (jCn.getD o []).all (fun q => match q.2 with
    | .ref i => match jSt[i]? with
      | some t => decide (t.1 = o) && decide (t.2.1 = q.1)
      | none => false
    | _ => true)) = true := by decide +kernel
theorem jCn_ref {o i n : Nat} (h : jFind jCn o i = some (.ref n)) : ∃ q, jSt[n]? = some q ∧ q.1 = o ∧ q.2.1 = i := by
  have h1 := jFind_mem h
  have ho : o < jCn.length := by
    rcases Nat.lt_or_ge o jCn.length with z | z
    · exact z
    · rw [List.getD_eq_getElem?_getD, List.getElem?_eq_none z] at h1
      cases h1
  have h2 := List.all_eq_true.mp (List.all_eq_true.mp jCnB o (List.mem_range.mpr ho)) _ h1
  dsimp only at h2
  split at h2
  · rename_i q hq
    simp only [Bool.and_eq_true, decide_eq_true_eq] at h2
    exact ⟨q, hq, h2.1, h2.2⟩
  · cases h2
theorem jE_default {E : Nat → Nat} (t : FieldType) : jE E (defaultValue t) = defaultValue t := by
  cases t <;> rfl
section JH
variable {p : Program} {l : Launch} {e : Env} {R : Room} {s : State} {m : MethodId} {args : Array Value} {below : List Frame} {meth : Method} {c : Code} {H : Heap} {locs : List Loc} {cells slots : Nat} {Q : State → Prop}
variable {cc : ByteArray} {pc : Nat} {ls : Array Slot}
variable {E : Nat → Nat} {dA : Nat → ClassId} {D : va_G} {base N0 S0 b : Nat} {V : jH} {X : jX}
theorem jr_ldcwS (hexec : p.tables.exec = Jvm.exec) (hb : c.code = cc) {own tx : String} {index q : Nat} {rest : List Value} (hown : s.vm.findClass own = some m.cls) (hZ : vk_R own index tx q s) (hdg : decode cc pc = .ok (.ldc_w index, 3))
    (k : W p l e R s m args below meth c H locs cells slots Q (F0 m (pc + 3) ls (.ref q :: rest))) : W p l e R s m args below meth c H locs cells slots Q (F0 m pc ls rest) := by
  intro T hT Y
  obtain ⟨t, a1, b1⟩ := k T hT Y
  refine ⟨t, ?_, b1⟩
  obtain ⟨k, cf, i, a', hk, hcf, hcp, -, hr, hev'⟩ := Cond.stringRef_spec hown hZ.1
  cases hZ.2.symm.trans hev'
  obtain ⟨k', hk', he⟩ := Y.warmed.alike.2.2 _ _ hk
  have hr' : k'.resolved[index]? = some (some (.string q)) := by
    rcases Y.warmed.entry hk hk' index with h | ⟨h, -⟩
    · rw [h]; exact hr
    · rw [hr] at h; cases h
  have hdg' : decode c.code (F0 m pc ls rest).pc = .ok (.ldc_w index, 3) := by rw [hb]; exact hdg
  jvm_step Y.here [hexec, hdg', Op.ldc_w.wp_string (e := e) (s := T) (f := F0 m pc ls rest) Y.here.top hk' (by rw [he]; exact hcf) hcp hr']
  exact a1
/-- what a method's walk knows from its entry on -/
def jKn (p : Program) (s : State) (m : MethodId) (args : Array Value) (meth : Method) (c : Code) (cc : ByteArray) (E : Nat → Nat) (dA : Nat → ClassId) (D : va_G) (base N0 ow : Nat) (ini : Bool) (X : jX) : Prop :=
  p.tables.exec = Jvm.exec ∧ c.code = cc ∧ jEok base E ∧ (∀ w ∈ lw_g, w.before args s = true) ∧ s.vm.findClass (jnm ow) = some m.cls ∧ va_K D jCs (jTs dA) s ∧ s.heap.size = base + N0 ∧
  (ini = true → meth.name = "<init>") ∧ (va_X (E 63) X.1 X.2 s s.heap ∧ E 63 < base) ∧ (∀ i q, jSt[i]? = some q → vk_R (jnm q.1) q.2.1 q.2.2 (E i) s) ∧ ∀ c kd, jOver c = some kd → va_AO (jnm c) s
def jWc' (p : Program) (l : Launch) (e : Env) (R : Room) (s : State) (m : MethodId) (args : Array Value) (below : List Frame) (meth : Method) (c : Code) (Q : State → Prop) (E : Nat → Nat) (dA : Nat → ClassId) (D : va_G) (base N0 S0 : Nat) (V : jH) (g : JFrame) : Prop :=
  ∀ (H : Heap) (locs : List Loc) (cells slots : Nat), va_P D jCs (jw E dA base V) H → va_S (jAb base) s.heap H locs → cells + N0 = V.length → slots + S0 = jSl V → W p l e R s m args below meth c H locs cells slots Q g
theorem jCl_eq {dA : Nat → ClassId} {D : va_G} {s : State} {t : FieldType} {kd : Nat} {cA : ClassId} (hK : va_K D jCs (jTs dA) s) (hk : jAk[kd]? = some t) (h : va_RA s cA t) : cA = dA kd := by
  have h1 := (hK.2 kd _ (jTs_get hk)).2
  cases t with
  | object C =>
    obtain ⟨_, _, _, _, _, f1⟩ := h
    obtain ⟨_, _, _, _, _, f2⟩ := h1
    exact Option.some.inj (f1.symm.trans f2)
  | _ => exact Option.some.inj (h.symm.trans h1)
set_option maxHeartbeats 8000000 in
theorem js_heap {ow n : Nat} {ini : Bool} {i : Instr} {st : List Value} {r : List Value × jH} (K : jKn p s m args meth c cc E dA D base N0 ow ini X) (hd : decode cc pc = .ok (i, n)) (h : jHeap X ow ini i n st V = some r)
    (hC : r.2.length ≤ R.cells + N0) (hCs : jSl r.2 ≤ R.slots + S0)
    (k : jWc' p l e R s m args below meth c Q E dA D base N0 S0 r.2 (F0 m (pc + n) ls (r.1.map (jE E)))) : jWc' p l e R s m args below meth c Q E dA D base N0 S0 V (F0 m pc ls (st.map (jE E))) := by
  intro H locs cells slots hP hS hc hs
  obtain ⟨hx, hb, hE, hts, hown, hK, h0, hini, ⟨hX, hXb⟩, hZ, hAO⟩ := K
  have hA : ∀ q, s.heap.size ≤ q → jAb base q := fun q hq => by show base ≤ q; omega
  have hD : va_D (jAb base) (jw E dA base V) := jw_D
  unfold jHeap at h
  split at h
  · -- getfield
    rename_i kx a st'
    split at h
    · rename_i q o hl hat
      split at h
      · rename_i hq
        obtain ⟨v, hv, rfl⟩ := Option.map_eq_some_iff.mp h
        obtain ⟨ha, hV⟩ := jAt_of hat
        obtain ⟨qc, qk⟩ := q
        obtain ⟨oc, fs⟩ := o
        cases hq
        obtain ⟨h13, hN⟩ := jFl_lt hl
        have hw := jw_get (E := E) (dA := dA) (base := base) hV
        have hlk : _ ∈ jWf ow := List.mem_map.mpr ⟨_, jFind_mem hl, rfl⟩
        simp only [List.map_cons, jE]
        rw [jE_at hE ha]
        exact va_get (C := jnm qc) (T := jT qc) (N := jN qc) (ref := jnm qc) hx hb hts (jU_g qc h13) hown hK hP (a - 64) hw (jCs_get (by omega)) qk hN (hts _ (lg (jWf_ok ow _ hlk) rfl)) (fun x hx => by rw [jT1 h13 hN] at hx; exact hx) (v := jE E v) (by rw [List.getElem?_map, show fs[qk]? = some v from hv]; rfl) hd (k _ _ _ _ hP hS hc hs)
      · cases h
    · cases h
  · -- putfield
    rename_i kx v a st'
    split at h
    · rename_i q o hl hat
      split at h
      · rename_i f t hf ht
        split at h
        · rename_i hq
          cases h
          obtain ⟨ha, hV⟩ := jAt_of hat
          obtain ⟨qc, qk⟩ := q
          obtain ⟨oc, fs⟩ := o
          obtain ⟨hq1, hq2, hq3, hq4⟩ := hq
          cases hq1
          obtain ⟨h13, hN⟩ := jFl_lt hl
          have hw := jw_get (E := E) (dA := dA) (base := base) hV
          have hlk : _ ∈ jWf ow := List.mem_map.mpr ⟨_, jFind_mem hl, rfl⟩
          have hT : jT qc qk = f := by simp only [jT, List.getD_eq_getElem?_getD] at hf ⊢; rw [hf]; rfl
          have hty : parseFieldDescriptor (jT qc qk).2.2.1 = some t := by
            have := jY_ok qc h13 qk hN
            simp only [List.getD_eq_getElem?_getD] at this ht
            rw [ht] at this
            exact this
          obtain ⟨n1, n2⟩ := jFit_ok (E := E) hq3
          have hst : (v :: Value.ref a :: st').map (jE E) = jE E v :: .ref (base + (a - 64)) :: st'.map (jE E) := by
            simp only [List.map_cons]
            show _ :: Value.ref (E a) :: _ = _
            rw [jE_at hE ha]
          rw [hst]
          have fin : ∀ (H1 : Heap) (locs1 : List Loc), va_P D jCs ((jw E dA base V).set (a - 64) (base + (a - 64), .inr (qc, (fs.map (jE E)).set qk (jE E v)))) H1 → va_D (jAb base) ((jw E dA base V).set (a - 64) (base + (a - 64), .inr (qc, (fs.map (jE E)).set qk (jE E v)))) → va_S (jAb base) s.heap H1 locs1 → W p l e R s m args below meth c H1 locs1 cells slots Q (F0 m (pc + 3) ls (st'.map (jE E))) := by
            intro H1 locs1 p1 _ s1
            refine k H1 locs1 cells slots ?_ s1 (by simpa [jPut] using hc) ?_
            · show va_P D jCs (jw E dA base (V.set (a - 64) (.inr (qc, fs.set qk v)))) H1
              rw [jw_set]
              show va_P D jCs ((jw E dA base V).set (a - 64) (base + (a - 64), .inr (qc, (fs.set qk v).map (jE E)))) H1
              rw [List.map_set]
              exact p1
            · show slots + S0 = jSl (V.set (a - 64) (.inr (qc, fs.set qk v)))
              rw [jSl_setO hV]
              exact hs
          cases hfin : f.2.2.2 with
          | false => exact va_put (C := jnm qc) (T := jT qc) (N := jN qc) (ref := jnm qc) hx hb hts (jU_g qc h13) _ (jY_ok qc h13) (jV_ok qc h13) hown hK hP hD hS (a - 64) hw (jCs_get (by omega)) qk hN (hts _ (lg (jWf_ok ow _ hlk) rfl)) (fun x hx => by rw [jT1 h13 hN] at hx; exact hx) (by rw [hT]; exact hfin) hty n1 n2 (by simpa using hq2) hd fin
          | true =>
            obtain ⟨i1, i2⟩ := hq4 hfin
            exact va_putF (C := jnm qc) (T := jT qc) (N := jN qc) (ref := jnm qc) hx hb hts (jU_g qc h13) _ (jY_ok qc h13) (jV_ok qc h13) hown hK hP hD hS (a - 64) hw (jCs_get (by omega)) qk hN (hts _ (lg (jWf_ok ow _ hlk) rfl)) (fun x hx => by rw [jT1 h13 hN] at hx; exact hx) (by rw [hT]; exact hfin) (hini i1) (by rw [jT1 h13 hN, i2]) hty n1 n2 (by simpa using hq2) hd fin
        · cases h
      · cases h
    · cases h
  · -- iaload
    split at h
    · rename_i j a st' ha
      split at h
      · rename_i hj
        cases h
        subst ha
        exact va_sld hx hb hX (by omega) (by show ¬ base ≤ E 63; omega) hS (jIn_in hj) hd (k _ _ _ _ hP hS hc hs)
      · cases h
    · split at h
      · rename_i hat
        split at h
        · rename_i hj
          cases h
          obtain ⟨ha, hV⟩ := jAt_of hat
          have hw := jw_get (E := E) (dA := dA) (base := base) hV
          simp only [List.map_cons, jE]
          rw [jE_at hE ha]
          exact va_iald hx hb hK hP _ 1 hw (jTs_get rfl) (jIn_in hj) hd (k _ _ _ _ hP hS hc hs)
        · cases h
      · cases h
  · -- baload
    split at h
    · rename_i hat
      split at h
      · rename_i hj
        cases h
        obtain ⟨ha, hV⟩ := jAt_of hat
        have hw := jw_get (E := E) (dA := dA) (base := base) hV
        simp only [List.map_cons, jE]
        rw [jE_at hE ha]
        exact va_bald hx hb hK hP _ 0 hw (jTs_get rfl) (jIn_in hj) hd (k _ _ _ _ hP hS hc hs)
      · cases h
    · rename_i hat
      split at h
      · rename_i hj
        cases h
        obtain ⟨ha, hV⟩ := jAt_of hat
        have hw := jw_get (E := E) (dA := dA) (base := base) hV
        simp only [List.map_cons, jE]
        rw [jE_at hE ha]
        exact va_zald hx hb hK hP _ 3 hw (jTs_get rfl) (jIn_in hj) hd (k _ _ _ _ hP hS hc hs)
      · cases h
    · cases h
  · -- laload
    split at h
    · rename_i hat
      split at h
      · rename_i hj
        cases h
        obtain ⟨ha, hV⟩ := jAt_of hat
        have hw := jw_get (E := E) (dA := dA) (base := base) hV
        simp only [List.map_cons, jE]
        rw [jE_at hE ha]
        exact va_lald hx hb hK hP _ 2 hw (jTs_get rfl) (jIn_in hj) hd (k _ _ _ _ hP hS hc hs)
      · cases h
    · cases h
  · -- aaload
    split at h
    · rename_i hat
      split at h
      · rename_i hj
        simp only [Bool.and_eq_true, decide_eq_true_eq] at hj
        cases h
        obtain ⟨ha, hV⟩ := jAt_of hat
        have hw := jw_get (E := E) (dA := dA) (base := base) hV
        obtain ⟨C, hk⟩ := jAk_obj hj.1.2 hj.2
        simp only [List.map_cons, jE]
        rw [jE_at hE ha]
        refine va_aldq (C := C) hx hb hK hP _ _ hw (jTs_get hk) (jIn_in hj.1.1) hd ?_
        have hk2 := k _ _ _ _ hP hS hc hs
        simp only [List.map_cons, jE_rf] at hk2
        exact hk2
      · cases h
    · cases h
  · -- iastore
    split at h
    · rename_i f hat
      split at h
      · rename_i hj
        cases h
        obtain ⟨ha, hV⟩ := jAt_of hat
        have hw := jw_get (E := E) (dA := dA) (base := base) hV
        simp only [List.map_cons, jE]
        rw [jE_at hE ha]
        exact va_iast hx hb hK hP hD hS _ 1 hw (jTs_get rfl) (jIn_in hj) hd (fun H1 locs1 p1 _ s1 => k H1 locs1 cells slots (by rw [jPut, jw_set]; exact p1) s1 (by simpa [jPut] using hc) (hs.trans (jSl_setA hV).symm))
      · cases h
    · cases h
  · -- bastore
    split at h
    · rename_i f hat
      split at h
      · rename_i hj
        cases h
        obtain ⟨ha, hV⟩ := jAt_of hat
        have hw := jw_get (E := E) (dA := dA) (base := base) hV
        simp only [List.map_cons, jE]
        rw [jE_at hE ha]
        exact va_bast hx hb hK hP hD hS _ 0 hw (jTs_get rfl) (jIn_in hj) hd (fun H1 locs1 p1 _ s1 => k H1 locs1 cells slots (by rw [jPut, jw_set]; exact p1) s1 (by simpa [jPut] using hc) (hs.trans (jSl_setA hV).symm))
      · cases h
    · rename_i f hat
      split at h
      · rename_i hj
        cases h
        obtain ⟨ha, hV⟩ := jAt_of hat
        have hw := jw_get (E := E) (dA := dA) (base := base) hV
        simp only [List.map_cons, jE]
        rw [jE_at hE ha]
        exact va_zast hx hb hK hP hD hS _ 3 hw (jTs_get rfl) (jIn_in hj) hd (fun H1 locs1 p1 _ s1 => k H1 locs1 cells slots (by rw [jPut, jw_set]; exact p1) s1 (by simpa [jPut] using hc) (hs.trans (jSl_setA hV).symm))
      · cases h
    · cases h
  · -- lastore
    split at h
    · rename_i f hat
      split at h
      · rename_i hj
        cases h
        obtain ⟨ha, hV⟩ := jAt_of hat
        have hw := jw_get (E := E) (dA := dA) (base := base) hV
        simp only [List.map_cons, jE]
        rw [jE_at hE ha]
        exact va_last hx hb hK hP hD hS _ 2 hw (jTs_get rfl) (jIn_in hj) hd (fun H1 locs1 p1 _ s1 => k H1 locs1 cells slots (by rw [jPut, jw_set]; exact p1) s1 (by simpa [jPut] using hc) (hs.trans (jSl_setA hV).symm))
      · cases h
    · cases h
  · -- aastore of null
    split at h
    · rename_i f hat
      split at h
      · rename_i hj
        simp only [Bool.and_eq_true, decide_eq_true_eq] at hj
        cases h
        obtain ⟨ha, hV⟩ := jAt_of hat
        have hw := jw_get (E := E) (dA := dA) (base := base) hV
        obtain ⟨C, hk⟩ := jAk_obj hj.1.2 hj.2
        simp only [List.map_cons, jE]
        rw [jE_at hE ha]
        refine va_astqN (C := C) hx hb hK hP hD hS _ _ hw (jTs_get hk) (jIn_in hj.1.1) hd (fun H1 locs1 p1 _ s1 => k H1 locs1 cells slots ?_ s1 (by simpa [jPut] using hc) (hs.trans (jSl_setA hV).symm))
        rw [jPut, jw_set]
        simp only [jEc, jEup]
        exact p1
      · cases h
    · cases h
  · -- aastore
    split at h
    · rename_i f o hat hbt
      split at h
      · rename_i hj
        simp only [Bool.and_eq_true, decide_eq_true_eq] at hj
        cases h
        obtain ⟨ha, hV⟩ := jAt_of hat
        obtain ⟨hb2, hV2⟩ := jAt_of hbt
        obtain ⟨oc, fs⟩ := o
        have hw := jw_get (E := E) (dA := dA) (base := base) hV
        have hw2 := jw_get (E := E) (dA := dA) (base := base) hV2
        obtain ⟨h18, hk⟩ := jOver_ok hj.2
        simp only [List.map_cons, jE]
        rw [jE_at hE ha, jE_at hE hb2]
        refine va_astq (r := (jnm oc, jT oc, jN oc)) hx hb hK hP hD hS _ _ _ oc hw (jTs_get hk) hw2 (jCs_get h18) (jIn_in hj.1) hd (fun H1 locs1 p1 _ s1 => k H1 locs1 cells slots ?_ s1 (by simpa [jPut] using hc) (hs.trans (jSl_setA hV).symm))
        rw [jPut, jw_set]
        simp only [jEc, jEup, Option.map_some, jE_at hE hb2]
        exact p1
      · cases h
    · cases h
  · -- arraylength
    split at h
    · rename_i a st' ha
      cases h
      subst ha
      exact va_slen hx hb hX (by omega) (by show ¬ base ≤ E 63; omega) hS hd (k _ _ _ _ hP hS hc hs)
    · split at h
      · rename_i kd mm x hat
        split at h
        · rename_i hk8
          cases h
          obtain ⟨ha, hV⟩ := jAt_of hat
          have hw := jw_get (E := E) (dA := dA) (base := base) hV
          obtain ⟨t, hk⟩ := jAk_lt hk8
          obtain ⟨y, hy, hy1⟩ := jEc_arr (E := E) (dA := dA) kd mm x
          rw [hy] at hw
          simp only [List.map_cons, jE]
          rw [jE_at hE ha]
          exact va_alen hx hb hK hP _ kd hw (jTs_get hk) (by rw [hy1]) hd (k _ _ _ _ hP hS hc hs)
        · cases h
      · cases h
  · -- newarray
    split at h
    · cases h
    · rename_i j st' hj
      have hj1 : ¬ j < 0 := fun z => hj (Or.inl z)
      have hj2 : j.toNatClampNeg ≤ 1000000 := by
        rcases Nat.lt_or_ge 1000000 j.toNatClampNeg with z | z
        · exact absurd (Or.inr z) hj
        · exact z
      split at h
      · cases h
        have hcl : cells + 1 ≤ R.cells := by have := jC1 hC; omega
        have hsl : slots + j.toNatClampNeg ≤ R.slots := by
          have hz : jSl V + j.toNatClampNeg ≤ R.slots + S0 := by have := hCs; rw [jSl_push] at this; exact this
          omega
        refine va_newa (ty := .byte) (a0 := (j.toNatClampNeg, .inl (fun _ => 0))) hx hb (hts _ (lg (jMem _ jWa_ok _ (List.mem_of_getElem? (i := 0) rfl)) rfl)) rfl hK hP hD hS hA (fun cA => rfl) hj1 rfl (by show j.toNatClampNeg * 1 ≤ _; omega) hcl hsl hd (fun q cA H1 k1 p1 d1 s1 => ?_)
        have hcA : cA = dA 0 := jCl_eq (kd := 0) (t := .byte) hK rfl ((k1.2 (jTs dA).length (cA, .byte) (by rw [List.getElem?_append_right (Nat.le_refl _), Nat.sub_self]; rfl)).2)
        subst hcA
        refine js_new p1 d1 h0 (by omega) (fun hq => ?_)
        subst hq
        have hk2 := k H1 locs (cells + 1) (slots + j.toNatClampNeg) (by rw [jw_push]; exact p1) s1 (by show cells + 1 + N0 = (V ++ [_]).length; rw [List.length_append]; show _ = V.length + 1; omega) (by rw [jSl_push]; show _ = jSl V + j.toNatClampNeg; omega)
        simp only [List.map_cons, jE, hE V.length] at hk2
        exact hk2
      · cases h
        have hcl : cells + 1 ≤ R.cells := by have := jC1 hC; omega
        have hsl : slots + j.toNatClampNeg ≤ R.slots := by
          have hz : jSl V + j.toNatClampNeg ≤ R.slots + S0 := by have := hCs; rw [jSl_push] at this; exact this
          omega
        refine va_newa (ty := .int) (a0 := (j.toNatClampNeg, .inl (fun _ => 0))) hx hb (hts _ (lg (jMem _ jWa_ok _ (List.mem_of_getElem? (i := 1) rfl)) rfl)) rfl hK hP hD hS hA (fun cA => rfl) hj1 rfl (by show j.toNatClampNeg * 4 ≤ _; omega) hcl hsl hd (fun q cA H1 k1 p1 d1 s1 => ?_)
        have hcA : cA = dA 1 := jCl_eq (kd := 1) (t := .int) hK rfl ((k1.2 (jTs dA).length (cA, .int) (by rw [List.getElem?_append_right (Nat.le_refl _), Nat.sub_self]; rfl)).2)
        subst hcA
        refine js_new p1 d1 h0 (by omega) (fun hq => ?_)
        subst hq
        have hk2 := k H1 locs (cells + 1) (slots + j.toNatClampNeg) (by rw [jw_push]; exact p1) s1 (by show cells + 1 + N0 = (V ++ [_]).length; rw [List.length_append]; show _ = V.length + 1; omega) (by rw [jSl_push]; show _ = jSl V + j.toNatClampNeg; omega)
        simp only [List.map_cons, jE, hE V.length] at hk2
        exact hk2
      · cases h
        have hcl : cells + 1 ≤ R.cells := by have := jC1 hC; omega
        have hsl : slots + j.toNatClampNeg ≤ R.slots := by
          have hz : jSl V + j.toNatClampNeg ≤ R.slots + S0 := by have := hCs; rw [jSl_push] at this; exact this
          omega
        refine va_newa (ty := .long) (a0 := (j.toNatClampNeg, .inr (.inl (fun _ => 0)))) hx hb (hts _ (lg (jMem _ jWa_ok _ (List.mem_of_getElem? (i := 2) rfl)) rfl)) rfl hK hP hD hS hA (fun cA => rfl) hj1 rfl (by show j.toNatClampNeg * 8 ≤ _; omega) hcl hsl hd (fun q cA H1 k1 p1 d1 s1 => ?_)
        have hcA : cA = dA 2 := jCl_eq (kd := 2) (t := .long) hK rfl ((k1.2 (jTs dA).length (cA, .long) (by rw [List.getElem?_append_right (Nat.le_refl _), Nat.sub_self]; rfl)).2)
        subst hcA
        refine js_new p1 d1 h0 (by omega) (fun hq => ?_)
        subst hq
        have hk2 := k H1 locs (cells + 1) (slots + j.toNatClampNeg) (by rw [jw_push]; exact p1) s1 (by show cells + 1 + N0 = (V ++ [_]).length; rw [List.length_append]; show _ = V.length + 1; omega) (by rw [jSl_push]; show _ = jSl V + j.toNatClampNeg; omega)
        simp only [List.map_cons, jE, hE V.length] at hk2
        exact hk2
      · cases h
        have hcl : cells + 1 ≤ R.cells := by have := jC1 hC; omega
        have hsl : slots + j.toNatClampNeg ≤ R.slots := by
          have hz : jSl V + j.toNatClampNeg ≤ R.slots + S0 := by have := hCs; rw [jSl_push] at this; exact this
          omega
        refine va_newa (ty := .boolean) (a0 := (j.toNatClampNeg, .inl (fun _ => 0))) hx hb (hts _ (lg (jMem _ jWa_ok _ (List.mem_of_getElem? (i := 3) rfl)) rfl)) rfl hK hP hD hS hA (fun cA => rfl) hj1 rfl (by show j.toNatClampNeg * 1 ≤ _; omega) hcl hsl hd (fun q cA H1 k1 p1 d1 s1 => ?_)
        have hcA : cA = dA 3 := jCl_eq (kd := 3) (t := .boolean) hK rfl ((k1.2 (jTs dA).length (cA, .boolean) (by rw [List.getElem?_append_right (Nat.le_refl _), Nat.sub_self]; rfl)).2)
        subst hcA
        refine js_new p1 d1 h0 (by omega) (fun hq => ?_)
        subst hq
        have hk2 := k H1 locs (cells + 1) (slots + j.toNatClampNeg) (by rw [jw_push]; exact p1) s1 (by show cells + 1 + N0 = (V ++ [_]).length; rw [List.length_append]; show _ = V.length + 1; omega) (by rw [jSl_push]; show _ = jSl V + j.toNatClampNeg; omega)
        simp only [List.map_cons, jE, hE V.length] at hk2
        exact hk2
      · cases h
  · -- anewarray
    split at h
    · cases h
    · rename_i kx j st' hj
      have hj1 : ¬ j < 0 := fun z => hj (Or.inl z)
      have hj2 : j.toNatClampNeg ≤ 1000000 := by
        rcases Nat.lt_or_ge 1000000 j.toNatClampNeg with z | z
        · exact absurd (Or.inr z) hj
        · exact z
      split at h
      · rename_i kd hkd
        cases h
        obtain ⟨cn, hcn, hov⟩ := Option.bind_eq_some_iff.mp hkd
        obtain ⟨h18, hk⟩ := jOver_ok hov
        have hlk : _ ∈ jWk ow := List.mem_map.mpr ⟨_, jFind_mem hcn, rfl⟩
        have hcl : cells + 1 ≤ R.cells := by have := jC1 hC; omega
        have hsl : slots + j.toNatClampNeg ≤ R.slots := by
          have hz : jSl V + j.toNatClampNeg ≤ R.slots + S0 := by have := hCs; rw [jSl_push] at this; exact this
          omega
        refine va_newq (C := jnm cn) hx hb hown (hts _ (lg (jWk_ok ow _ hlk) rfl)) (hAO _ _ hov) hK hP hD hS hA hj1 rfl (by omega) hcl hsl hd (fun q cA H1 k1 p1 d1 s1 => ?_)
        have hcA : cA = dA kd := jCl_eq (kd := kd) (t := .object (jnm cn)) hK hk ((k1.2 (jTs dA).length (cA, .object (jnm cn)) (by rw [List.getElem?_append_right (Nat.le_refl _), Nat.sub_self]; rfl)).2)
        subst hcA
        refine js_new p1 d1 h0 (by omega) (fun hq => ?_)
        subst hq
        have hk2 := k H1 locs (cells + 1) (slots + j.toNatClampNeg) (by rw [jw_push]; exact p1) s1 (by show cells + 1 + N0 = (V ++ [_]).length; rw [List.length_append]; show _ = V.length + 1; omega) (by rw [jSl_push]; show _ = jSl V + j.toNatClampNeg; omega)
        simp only [List.map_cons, jE, hE V.length] at hk2
        exact hk2
      · cases h
  · -- new
    split at h
    · rename_i cn hcn
      split at h
      · rename_i h13
        cases h
        have hlk : _ ∈ jWk ow := List.mem_map.mpr ⟨_, jFind_mem hcn, rfl⟩
        have hwi : Cond.instantiable (jnm cn) (jN cn) ∈ lw_tbl ∧ Cond.initialized (jnm cn) ∈ lw_tbl := by
          have hm : ∀ w ∈ [Cond.instantiable (jnm cn) (jN cn), Cond.initialized (jnm cn)], w ∈ jWi := fun w hw => List.mem_flatMap.mpr ⟨cn, List.mem_range.mpr h13, hw⟩
          exact ⟨jMem _ jWi_ok _ (hm _ (by simp)), jMem _ jWi_ok _ (hm _ (by simp))⟩
        have hcl : cells + 1 ≤ R.cells := by have := jC1 hC; omega
        have hs1 : jSl1 (.inr (cn, (jTys.getD cn []).map defaultValue)) = jN cn := if_pos h13
        have hsl : slots + jN cn ≤ R.slots := by
          have hz : jSl V + jN cn ≤ R.slots + S0 := by have := hCs; rw [jSl_push, hs1] at this; exact this
          omega
        have hfs : ∀ x : Nat, x < jN cn → defaultValue ((jTys.getD cn []).getD x .int) = vp_V (((jTys.getD cn []).map defaultValue).map (jE E)) x := fun x hx => by
          have hl : x < (jTys.getD cn []).length := by rw [jTy_len h13]; exact hx
          simp only [vp_V, List.getD_eq_getElem?_getD, List.getElem?_map] at hl ⊢
          rw [List.getElem?_eq_getElem hl]
          exact (jE_default _).symm
        refine va_new (c0 := c) (C := jnm cn) (T := jT cn) (N := jN cn) (ci := cn) (fs := ((jTys.getD cn []).map defaultValue).map (jE E)) hx hb hts (jU_g cn h13) _ (jY_ok cn h13) hown (hts _ (lg (jWk_ok ow _ hlk) rfl)) (hts _ (lg hwi.1 rfl)) (hts _ (lg hwi.2 rfl)) hK hP hD hS hA (jCs_get (by omega)) hfs hcl hsl hd (fun q H1 p1 d1 s1 => ?_)
        refine js_new p1 d1 h0 (by omega) (fun hq => ?_)
        subst hq
        have hk2 := k H1 locs (cells + 1) (slots + jN cn) (by rw [jw_push]; exact p1) s1 (by show cells + 1 + N0 = (V ++ [_]).length; rw [List.length_append]; show _ = V.length + 1; omega) (by rw [jSl_push, hs1]; omega)
        simp only [List.map_cons, jE, hE V.length] at hk2
        exact hk2
      · cases h
    · cases h
  · -- ldc
    split at h
    · rename_i hv
      cases h
      exact lv_ldc hx hb hown (hts _ (lg (jWc_ok ow _ (List.mem_filterMap.mpr ⟨_, jFind_mem hv, rfl⟩)) rfl)) hd (k _ _ _ _ hP hS hc hs)
    · rename_i hv
      cases h
      obtain ⟨q, hq, hq1, hq2⟩ := jCn_ref hv
      have hz := hZ _ q hq
      rw [hq1, hq2] at hz
      exact va_ldcS hx hb hown hz hd (k _ _ _ _ hP hS hc hs)
    · cases h
  · -- ldc_w
    split at h
    · rename_i hv
      cases h
      exact lv_ldcw hx hb hown (hts _ (lg (jWc_ok ow _ (List.mem_filterMap.mpr ⟨_, jFind_mem hv, rfl⟩)) rfl)) hd (k _ _ _ _ hP hS hc hs)
    · rename_i hv
      cases h
      obtain ⟨q, hq, hq1, hq2⟩ := jCn_ref hv
      have hz := hZ _ q hq
      rw [hq1, hq2] at hz
      exact jr_ldcwS hx hb hown hz hd (k _ _ _ _ hP hS hc hs)
    · cases h
  · -- ldc2_w
    split at h
    · rename_i hv
      cases h
      exact lv_ldc2 hx hb hown (hts _ (lg (jWc_ok ow _ (List.mem_filterMap.mpr ⟨_, jFind_mem hv, rfl⟩)) rfl)) hd (k _ _ _ _ hP hS hc hs)
    · cases h
  · cases h
end JH
