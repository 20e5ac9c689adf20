/-! at the law's entry: all that the simulation asks for -/
def jNar : List Cond := flatC (Jvm.Cond.and given_1 narrow_1)
def jSw (q : Nat × Nat × String) : List Cond := [.exactly (.string (jnm q.1) q.2.1) "java/lang/String", .eq (.field (.string (jnm q.1) q.2.1) "java/lang/String" "coder" "B") (.int 0), .arrayOf (.field (.string (jnm q.1) q.2.1) "java/lang/String" "value" "[B") .byte, .eq (.length (.field (.string (jnm q.1) q.2.1) "java/lang/String" "value" "[B")) (.int (Int32.ofNat q.2.2.length))] ++ (List.range q.2.2.length).map (fun j => .eq (.elem (.field (.string (jnm q.1) q.2.1) "java/lang/String" "value" "[B") (.int (Int32.ofNat j))) (.int (Int32.ofNat (q.2.2.toList.getD j 'A').toNat)))
set_option maxRecDepth 100000 in
theorem jSw_ok : jSt.flatMap jSw = ((jNar.drop 96).eraseIdx 678).eraseIdx 669 := by decide +kernel
theorem jSw_in {i : Nat} {q : Nat × Nat × String} (h : jSt[i]? = some q) : ∀ w ∈ jSw q, w ∈ jNar := fun w hw => List.mem_of_mem_drop (List.mem_of_mem_eraseIdx (List.mem_of_mem_eraseIdx (jSw_ok ▸ List.mem_flatMap.mpr ⟨q, List.mem_of_getElem? h, hw⟩)))
set_option maxRecDepth 100000 in
theorem jNcB : (List.range 18).all (fun c => (List.range 18).all (fun c' => decide (c < 13) || decide (c' < 13) || decide (c' = c) || (jNar.take 96).contains (.not (.castable (jnm c) (jnm c'))))) = true := by decide +kernel
theorem jNc_in {c c' : Nat} (h1 : 13 ≤ c) (h2 : c < 18) (h3 : 13 ≤ c') (h4 : c' < 18) (h5 : c' ≠ c) : Cond.not (.castable (jnm c) (jnm c')) ∈ jNar := by
  have h := List.all_eq_true.mp (List.all_eq_true.mp jNcB c (List.mem_range.mpr h2)) c' (List.mem_range.mpr h4)
  have e1 : decide (c < 13) = false := decide_eq_false (by omega)
  have e2 : decide (c' < 13) = false := decide_eq_false (by omega)
  have e3 : decide (c' = c) = false := decide_eq_false h5
  rw [e1, e2, e3] at h
  simp only [Bool.false_or] at h
  exact List.mem_of_mem_take (List.contains_iff_mem.mp h)
def jWt (o : Nat) : List Cond := (jCl.getD o []).filterMap (fun q => if q.2.1 = 3 then (jMs[q.2.2.1]?).map (fun e => Cond.methodLinkNest (jnm o) q.1 e.1 (jnm 0)) else none)
set_option maxRecDepth 100000 in
theorem jWt0 : jWt 0 = jTp [(1, 67), (4, 179), (5, 99)] := by decide +kernel
set_option maxRecDepth 100000 in
theorem jWtB : (List.range 21).all (fun o => o == 0 || (jWt o).isEmpty) = true := by decide +kernel
theorem jWt_in {o k : Nat} {f : Nat × Nat} (h : jFind jCl o k = some (3, f)) {e : jM} (he : jMs[f.1]? = some e) : Cond.methodLinkNest (jnm o) k e.1 (jnm 0) ∈ lw_tbl := by
  have h1 := jFind_mem h
  have h2 : Cond.methodLinkNest (jnm o) k e.1 (jnm 0) ∈ jWt o := List.mem_filterMap.mpr ⟨_, h1, by simp [he]⟩
  have ho : o < 21 := by
    by_cases ho : o < jCl.length
    · exact ho
    · rw [List.getD_eq_getElem?_getD, List.getElem?_eq_none (by omega)] at h1
      cases h1
  have h3 := List.all_eq_true.mp jWtB o (List.mem_range.mpr ho)
  simp only [Bool.or_eq_true, beq_iff_eq, List.isEmpty_iff] at h3
  rcases h3 with rfl | h3
  · exact jMem _ jWt0 _ h2
  · rw [h3] at h2
    cases h2
theorem jRfB : (List.range 31).all (fun i => match jSt[i]? with
    | some q => (jCn.getD q.1 []).any (fun w => w.1 == q.2.1 && match w.2 with
      | .ref n => n == i
      | _ => false)
    | none => false) = true := by decide +kernel
theorem jSt_len : jSt.length = 31 := by decide +kernel
theorem jSt_lt {i : Nat} {q : Nat × Nat × String} (h : jSt[i]? = some q) : i < 31 := by
  rw [← jSt_len]
  exact (List.getElem?_eq_some_iff.mp h).1
theorem jRf_in {i : Nat} {q : Nat × Nat × String} (h : jSt[i]? = some q) : Cond.stringRef (jnm q.1) q.2.1 q.2.2 ∈ lw_tbl := by
  have h1 := List.all_eq_true.mp jRfB i (List.mem_range.mpr (jSt_lt h))
  rw [h] at h1
  simp only [List.any_eq_true, Bool.and_eq_true, beq_iff_eq] at h1
  obtain ⟨w, hw, h2, h3⟩ := h1
  obtain ⟨w1, w2⟩ := w
  cases w2 with
  | ref n =>
    simp only [beq_iff_eq] at h3
    subst h3
    refine jWc_ok q.1 _ (List.mem_filterMap.mpr ⟨_, hw, ?_⟩)
    simp only [List.getD_eq_getElem?_getD, h, Option.getD_some]
    rw [show w1 = q.2.1 from h2]
  | _ => cases h3
section JEN
variable {s : State} {args : Array Value}
theorem je_class (hts : ∀ w ∈ lw_tbl, w.before args s = true) (c : Nat) (h : c < 18) : ∃ (cC : ClassId) (iS : Nat → Nat), u_Kn s (jnm c) (jT c) (jN c) cC iS := by
  by_cases h13 : c < 13
  · have hm : ∀ w ∈ [Cond.instantiable (jnm c) (jN c), Cond.initialized (jnm c)], w ∈ jWi := fun w hw => List.mem_flatMap.mpr ⟨c, List.mem_range.mpr h13, hw⟩
    exact u_known hts (jU_ok c h13) (hts (.instantiable (jnm c) (jN c)) (jMem _ jWi_ok _ (hm _ (by simp))))
  · have h0 : jN c = 0 := by
      rcases (show c = 13 ∨ c = 14 ∨ c = 15 ∨ c = 16 ∨ c = 17 by omega) with rfl | rfl | rfl | rfl | rfl <;> decide +kernel
    have hi := ja_o (c := c) (by omega) h (fun w hw => hts w (List.mem_filter.mp hw).1) (.instantiable (jnm c) 6) (by simp [jOwn])
    rw [h0]
    exact u_known (N := 0) hts (fun w hw => by cases hw) hi
theorem je_prim (hts : ∀ w ∈ lw_tbl, w.before args s = true) {t : FieldType} (h : Cond.arrayClass t ∈ lw_tbl) (ht : ∀ cA, va_RA s cA t = (s.vm.findClass ("[" ++ t.toString) = some cA)) : ∃ cA : ClassId, ArrOfT s cA t ∧ va_RA s cA t := by
  obtain ⟨cA, kA, comp, h1, h2, h3⟩ := Cond.arrayClass_spec (hts _ h)
  exact ⟨cA, fun n z => ⟨fun k h => (by cases h), kA, h2, comp, h3⟩, by rw [ht]; exact h1⟩
theorem je_obj (hts : ∀ w ∈ lw_tbl, w.before args s = true) {C : String} (h : Cond.arrayOver (.object C) ∈ lw_tbl) : ∃ cA : ClassId, ArrOfT s cA (.object C) ∧ va_RA s cA (.object C) := by
  obtain ⟨comp, cA, kA, h0, -, h2, h3, h4⟩ := Cond.arrayOver_spec (hts _ h)
  exact ⟨cA, fun n z => ⟨fun k h => (by cases h), kA, h2, comp, h3⟩, kA, comp, h2, h3, h0, h4⟩
theorem je_arr (hts : ∀ w ∈ lw_tbl, w.before args s = true) (k : Nat) (t : FieldType) (h : jAk[k]? = some t) : ∃ cA : ClassId, ArrOfT s cA t ∧ va_RA s cA t := by
  have hw : ∀ i w, ([.arrayClass .byte, .arrayClass .int, .arrayClass .long, .arrayClass .boolean, .arrayOver (.object "LinkedCores$Node"), .arrayOver (.object "LinkedCores$Name"), .arrayOver (.object "LinkedCores$Link"), .arrayOver (.object "LinkedCores$Core")] : List Cond)[i]? = some w → w ∈ lw_tbl := fun i w hi => jMem _ jWa_ok _ (List.mem_of_getElem? hi)
  have hk : k < 8 := (List.getElem?_eq_some_iff.mp h).1
  rcases (show k = 0 ∨ k = 1 ∨ k = 2 ∨ k = 3 ∨ k = 4 ∨ k = 5 ∨ k = 6 ∨ k = 7 by omega) with rfl | rfl | rfl | rfl | rfl | rfl | rfl | rfl
  · cases h; exact je_prim hts (hw 0 _ rfl) (fun _ => rfl)
  · cases h; exact je_prim hts (hw 1 _ rfl) (fun _ => rfl)
  · cases h; exact je_prim hts (hw 2 _ rfl) (fun _ => rfl)
  · cases h; exact je_prim hts (hw 3 _ rfl) (fun _ => rfl)
  · cases h; exact je_obj hts (hw 4 _ rfl)
  · cases h; exact je_obj hts (hw 5 _ rfl)
  · cases h; exact je_obj hts (hw 6 _ rfl)
  · cases h; exact je_obj hts (hw 7 _ rfl)
theorem je_K (hts : ∀ w ∈ lw_tbl, w.before args s = true) : ∃ (D : va_G) (dA : Nat → ClassId), va_K D jCs (jTs dA) s := by
  have h1 : ∀ c : Nat, ∃ q : ClassId × (Nat → Nat), c < 18 → u_Kn s (jnm c) (jT c) (jN c) q.1 q.2 := fun c => by
    by_cases h : c < 18
    · obtain ⟨a, b, hh⟩ := je_class hts c h
      exact ⟨(a, b), fun _ => hh⟩
    · exact ⟨(0, fun _ => 0), fun z => absurd z h⟩
  have h2 : ∀ k : Nat, ∃ cA : ClassId, ∀ t, jAk[k]? = some t → ArrOfT s cA t ∧ va_RA s cA t := fun k => by
    cases h : jAk[k]? with
    | none => exact ⟨0, fun t ht => by cases ht⟩
    | some t =>
      obtain ⟨cA, hh⟩ := je_arr hts k t h
      exact ⟨cA, fun t' ht => by cases ht; exact hh⟩
  obtain ⟨F, hF⟩ := Classical.axiomOfChoice h1
  obtain ⟨dA, hA⟩ := Classical.axiomOfChoice h2
  refine ⟨(fun c => (F c).1, fun c => (F c).2), dA, fun c q hq => ?_, fun k q hq => ?_⟩
  · have hc : c < 18 := by
      have := (List.getElem?_eq_some_iff.mp hq).1
      simpa [jCs] using this
    have e : q = (jnm c, jT c, jN c) := Option.some.inj (hq.symm.trans (jCs_get hc))
    rw [e]
    exact hF c hc
  · simp only [jTs, List.getElem?_mapIdx] at hq
    obtain ⟨t, h3, rfl⟩ := Option.map_eq_some_iff.mp hq
    exact hA k t h3
theorem je_text (hfl : ∀ w ∈ jNar, w.before args s = true) {A : Nat → Prop} (hA : ∀ a : Nat, a < s.heap.size → ¬ A a) (i : Nat) : ∃ w : Nat × Nat, ∀ q, jSt[i]? = some q → (Term.string (jnm q.1) q.2.1).eval args s none [] s = some (.ref w.1) ∧ va_O "java/lang/String" w.1 A s s.heap ∧ va_OF "java/lang/String" "coder" "B" (.int 0) w.1 A s s.heap ∧ va_OF "java/lang/String" "value" "[B" (.ref w.2) w.1 A s s.heap ∧ va_T .byte w.2 q.2.2.length (jByt q) A s s.heap := by
  cases hq : jSt[i]? with
  | none => exact ⟨(0, 0), fun q h => by cases h⟩
  | some q =>
    have hw : ∀ w ∈ jSw q, w.before args s = true := fun w h => hfl w (jSw_in hq w h)
    obtain ⟨a, c, cA, kA, q1, q2, q3, q4, q5, q6, -⟩ := Cond.exactly_spec (args := args) (first := s) (o := none) (s := s) (idx := []) (hw (.exactly (.string (jnm q.1) q.2.1) "java/lang/String") (by simp [jSw]))
    obtain ⟨t, ht, hT⟩ := va_Tof (f := jByt q) (A := A) (by have := (jSt_ok hq).2.1; omega) (hw (.arrayOf (.field (.string (jnm q.1) q.2.1) "java/lang/String" "value" "[B") .byte) (by simp [jSw])) (va_eqt (hw (.eq (.length (.field (.string (jnm q.1) q.2.1) "java/lang/String" "value" "[B")) (.int (Int32.ofNat q.2.2.length))) (by simp [jSw])))
      (fun j hj => va_eqt (hw (.eq (.elem (.field (.string (jnm q.1) q.2.1) "java/lang/String" "value" "[B") (.int (Int32.ofNat j))) (.int (Int32.ofNat (q.2.2.toList.getD j 'A').toNat))) (List.mem_append_right _ (List.mem_map.mpr ⟨j, List.mem_range.mpr hj, rfl⟩)))) hA
    refine ⟨(a, t), fun q' h => ?_⟩
    cases h
    exact ⟨q1, ⟨cA, q3, q5, by rw [q6]; exact q2, hA a (Array.getElem?_eq_some_iff.mp q3).1⟩, vk_OFof q1 (va_eqt (hw _ (by simp [jSw]))) hA, vk_OFof q1 ht hA, hT⟩
theorem je_Ou (hts : ∀ w ∈ lw_tbl, w.before args s = true) (hfl : ∀ w ∈ jNar, w.before args s = true) {b L : Nat} {xs : Nat → Int32} (hX : va_X b L xs s s.heap) (hb : b < s.heap.size) : ∃ E : Nat → Nat, jEok s.heap.size E ∧ E 63 = b ∧ jOu E s.heap.size (L, xs) s s.heap := by
  have hA : ∀ a : Nat, a < s.heap.size → ¬ jAb s.heap.size a := fun a h z => by
    have : s.heap.size ≤ a := z
    omega
  obtain ⟨ad, had⟩ := Classical.axiomOfChoice (je_text hfl hA)
  refine ⟨fun n => if n < 31 then (ad n).1 else if n < 62 then (ad (n - 31)).2 else if n = 63 then b else s.heap.size + (n - 64), fun k => ?_, ?_, ?_⟩
  · dsimp only
    rw [if_neg (by omega), if_neg (by omega), if_neg (by omega)]
    omega
  · rfl
  have e1 : ∀ {i q}, jSt[i]? = some q → (if i < 31 then (ad i).1 else if i < 62 then (ad (i - 31)).2 else if i = 63 then b else s.heap.size + (i - 64)) = (ad i).1 := fun h => if_pos (jSt_lt h)
  have e2 : ∀ {i q}, jSt[i]? = some q → (if 31 + i < 31 then (ad (31 + i)).1 else if 31 + i < 62 then (ad (31 + i - 31)).2 else if 31 + i = 63 then b else s.heap.size + (31 + i - 64)) = (ad i).2 := fun {i q} h => by
    have := jSt_lt h
    rw [if_neg (by omega), if_pos (by omega), show 31 + i - 31 = i by omega]
  refine ⟨fun c c' z1 z2 z3 z4 z5 => va_Nc.of (hfl _ (jNc_in z1 z2 z3 z4 z5)), fun c kd z => va_AO.of (hts _ (jOver_w z)), fun o k f z e y => va_Nw.of rfl (hts _ (jWt_in z y)), hX, hb, fun i q hi => ?_, ?_, ?_, ⟨fun i q hi => ?_, ?_, ?_⟩, ?_, ?_, fun y hy => va_Nw.of rfl (hts _ ?_)⟩
  · dsimp only
    rw [e1 hi]
    exact vk_R.of (hts _ (jRf_in hi)) (had i q hi).1
  · exact va_Zqof (hts _ (jTb3 _ (List.mem_of_getElem? (i := 61) rfl))) (hts _ (jTb1 _ (List.mem_of_getElem? (i := 3) rfl))) (hfl _ (List.mem_of_getElem? (i := 9) (by decide +kernel))) hA
  · exact va_Zqof (hts _ (jTb3 _ (List.mem_of_getElem? (i := 63) rfl))) (hts _ (jTb1 _ (List.mem_of_getElem? (i := 3) rfl))) (hfl _ (List.mem_of_getElem? (i := 10) (by decide +kernel))) hA
  · dsimp only
    rw [e1 hi, e2 hi]
    exact (had i q hi).2
  · exact va_Zof (hts _ (jTb2 _ (List.mem_of_getElem? (i := 7) rfl))) (hts _ (List.mem_filter.mp (jj 34 rfl rfl)).1) (va_eqt (hfl _ (List.mem_of_getElem? (i := 4) (by decide +kernel)))) hA
  · exact va_Zqof (hts _ (jTb2 _ (List.mem_of_getElem? (i := 48) rfl))) (hts _ (List.mem_filter.mp (jj 36 rfl rfl)).1) (hfl _ (List.mem_of_getElem? (i := 5) (by decide +kernel))) hA
  · exact jLs.of (hts _ (jTb3 _ (List.mem_of_getElem? (i := 61) rfl))) hA
  · exact jLs.of (hts _ (jTb3 _ (List.mem_of_getElem? (i := 63) rfl))) hA
  · simp only [jDl, List.mem_cons, List.not_mem_nil, or_false] at hy
    rcases hy with rfl | rfl | rfl
    · exact jTb3 _ (List.mem_of_getElem? (i := 38) rfl)
    · exact jTb3 _ (List.mem_of_getElem? (i := 40) rfl)
    · exact jTb3 _ (List.mem_of_getElem? (i := 42) rfl)
end JEN
