/-! J's heap on the machine: cell k lies at base + k -/
/-- the words that a walk can hand on by itself -/
def lw_g : List Cond := lw_tbl.filter goodWord
theorem lw_good : ∀ w ∈ lw_g, (w.onTables && w.keeps) = true ∨ ∃ ty, w = .arrayClass ty := fun w hw => good_of_word (List.mem_filter.mp hw).2
theorem lg {w : Cond} (h : w ∈ lw_tbl) (hg : goodWord w = true) : w ∈ lw_g := List.mem_filter.mpr ⟨h, hg⟩
theorem jU_g (c : Nat) (h : c < 13) : ∀ w ∈ u_ws (jnm c) (jT c) (jN c), w ∈ lw_g := fun w hw => by
  refine lg (jU_ok c h w hw) ?_
  obtain ⟨k, -, rfl⟩ := List.mem_map.mp hw
  unfold u_lay
  split <;> rfl
def jEc (E : Nat → Nat) (dA : Nat → ClassId) (c : jC) : va_E := match c with
  | .inl (kd, m, .inl f) => .inl (dA kd, m, .inl f)
  | .inl (kd, m, .inr (.inl f)) => .inl (dA kd, m, .inr (.inl f))
  | .inl (kd, m, .inr (.inr (.inl f))) => .inl (dA kd, m, .inr (.inr (.inl f)))
  | .inl (kd, m, .inr (.inr (.inr (.inl f)))) => .inl (dA kd, m, .inr (.inr (.inr (.inl f))))
  | .inl (kd, m, .inr (.inr (.inr (.inr f)))) => .inl (dA kd, m, .inr (.inr (.inr (.inr (fun j => (f j).map E)))))
  | .inr (n, fs) => .inr (n, fs.map (jE E))
def jw (E : Nat → Nat) (dA : Nat → ClassId) (base : Nat) (V : jH) : va_W := V.mapIdx (fun k c => (base + k, jEc E dA c))
def jAb (base : Nat) : Nat → Prop := fun q => base ≤ q
/-- slots of a cell -/
def jSl1 (c : jC) : Nat := match c with
  | .inl a => a.2.1
  | .inr o => if o.1 < 13 then jN o.1 else 6
def jSl (V : jH) : Nat := (V.map jSl1).sum
def jTs (dA : Nat → ClassId) : List (ClassId × FieldType) := jAk.mapIdx (fun k t => (dA k, t))
theorem jw_get {E : Nat → Nat} {dA : Nat → ClassId} {base : Nat} {V : jH} {k : Nat} {c : jC} (h : V[k]? = some c) : (jw E dA base V)[k]? = some (base + k, jEc E dA c) := by
  simp [jw, List.getElem?_mapIdx, h]
theorem jw_len {E : Nat → Nat} {dA : Nat → ClassId} {base : Nat} {V : jH} : (jw E dA base V).length = V.length := by
  simp [jw]
theorem jw_of {E : Nat → Nat} {dA : Nat → ClassId} {base : Nat} {V : jH} {k : Nat} {q : Nat × va_E} (h : (jw E dA base V)[k]? = some q) : ∃ c, V[k]? = some c ∧ q = (base + k, jEc E dA c) := by
  simp only [jw, List.getElem?_mapIdx] at h
  obtain ⟨c, h1, h2⟩ := Option.map_eq_some_iff.mp h
  exact ⟨c, h1, h2.symm⟩
theorem jw_set {E : Nat → Nat} {dA : Nat → ClassId} {base : Nat} {V : jH} {k : Nat} {c : jC} : jw E dA base (V.set k c) = (jw E dA base V).set k (base + k, jEc E dA c) := by
  apply List.ext_getElem?
  intro i
  simp only [jw, List.getElem?_mapIdx, List.getElem?_set, List.length_mapIdx]
  by_cases h : k = i
  · subst h
    by_cases hl : k < V.length <;> simp [hl]
  · simp [h]
theorem jw_push {E : Nat → Nat} {dA : Nat → ClassId} {base : Nat} {V : jH} {c : jC} : jw E dA base (V ++ [c]) = jw E dA base V ++ [(base + V.length, jEc E dA c)] := by
  simp [jw, List.mapIdx_append]
theorem jw_D {E : Nat → Nat} {dA : Nat → ClassId} {base : Nat} {V : jH} : va_D (jAb base) (jw E dA base V) := by
  refine ⟨fun i j x y hi hj hxy => ?_, fun k q hk => ?_⟩
  · obtain ⟨_, _, rfl⟩ := jw_of hi
    obtain ⟨_, _, rfl⟩ := jw_of hj
    have : base + i = base + j := hxy
    omega
  · obtain ⟨_, _, rfl⟩ := jw_of hk
    exact Nat.le_add_right _ _
theorem jSl_push (V : jH) (c : jC) : jSl (V ++ [c]) = jSl V + jSl1 c := by
  simp [jSl]
theorem jSl_set {V : jH} {k : Nat} {c c' : jC} (h : V[k]? = some c) (hs : jSl1 c' = jSl1 c) : jSl (V.set k c') = jSl V := by
  unfold jSl
  rw [List.map_set, hs]
  congr 1
  apply List.ext_getElem?
  intro i
  rw [List.getElem?_set]
  split
  · rename_i hi
    subst hi
    split
    · simp [h]
    · rename_i hl
      simp at hl
      rw [List.getElem?_eq_none (by simpa using hl)]
  · rfl
theorem jAt_of {V : jH} {a : Nat} {c : jC} (h : jAt V a = some c) : 64 ≤ a ∧ V[a - 64]? = some c := by
  unfold jAt at h
  split at h
  · cases h
  · exact ⟨by omega, h⟩
theorem jE_at {base : Nat} {E : Nat → Nat} (hE : jEok base E) {a : Nat} (h : 64 ≤ a) : E a = base + (a - 64) := by
  have := hE (a - 64)
  rwa [show 64 + (a - 64) = a by omega] at this
section JS
variable {p : Program} {l : Launch} {e : Env} {R : Room} {s : State} {m : MethodId} {args : Array Value} {below : List Frame} {meth : Method} {c : Code} {H : Heap} {locs : List Loc} {cells slots : Nat} {Q : State → Prop}
variable {E : Nat → Nat} {dA : Nat → ClassId} {D : va_G} {base N0 : Nat} {V : jH} {g : JFrame}
/-- the heap's size is known wherever a walk stands -/
theorem js_size (hP : va_P D jCs (jw E dA base V) H) (hS : va_S (jAb base) s.heap H locs) (h0 : s.heap.size = base + N0) (hc : cells + N0 = V.length)
    (k : H.size = base + V.length → W p l e R s m args below meth c H locs cells slots Q g) : W p l e R s m args below meth c H locs cells slots Q g := by
  intro T hT X
  have h1 := X.heapSize
  rw [hT, h0] at h1
  have h2 : base + V.length ≤ H.size := by
    cases hV : V.length with
    | zero => have := hS.1; omega
    | succ n =>
      have hl : n < V.length := by omega
      have := (hP n _ (jw_get (List.getElem?_eq_getElem hl))).lt
      show base + (n + 1) ≤ H.size
      have h3 : base + n < H.size := this
      omega
  exact k (by omega) T hT X
/-- a new cell lies behind all others -/
theorem js_new {a : Nat} {x : va_E} (hP : va_P D jCs (jw E dA base V ++ [(a, x)]) H) (hD : va_D (jAb base) (jw E dA base V ++ [(a, x)])) (h0 : s.heap.size = base + N0) (hc : cells + N0 = V.length + 1)
    (k : a = base + V.length → W p l e R s m args below meth c H locs cells slots Q g) : W p l e R s m args below meth c H locs cells slots Q g := by
  intro T hT X
  have h1 := X.heapSize
  rw [hT, h0] at h1
  have hl : (jw E dA base V ++ [(a, x)])[V.length]? = some (a, x) := by
    rw [List.getElem?_append_right (by rw [jw_len]; exact Nat.le_refl _), jw_len, Nat.sub_self]
    rfl
  have h2 : a < H.size := (hP _ _ hl).lt
  have h3 : base ≤ a := hD.2 _ _ hl
  have h4 : ¬ a < base + V.length := by
    intro hlt
    have hk : a - base < V.length := by omega
    have h5 : (jw E dA base V ++ [(a, x)])[a - base]? = some (base + (a - base), jEc E dA V[a - base]) := by
      rw [List.getElem?_append_left (by rw [jw_len]; exact hk)]
      exact jw_get (List.getElem?_eq_getElem hk)
    have := hD.1 _ _ _ _ hl h5 (by show a = base + (a - base); omega)
    omega
  exact k (by omega) T hT X
end JS
