/-! what the tables say of calls -/
def jLl : List (List Nat) := [[0, 1, 2, 3, 4, 5, 6, 7, 8, 9, 10, 11, 12, 13, 14, 15, 16, 17, 19, 20, 21, 22, 23, 24, 25, 26, 27, 28, 29], [30, 31, 32, 33, 34, 35, 36, 37, 38, 39, 40, 41, 42, 43, 44, 45, 46, 47, 48, 49, 50, 51, 52, 53, 54, 55, 56, 57, 58, 59], [60, 61, 62, 63, 64, 65, 66, 67, 68, 69, 70, 71, 72, 73, 74, 75, 76, 77, 78, 79, 80, 81, 82, 83, 84, 85, 86, 87, 88, 89], [90, 91, 92, 93, 94, 95, 96, 97, 98, 99, 100, 101, 102, 103, 104, 105, 106, 107, 108, 109, 110, 111, 112, 113, 114, 115, 116, 117, 118, 119], [120, 121, 122, 123, 124, 125, 126, 127, 128, 129, 130, 131, 132, 133, 134, 135, 136, 137, 138, 139, 140, 141, 142, 143, 144, 145, 146, 147, 148, 149], [150, 151, 152, 153, 154, 155, 156, 157, 158, 159, 160, 161, 162, 163, 164, 165, 166, 167, 168, 169, 170, 171, 172, 173, 174, 175, 176, 177, 178, 179], [180, 181, 182, 183, 184, 185, 186, 187, 188, 189, 190, 191, 192, 193, 194, 195, 196, 197, 198, 199, 200, 201, 202, 203, 204, 205, 206, 207, 208, 209], [210, 211, 212, 213, 214, 215, 216, 217, 218, 219, 220, 221, 222, 223, 224, 225, 226, 227, 228, 229, 230, 231, 232, 233, 234, 235, 236, 237, 238, 239], [240, 241, 242, 243, 244, 245, 246, 247, 248, 249, 250, 251, 252, 253, 254, 255, 256, 257, 258, 259, 260, 261, 262, 263, 264, 265, 266, 267, 268, 269], [270, 271, 272, 273, 274, 275, 276, 277, 278, 279, 280, 281, 282, 283, 284, 285, 286, 287, 288, 289, 290, 291, 292, 293, 294, 295, 296, 297, 298, 299], [300, 301, 302, 303, 304, 305, 306, 307, 308, 309, 310, 311, 312, 313, 314, 315, 316, 317, 318, 319, 320, 321, 322, 323, 324, 325, 326, 327, 328, 329], [330, 331, 332, 333, 334, 335, 336, 337, 338, 339, 340, 341, 342, 343, 344, 345, 346, 347, 348, 349, 350, 351, 352, 353, 354, 355, 356, 357, 358, 359], [360, 361, 362, 363, 364, 365, 366, 367, 368, 369, 370, 371, 372, 373, 374, 375, 376, 377, 378, 379, 380, 381, 382, 383, 384, 385, 386, 387, 388, 389], [390, 391, 392, 393, 394, 395, 396, 397, 398, 399, 400, 401, 402, 403, 404, 405, 406, 407, 408, 409, 410, 411, 412, 413, 414, 415]]
theorem jLl_ok : ∀ l ∈ jLl, ∀ w ∈ l.flatMap (fun t => jWn (jMs.getD t jm0) (jSs.contains t)), w ∈ lw_tbl := List.forall_mem_cons.mpr ⟨jMem _ jWn0, List.forall_mem_cons.mpr ⟨jMem _ jWn1, List.forall_mem_cons.mpr ⟨jMem _ jWn2, List.forall_mem_cons.mpr ⟨jMem _ jWn3, List.forall_mem_cons.mpr ⟨jMem _ jWn4, List.forall_mem_cons.mpr ⟨jMem _ jWn5, List.forall_mem_cons.mpr ⟨jMem _ jWn6, List.forall_mem_cons.mpr ⟨jMem _ jWn7, List.forall_mem_cons.mpr ⟨jMem _ jWn8, List.forall_mem_cons.mpr ⟨jMem _ jWn9, List.forall_mem_cons.mpr ⟨jMem _ jWn10, List.forall_mem_cons.mpr ⟨jMem _ jWn11, List.forall_mem_cons.mpr ⟨jMem _ jWn12, List.forall_mem_cons.mpr ⟨jMem _ jWn13, fun _ h => absurd h List.not_mem_nil⟩⟩⟩⟩⟩⟩⟩⟩⟩⟩⟩⟩⟩⟩
theorem jLlB : (List.range 416).all (fun t => t == 18 || jLl.any (fun l => l.contains t)) = true := by decide +kernel
theorem jMs_len : jMs.length = 416 := by decide +kernel
theorem jWn_ok {t : Nat} {e : jM} (h : jMs[t]? = some e) (h18 : t ≠ 18) : ∀ w ∈ jWn e (jSs.contains t), w ∈ lw_tbl := by
  have ht : t < 416 := by rw [← jMs_len]; exact (List.getElem?_eq_some_iff.mp h).1
  have h1 := List.all_eq_true.mp jLlB t (List.mem_range.mpr ht)
  simp only [Bool.or_eq_true, beq_iff_eq, h18, false_or, List.any_eq_true] at h1
  obtain ⟨l, hl, hc⟩ := h1
  intro w hw
  refine jLl_ok l hl w (List.mem_flatMap.mpr ⟨t, List.contains_iff_mem.mp hc, ?_⟩)
  rw [List.getD_eq_getElem?_getD, h]
  exact hw
/-- what J's table of calls promises of an entry -/
def jClOk (q : Nat × Nat × Nat × Nat) : Bool := decide (4 ≤ q.2.1) || match jMs[q.2.2.1]? with
  | none => false
  | some e => !(q.2.2.1 == 18) && ((parseMethodDescriptor e.1.desc).map (fun d => d.parameters.length) == some q.2.2.2) && !(e.1.cls == "java/lang/invoke/MethodHandle") && !(e.1.cls == "java/lang/invoke/VarHandle") && (e.1.cls == jnm e.2.1) && decide (e.2.2.2.1 ≤ 40) && !(e.1.name == "law") &&
    (if q.2.1 = 0 then !(jSs.contains q.2.2.1) && !(e.1.name == "<init>") && decide (e.2.1 < 13) else if q.2.1 = 1 then jSs.contains q.2.2.1 else !(jSs.contains q.2.2.1) && (e.1.name == "<init>") && e.2.2.2.2.2.1.isEmpty && e.2.2.2.2.1.isNone)
set_option maxRecDepth 100000 in
theorem jClB : jCl.all (fun l => l.all jClOk) = true := by decide +kernel
theorem jCl_ok {o i : Nat} {q : Nat × Nat × Nat} (h : jFind jCl o i = some q) : jClOk (i, q) = true := by
  have h1 := jFind_mem h
  have h2 : jCl.getD o [] ∈ jCl := by
    by_cases ho : o < jCl.length
    · rw [List.getD_eq_getElem?_getD, List.getElem?_eq_getElem ho]
      exact List.getElem_mem ho
    · rw [List.getD_eq_getElem?_getD, List.getElem?_eq_none (by omega)] at h1
      cases h1
  exact List.all_eq_true.mp (List.all_eq_true.mp jClB _ h2) _ h1
/-- of a call of a method of ours -/
theorem jCl_own {o i kd t na : Nat} {e : jM} (h : jFind jCl o i = some (kd, t, na)) (hk : kd < 4) (he : jMs[t]? = some e) :
    t ≠ 18 ∧ (parseMethodDescriptor e.1.desc).map (fun d => d.parameters.length) = some na ∧ (e.1.cls ≠ "java/lang/invoke/MethodHandle" ∧ e.1.cls ≠ "java/lang/invoke/VarHandle") ∧ e.1.cls = jnm e.2.1 ∧ e.2.2.2.1 ≤ 40 ∧ e.1.name ≠ "law" ∧
    (kd = 0 → jSs.contains t = false ∧ e.1.name ≠ "<init>" ∧ e.2.1 < 13) ∧ (kd = 1 → jSs.contains t = true) ∧ (2 ≤ kd → jSs.contains t = false ∧ e.1.name = "<init>" ∧ e.2.2.2.2.2.1 = [] ∧ e.2.2.2.2.1 = none) := by
  have h1 := jCl_ok h
  unfold jClOk at h1
  simp only [he, Bool.or_eq_true, decide_eq_true_eq, Bool.and_eq_true, Bool.not_eq_true', beq_iff_eq, beq_eq_false_iff_ne] at h1
  rcases h1 with h1 | h1
  · omega
  · obtain ⟨⟨⟨⟨⟨⟨⟨a1, a2⟩, a3⟩, a4⟩, a5⟩, a6⟩, a7⟩, a8⟩ := h1
    refine ⟨a1, a2, ⟨a3, a4⟩, a5, a6, a7, fun z => ?_, fun z => ?_, fun z => ?_⟩
    · subst z
      simp at a8
      exact ⟨by simpa using a8.1.1, a8.1.2, a8.2⟩
    · subst z
      simpa using a8
    · rw [if_neg (by omega), if_neg (by omega)] at a8
      simp at a8
      exact ⟨by simpa using a8.1.1.1, a8.1.1.2, a8.1.2, a8.2⟩
theorem jCl_link {o i kd t na : Nat} {e : jM} (h : jFind jCl o i = some (kd, t, na)) (hk : kd ≤ 2) (he : jMs[t]? = some e) : Cond.methodLink (jnm o) i e.1 ∈ lw_tbl := by
  refine jWl_ok o _ (List.mem_filterMap.mpr ⟨_, jFind_mem h, ?_⟩)
  dsimp only
  rw [if_pos hk, he]
  rfl
theorem jMs_mem {t : Nat} {e : jM} (h : jMs[t]? = some e) : e ∈ jMs := List.mem_of_getElem? h
theorem jCw_good (e : jM) : goodWord (jCw e) = true := by
  unfold jCw
  split <;> rfl
