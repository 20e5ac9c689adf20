/-! the texts: the JDK's own String methods (words by program: wip/tools/gen8.py) -/
def ys_len : MethodName := ⟨"java/lang/String", "length", "()I"⟩
def ys_cod : MethodName := ⟨"java/lang/String", "coder", "()B"⟩
def ys_lat : MethodName := ⟨"java/lang/String", "isLatin1", "()Z"⟩
def ys_cha : MethodName := ⟨"java/lang/String", "charAt", "(I)C"⟩
def ys_lch : MethodName := ⟨"java/lang/StringLatin1", "charAt", "([BI)C"⟩
def ys_chk : MethodName := ⟨"java/lang/String", "checkIndex", "(II)V"⟩
def ys_pre : MethodName := ⟨"jdk/internal/util/Preconditions", "checkIndex", "(IILjava/util/function/BiFunction;)I"⟩
def ys_ix1 : MethodName := ⟨"java/lang/String", "indexOf", "(I)I"⟩
def ys_ix2 : MethodName := ⟨"java/lang/String", "indexOf", "(II)I"⟩
def ys_lix : MethodName := ⟨"java/lang/StringLatin1", "indexOf", "([BIII)I"⟩
def ys_can : MethodName := ⟨"java/lang/StringLatin1", "canEncode", "(I)Z"⟩
def ys_ixc : MethodName := ⟨"java/lang/StringLatin1", "indexOfChar", "([BIII)I"⟩
def ys_max : MethodName := ⟨"java/lang/Math", "max", "(II)I"⟩
def ys_min : MethodName := ⟨"java/lang/Math", "min", "(II)I"⟩
def jWj : List Cond := [.code ys_len prog_22_method_54_code 1 (some .int), .instanceMethod ys_len, .selects "java/lang/String" ys_len ys_len, .code ys_cod prog_22_method_152_code 1 (some .byte), .instanceMethod ys_cod, .selects "java/lang/String" ys_cod ys_cod, .code ys_lat prog_22_method_154_code 1 (some .boolean), .instanceMethod ys_lat, .selects "java/lang/String" ys_lat ys_lat, .code ys_cha prog_22_method_56_code 2 (some .char), .instanceMethod ys_cha, .selects "java/lang/String" ys_cha ys_cha, .code ys_lch prog_23_method_2_code 2 (some .char), .static ys_lch, .code ys_chk prog_22_method_155_code 2 (none), .static ys_chk, .code ys_pre prog_30_method_11_code 3 (some .int), .static ys_pre, .code ys_ix1 prog_22_method_79_code 2 (some .int), .instanceMethod ys_ix1, .selects "java/lang/String" ys_ix1 ys_ix1, .code ys_ix2 prog_22_method_80_code 3 (some .int), .instanceMethod ys_ix2, .selects "java/lang/String" ys_ix2 ys_ix2, .code ys_lix prog_23_method_22_code 4 (some .int), .static ys_lix, .code ys_can prog_23_method_4_code 1 (some .boolean), .static ys_can, .code ys_ixc prog_23_method_23_code 6 (some .int), .static ys_ixc, .code ys_max prog_20_method_65_code 2 (some .int), .static ys_max, .code ys_min prog_20_method_69_code 2 (some .int), .static ys_min, .initialized "java/lang/String", .initialized "java/lang/StringLatin1", .initialized "jdk/internal/util/Preconditions", .initialized "java/lang/Math", .methodLink "java/lang/String" 335 ys_cod, .methodLink "java/lang/String" 492 ys_lat, .methodLink "java/lang/String" 495 ys_lch, .methodLink "java/lang/String" 1059 ys_pre, .methodLink "java/lang/String" 633 ys_ix2, .methodLink "java/lang/String" 637 ys_lix, .methodLink "java/lang/String" 505 ys_len, .methodLink "java/lang/StringLatin1" 9 ys_chk, .methodLink "java/lang/StringLatin1" 88 ys_can, .methodLink "java/lang/StringLatin1" 92 ys_max, .methodLink "java/lang/StringLatin1" 38 ys_min, .methodLink "java/lang/StringLatin1" 95 ys_ixc, .methodLink "LinkedCores$Scanner" 122 ys_ix1, .methodLink "LinkedCores$Scanner" 129 ys_len, .methodLink "LinkedCores$Scanner" 132 ys_cha, .methodLink "LinkedCoresModel" 361 ys_len, .methodLink "LinkedCoresModel" 367 ys_cha, .methodLink "LinkedCoresModel" 394 ys_ix1, .fieldLink "java/lang/String" 38 "java/lang/String" "COMPACT_STRINGS" "Z", .fieldLink "java/lang/String" 1053 "jdk/internal/util/Preconditions" "SIOOBE_FORMATTER" "Ljava/util/function/BiFunction;", .fieldLink "java/lang/String" 15 "java/lang/String" "coder" "B", .fieldLink "java/lang/String" 9 "java/lang/String" "value" "[B"]
set_option maxRecDepth 100000 in
theorem jWj_ok : jWj = jTp [(2, 11), (2, 9), (2, 10), (2, 15), (2, 13), (2, 14), (2, 5), (2, 3), (2, 4), (2, 95), (2, 93), (2, 94), (2, 98), (2, 97), (2, 101), (2, 100), (2, 104), (2, 103), (1, 237), (1, 235), (1, 236), (2, 1), (1, 239), (2, 0), (2, 18), (2, 17), (2, 21), (2, 20), (2, 28), (2, 27), (1, 141), (1, 140), (2, 25), (2, 24), (1, 11), (1, 12), (1, 14), (1, 10), (2, 12), (2, 2), (2, 96), (2, 102), (1, 238), (2, 16), (2, 8), (2, 99), (2, 19), (2, 22), (2, 23), (2, 26), (1, 234), (2, 91), (2, 92), (10, 96), (10, 98), (10, 175), (2, 6), (2, 47), (13, 20), (13, 21)] := by decide +kernel
theorem jj {w : Cond} (i : Nat) (h : jWj[i]? = some w) (hg : goodWord w = true) : w ∈ lw_g := lg (jMem _ jWj_ok _ (List.mem_of_getElem? h)) hg
theorem dj_len_0 : decode prog_22_method_54_code 0 = .ok (.aload_n 0, 1) := by decide +kernel
theorem dj_len_1 : decode prog_22_method_54_code 1 = .ok (.getfield 9, 3) := by decide +kernel
theorem dj_len_4 : decode prog_22_method_54_code 4 = .ok (.arraylength, 1) := by decide +kernel
theorem dj_len_5 : decode prog_22_method_54_code 5 = .ok (.aload_n 0, 1) := by decide +kernel
theorem dj_len_6 : decode prog_22_method_54_code 6 = .ok (.invokevirtual 335, 3) := by decide +kernel
theorem dj_len_9 : decode prog_22_method_54_code 9 = .ok (.ishr, 1) := by decide +kernel
theorem dj_len_10 : decode prog_22_method_54_code 10 = .ok (.ireturn, 1) := by decide +kernel
theorem dj_cod_0 : decode prog_22_method_152_code 0 = .ok (.getstatic 38, 3) := by decide +kernel
theorem dj_cod_3 : decode prog_22_method_152_code 3 = .ok (.ifCond .eq (10), 3) := by decide +kernel
theorem dj_cod_6 : decode prog_22_method_152_code 6 = .ok (.aload_n 0, 1) := by decide +kernel
theorem dj_cod_7 : decode prog_22_method_152_code 7 = .ok (.getfield 15, 3) := by decide +kernel
theorem dj_cod_10 : decode prog_22_method_152_code 10 = .ok (.goto (4), 3) := by decide +kernel
theorem dj_cod_14 : decode prog_22_method_152_code 14 = .ok (.ireturn, 1) := by decide +kernel
theorem dj_lat_0 : decode prog_22_method_154_code 0 = .ok (.getstatic 38, 3) := by decide +kernel
theorem dj_lat_3 : decode prog_22_method_154_code 3 = .ok (.ifCond .eq (14), 3) := by decide +kernel
theorem dj_lat_6 : decode prog_22_method_154_code 6 = .ok (.aload_n 0, 1) := by decide +kernel
theorem dj_lat_7 : decode prog_22_method_154_code 7 = .ok (.getfield 15, 3) := by decide +kernel
theorem dj_lat_10 : decode prog_22_method_154_code 10 = .ok (.ifCond .ne (7), 3) := by decide +kernel
theorem dj_lat_13 : decode prog_22_method_154_code 13 = .ok (.iconst 1, 1) := by decide +kernel
theorem dj_lat_14 : decode prog_22_method_154_code 14 = .ok (.goto (4), 3) := by decide +kernel
theorem dj_lat_18 : decode prog_22_method_154_code 18 = .ok (.ireturn, 1) := by decide +kernel
theorem dj_cha_0 : decode prog_22_method_56_code 0 = .ok (.aload_n 0, 1) := by decide +kernel
theorem dj_cha_1 : decode prog_22_method_56_code 1 = .ok (.invokevirtual 492, 3) := by decide +kernel
theorem dj_cha_4 : decode prog_22_method_56_code 4 = .ok (.ifCond .eq (12), 3) := by decide +kernel
theorem dj_cha_7 : decode prog_22_method_56_code 7 = .ok (.aload_n 0, 1) := by decide +kernel
theorem dj_cha_8 : decode prog_22_method_56_code 8 = .ok (.getfield 9, 3) := by decide +kernel
theorem dj_cha_11 : decode prog_22_method_56_code 11 = .ok (.iload_n 1, 1) := by decide +kernel
theorem dj_cha_12 : decode prog_22_method_56_code 12 = .ok (.invokestatic 495, 3) := by decide +kernel
theorem dj_cha_15 : decode prog_22_method_56_code 15 = .ok (.ireturn, 1) := by decide +kernel
theorem dj_lch_0 : decode prog_23_method_2_code 0 = .ok (.iload_n 1, 1) := by decide +kernel
theorem dj_lch_1 : decode prog_23_method_2_code 1 = .ok (.aload_n 0, 1) := by decide +kernel
theorem dj_lch_2 : decode prog_23_method_2_code 2 = .ok (.arraylength, 1) := by decide +kernel
theorem dj_lch_3 : decode prog_23_method_2_code 3 = .ok (.invokestatic 9, 3) := by decide +kernel
theorem dj_lch_6 : decode prog_23_method_2_code 6 = .ok (.aload_n 0, 1) := by decide +kernel
theorem dj_lch_7 : decode prog_23_method_2_code 7 = .ok (.iload_n 1, 1) := by decide +kernel
theorem dj_lch_8 : decode prog_23_method_2_code 8 = .ok (.baload, 1) := by decide +kernel
theorem dj_lch_9 : decode prog_23_method_2_code 9 = .ok (.sipush 255, 3) := by decide +kernel
theorem dj_lch_12 : decode prog_23_method_2_code 12 = .ok (.iand, 1) := by decide +kernel
theorem dj_lch_13 : decode prog_23_method_2_code 13 = .ok (.i2c, 1) := by decide +kernel
theorem dj_lch_14 : decode prog_23_method_2_code 14 = .ok (.ireturn, 1) := by decide +kernel
theorem dj_chk_0 : decode prog_22_method_155_code 0 = .ok (.iload_n 0, 1) := by decide +kernel
theorem dj_chk_1 : decode prog_22_method_155_code 1 = .ok (.iload_n 1, 1) := by decide +kernel
theorem dj_chk_2 : decode prog_22_method_155_code 2 = .ok (.getstatic 1053, 3) := by decide +kernel
theorem dj_chk_5 : decode prog_22_method_155_code 5 = .ok (.invokestatic 1059, 3) := by decide +kernel
theorem dj_chk_8 : decode prog_22_method_155_code 8 = .ok (.pop, 1) := by decide +kernel
theorem dj_chk_9 : decode prog_22_method_155_code 9 = .ok (.return_, 1) := by decide +kernel
theorem dj_pre_0 : decode prog_30_method_11_code 0 = .ok (.iload_n 0, 1) := by decide +kernel
theorem dj_pre_1 : decode prog_30_method_11_code 1 = .ok (.ifCond .lt (8), 3) := by decide +kernel
theorem dj_pre_4 : decode prog_30_method_11_code 4 = .ok (.iload_n 0, 1) := by decide +kernel
theorem dj_pre_5 : decode prog_30_method_11_code 5 = .ok (.iload_n 1, 1) := by decide +kernel
theorem dj_pre_6 : decode prog_30_method_11_code 6 = .ok (.if_icmp .lt (10), 3) := by decide +kernel
theorem dj_pre_16 : decode prog_30_method_11_code 16 = .ok (.iload_n 0, 1) := by decide +kernel
theorem dj_pre_17 : decode prog_30_method_11_code 17 = .ok (.ireturn, 1) := by decide +kernel
theorem dj_ix1_0 : decode prog_22_method_79_code 0 = .ok (.aload_n 0, 1) := by decide +kernel
theorem dj_ix1_1 : decode prog_22_method_79_code 1 = .ok (.iload_n 1, 1) := by decide +kernel
theorem dj_ix1_2 : decode prog_22_method_79_code 2 = .ok (.iconst 0, 1) := by decide +kernel
theorem dj_ix1_3 : decode prog_22_method_79_code 3 = .ok (.invokevirtual 633, 3) := by decide +kernel
theorem dj_ix1_6 : decode prog_22_method_79_code 6 = .ok (.ireturn, 1) := by decide +kernel
theorem dj_ix2_0 : decode prog_22_method_80_code 0 = .ok (.aload_n 0, 1) := by decide +kernel
theorem dj_ix2_1 : decode prog_22_method_80_code 1 = .ok (.invokevirtual 492, 3) := by decide +kernel
theorem dj_ix2_4 : decode prog_22_method_80_code 4 = .ok (.ifCond .eq (19), 3) := by decide +kernel
theorem dj_ix2_7 : decode prog_22_method_80_code 7 = .ok (.aload_n 0, 1) := by decide +kernel
theorem dj_ix2_8 : decode prog_22_method_80_code 8 = .ok (.getfield 9, 3) := by decide +kernel
theorem dj_ix2_11 : decode prog_22_method_80_code 11 = .ok (.iload_n 1, 1) := by decide +kernel
theorem dj_ix2_12 : decode prog_22_method_80_code 12 = .ok (.iload_n 2, 1) := by decide +kernel
theorem dj_ix2_13 : decode prog_22_method_80_code 13 = .ok (.aload_n 0, 1) := by decide +kernel
theorem dj_ix2_14 : decode prog_22_method_80_code 14 = .ok (.invokevirtual 505, 3) := by decide +kernel
theorem dj_ix2_17 : decode prog_22_method_80_code 17 = .ok (.invokestatic 637, 3) := by decide +kernel
theorem dj_ix2_20 : decode prog_22_method_80_code 20 = .ok (.goto (16), 3) := by decide +kernel
theorem dj_ix2_36 : decode prog_22_method_80_code 36 = .ok (.ireturn, 1) := by decide +kernel
theorem dj_lix_0 : decode prog_23_method_22_code 0 = .ok (.iload_n 1, 1) := by decide +kernel
theorem dj_lix_1 : decode prog_23_method_22_code 1 = .ok (.invokestatic 88, 3) := by decide +kernel
theorem dj_lix_4 : decode prog_23_method_22_code 4 = .ok (.ifCond .ne (5), 3) := by decide +kernel
theorem dj_lix_9 : decode prog_23_method_22_code 9 = .ok (.iload_n 2, 1) := by decide +kernel
theorem dj_lix_10 : decode prog_23_method_22_code 10 = .ok (.iconst 0, 1) := by decide +kernel
theorem dj_lix_11 : decode prog_23_method_22_code 11 = .ok (.invokestatic 92, 3) := by decide +kernel
theorem dj_lix_14 : decode prog_23_method_22_code 14 = .ok (.istore_n 2, 1) := by decide +kernel
theorem dj_lix_15 : decode prog_23_method_22_code 15 = .ok (.iload_n 3, 1) := by decide +kernel
theorem dj_lix_16 : decode prog_23_method_22_code 16 = .ok (.aload_n 0, 1) := by decide +kernel
theorem dj_lix_17 : decode prog_23_method_22_code 17 = .ok (.arraylength, 1) := by decide +kernel
theorem dj_lix_18 : decode prog_23_method_22_code 18 = .ok (.invokestatic 38, 3) := by decide +kernel
theorem dj_lix_21 : decode prog_23_method_22_code 21 = .ok (.istore_n 3, 1) := by decide +kernel
theorem dj_lix_22 : decode prog_23_method_22_code 22 = .ok (.iload_n 2, 1) := by decide +kernel
theorem dj_lix_23 : decode prog_23_method_22_code 23 = .ok (.iload_n 3, 1) := by decide +kernel
theorem dj_lix_24 : decode prog_23_method_22_code 24 = .ok (.if_icmp .lt (5), 3) := by decide +kernel
theorem dj_lix_29 : decode prog_23_method_22_code 29 = .ok (.aload_n 0, 1) := by decide +kernel
theorem dj_lix_30 : decode prog_23_method_22_code 30 = .ok (.iload_n 1, 1) := by decide +kernel
theorem dj_lix_31 : decode prog_23_method_22_code 31 = .ok (.iload_n 2, 1) := by decide +kernel
theorem dj_lix_32 : decode prog_23_method_22_code 32 = .ok (.iload_n 3, 1) := by decide +kernel
theorem dj_lix_33 : decode prog_23_method_22_code 33 = .ok (.invokestatic 95, 3) := by decide +kernel
theorem dj_lix_36 : decode prog_23_method_22_code 36 = .ok (.ireturn, 1) := by decide +kernel
theorem dj_can_0 : decode prog_23_method_4_code 0 = .ok (.iload_n 0, 1) := by decide +kernel
theorem dj_can_1 : decode prog_23_method_4_code 1 = .ok (.ifCond .lt (14), 3) := by decide +kernel
theorem dj_can_4 : decode prog_23_method_4_code 4 = .ok (.iload_n 0, 1) := by decide +kernel
theorem dj_can_5 : decode prog_23_method_4_code 5 = .ok (.sipush 255, 3) := by decide +kernel
theorem dj_can_8 : decode prog_23_method_4_code 8 = .ok (.if_icmp .gt (7), 3) := by decide +kernel
theorem dj_can_11 : decode prog_23_method_4_code 11 = .ok (.iconst 1, 1) := by decide +kernel
theorem dj_can_12 : decode prog_23_method_4_code 12 = .ok (.goto (4), 3) := by decide +kernel
theorem dj_can_16 : decode prog_23_method_4_code 16 = .ok (.ireturn, 1) := by decide +kernel
theorem dj_ixc_0 : decode prog_23_method_23_code 0 = .ok (.iload_n 1, 1) := by decide +kernel
theorem dj_ixc_1 : decode prog_23_method_23_code 1 = .ok (.i2b, 1) := by decide +kernel
theorem dj_ixc_2 : decode prog_23_method_23_code 2 = .ok (.istore 4, 2) := by decide +kernel
theorem dj_ixc_4 : decode prog_23_method_23_code 4 = .ok (.iload_n 2, 1) := by decide +kernel
theorem dj_ixc_5 : decode prog_23_method_23_code 5 = .ok (.istore 5, 2) := by decide +kernel
theorem dj_ixc_7 : decode prog_23_method_23_code 7 = .ok (.iload 5, 2) := by decide +kernel
theorem dj_ixc_9 : decode prog_23_method_23_code 9 = .ok (.iload_n 3, 1) := by decide +kernel
theorem dj_ixc_10 : decode prog_23_method_23_code 10 = .ok (.if_icmp .ge (21), 3) := by decide +kernel
theorem dj_ixc_13 : decode prog_23_method_23_code 13 = .ok (.aload_n 0, 1) := by decide +kernel
theorem dj_ixc_14 : decode prog_23_method_23_code 14 = .ok (.iload 5, 2) := by decide +kernel
theorem dj_ixc_16 : decode prog_23_method_23_code 16 = .ok (.baload, 1) := by decide +kernel
theorem dj_ixc_17 : decode prog_23_method_23_code 17 = .ok (.iload 4, 2) := by decide +kernel
theorem dj_ixc_19 : decode prog_23_method_23_code 19 = .ok (.if_icmp .ne (6), 3) := by decide +kernel
theorem dj_ixc_22 : decode prog_23_method_23_code 22 = .ok (.iload 5, 2) := by decide +kernel
theorem dj_ixc_24 : decode prog_23_method_23_code 24 = .ok (.ireturn, 1) := by decide +kernel
theorem dj_ixc_25 : decode prog_23_method_23_code 25 = .ok (.iinc 5 1, 3) := by decide +kernel
theorem dj_ixc_28 : decode prog_23_method_23_code 28 = .ok (.goto (-21), 3) := by decide +kernel
theorem dj_ixc_31 : decode prog_23_method_23_code 31 = .ok (.iconst (-1), 1) := by decide +kernel
theorem dj_ixc_32 : decode prog_23_method_23_code 32 = .ok (.ireturn, 1) := by decide +kernel
/-! a callee that only reads -/
def jPs (l : Launch) (E : Nat → Nat) (base : Nat) (X : jX) (y : MethodName) (cc : ByteArray) (n : Nat) (ret : Option FieldType) (fr lo : Nat) (as : List Value) (o : Option Value) : Prop :=
  Met l y (.code y cc n ret :: lw_g) ({ frames := fr, cells := 0, slots := 0, locals := lo } : Room) (va_Pc as (fun U => jOu E base X U U.heap ∧ base ≤ U.heap.size)) (fun _ st oc t => oc = .returned o ∧ va_F (fun _ => False) st t) 0 0 (fun _ => False)
theorem jg_good {w : Cond} (h : w ∈ lw_g) : GoodIn lw_g (w :: lw_g) := fun v hv => by
  rcases List.mem_cons.mp hv with rfl | hv
  · exact ⟨h, lw_good _ h⟩
  · exact ⟨hv, lw_good _ hv⟩
theorem jB_blind {E : Nat → Nat} {base : Nat} {X : jX} {as : List Value} : FrameBlind (va_Pc as (fun U => jOu E base X U U.heap ∧ base ≤ U.heap.size)) := fun a U g mk q => ⟨q.1, jOu.go (u := U) (U := U.calling g mk a) q.2.1 q.2.2 (State.WarmedH.refl U) (fun _ _ _ => rfl), q.2.2⟩
section JQ
variable {p : Program} {l : Launch} {e : Env} {R : Room} {s : State} {m : MethodId} {args : Array Value} {below : List Frame} {meth : Method} {c : Code} {H : Heap} {locs : List Loc} {cells slots : Nat} {Q : State → Prop}
variable {E : Nat → Nat} {base : Nat} {X : jX} {pc : Nat} {ls : Array Slot} {st0 rest : List Value} {o : Option Value} {cc cy : ByteArray} {ny fr lo index : Nat} {y : MethodName} {ret : Option FieldType} {as : List Value} {own : String} {na : Nat}
theorem jq_call (hr : va_Run p l e R s m args below meth c H locs cells slots 0 0 (F0 m pc ls st0) rest (fun st oc t => oc = .returned o ∧ va_F (fun _ => False) st t) (fun _ => False)) (hz : s.heap.size + cells ≤ H.size)
    (k : W p l e R s m args below meth c H locs cells slots Q (F0 m (pc + 3) ls (o.toList ++ rest))) : W p l e R s m args below meth c H locs cells slots Q (F0 m pc ls st0) := by
  intro T hT X
  obtain ⟨v, st₀, t, T', L, h0, X', hL, e1, e2, ⟨hv, hz', hk⟩, st⟩ := hr T hT X
  cases hv
  have hLn : L = [] := by
    cases L with
    | nil => rfl
    | cons a L => exact absurd (hL a List.mem_cons_self) id
  subst hLn
  rw [List.append_nil] at X'
  have hs := X'.heapSize
  rw [h0] at hz' hk
  have hH : T'.heap = H := by
    rw [← e1] at hz' hk
    apply Array.ext_getElem?
    intro i
    by_cases hi : i < H.size
    · exact hk i hi id
    · rw [Array.getElem?_eq_none (by omega), Array.getElem?_eq_none (by omega)]
  obtain ⟨t2, a1, b1⟩ := k T' hH X'
  exact ⟨t2, st t2 a1, b1⟩
theorem jq_pre (hO : jOu E base X s s.heap) (hbs : base ≤ s.heap.size) (hS : va_S (jAb base) s.heap H locs) : ∀ U : State, U.heap = H → s.WarmedH U.vm → va_Pc as (fun U => jOu E base X U U.heap ∧ base ≤ U.heap.size) as.toArray U := fun U hU hW => ⟨rfl, by rw [hU]; exact hO.go hbs hW hS.2.1, by rw [hU]; exact Nat.le_trans hbs hS.1⟩
/-- a static callee that only reads -/
theorem jq_static (hx : p.tables.exec = Jvm.exec) (hb : c.code = cc) (hml : c.maxLocals = ls.size) (hown : s.vm.findClass own = some m.cls) (hts : ∀ w ∈ lw_g, w.before args s = true) (hO : jOu E base X s s.heap) (hbs : base ≤ s.heap.size) (hS : va_S (jAb base) s.heap H locs) (hz : s.heap.size + cells ≤ H.size) (hC : cells ≤ R.cells) (hCs : slots ≤ R.slots)
    (M : jPs l E base X y cy ny ret fr lo as o) (hw : Cond.code y cy ny ret ∈ lw_g) (hl : Cond.methodLink own index y ∈ lw_g) (hst : Cond.static y ∈ lw_g) (hin : Cond.initialized y.cls ∈ lw_g) (hd : y.cls ≠ "java/lang/invoke/MethodHandle" ∧ y.cls ≠ "java/lang/invoke/VarHandle" ∧ (parseMethodDescriptor y.desc).map (fun d => d.parameters.length) = some na) (hna : as.length = na)
    (hR : fr + 1 ≤ R.frames ∧ 8 + (ny + 11) + lo ≤ R.locals) (hsk : st0 = as.reverse ++ rest) (h8 : (rest.map fun v => v.category).sum ≤ 8) (hdg : decode cc pc = .ok (.invokestatic index, 3))
    (k : W p l e R s m args below meth c H locs cells slots Q (F0 m (pc + 3) ls (o.toList ++ rest))) : W p l e R s m args below meth c H locs cells slots Q (F0 m pc ls st0) := by
  refine jq_call (va_runS (As := as) (rest := rest) (nL := ls.size) ⟨hx, hb, hml, hown, hts⟩ M ⟨callB_of na hts (jg_good hw) rfl rfl rfl (hts _ hin) (hts _ hl) hd hR, hts _ hst⟩ ⟨jB_blind, jq_pre hO hbs hS⟩ rfl hna rfl hsk ?_ hdg ⟨hC, hCs⟩) hz k
  simpa using h8
/-- a method of a text's that only reads -/
theorem jq_virtual (hx : p.tables.exec = Jvm.exec) (hb : c.code = cc) (hml : c.maxLocals = ls.size) (hown : s.vm.findClass own = some m.cls) (hts : ∀ w ∈ lw_g, w.before args s = true) (hO : jOu E base X s s.heap) (hbs : base ≤ s.heap.size) (hS : va_S (jAb base) s.heap H locs) (hz : s.heap.size + cells ≤ H.size) (hC : cells ≤ R.cells) (hCs : slots ≤ R.slots)
    {i : Nat} {q : Nat × Nat × String} (hi : jSt[i]? = some q) (M : jPs l E base X y cy ny ret fr lo (.ref (E i) :: as) o) (hw : Cond.code y cy ny ret ∈ lw_g) (hl : Cond.methodLink own index y ∈ lw_g) (hst : Cond.instanceMethod y ∈ lw_g) (hse : Cond.selects "java/lang/String" y y ∈ lw_g) (hin : Cond.initialized y.cls ∈ lw_g) (hd : y.cls ≠ "java/lang/invoke/MethodHandle" ∧ y.cls ≠ "java/lang/invoke/VarHandle" ∧ (parseMethodDescriptor y.desc).map (fun d => d.parameters.length) = some na) (hna : as.length = na)
    (hR : fr + 1 ≤ R.frames ∧ 8 + (ny + 11) + lo ≤ R.locals) (hsk : st0 = as.reverse ++ .ref (E i) :: rest) (h8 : (rest.map fun v => v.category).sum ≤ 8) (hdg : decode cc pc = .ok (.invokevirtual index, 3))
    (k : W p l e R s m args below meth c H locs cells slots Q (F0 m (pc + 3) ls (o.toList ++ rest))) : W p l e R s m args below meth c H locs cells slots Q (F0 m pc ls st0) := by
  obtain ⟨cell, g1, g2, g3, -⟩ := (hO.2.2.2.2.2.2.2.2.1.1 i q hi).1.kept hS.2.1
  refine jq_call (va_runV (As := as) (rest := rest) (nL := ls.size) (C := "java/lang/String") (b := E i) ⟨hx, hb, hml, hown, hts⟩ M ⟨callB_of na hts (jg_good hw) rfl rfl rfl (hts _ hin) (hts _ hl) hd hR, hts _ hst, hts _ hse⟩ ⟨jB_blind, ⟨cell, g1, g2, g3⟩, jq_pre hO hbs hS⟩ rfl hna rfl hsk ?_ hdg ⟨hC, hCs⟩) hz k
  simpa using h8
end JQ
/-- how such a contract begins -/
theorem jPs.of {l : Launch} {E : Nat → Nat} {base : Nat} {X : jX} {y : MethodName} {cc : ByteArray} {n : Nat} {ret : Option FieldType} {fr lo : Nat} {as : List Value} {o : Option Value} (hy : plainName y.cls = true) (hn : (lg_sl as).length ≤ n)
    (h : ∀ p e s m below meth c ls, p.tables.exec = Jvm.exec → c.code = cc → c.maxLocals = ls.size → s.vm.findClass y.cls = some m.cls → (∀ w ∈ lw_g, w.before as.toArray s = true) → jOu E base X s s.heap → base ≤ s.heap.size → meth.locks = false → meth.sig.returnType = ret → lv_has ls n (lv_args 0 as) → 
      W p l e ({ frames := fr, cells := 0, slots := 0, locals := lo } : Room) s m as.toArray below meth c s.heap [] 0 0 (MQ below (fun _ st oc t => oc = .returned o ∧ va_F (fun _ => False) st t) as.toArray s 0 0 (fun _ => False)) (F0 m 0 ls [])) : jPs l E base X y cc n ret fr lo as o := by
  refine Met.ofW (cc := cc) (maxL := n) (ret := ret) hy rfl ?_
  intro p e s m args below meth c s₁ B hml hv
  obtain ⟨rfl, hO, hbs⟩ := hv
  have hts := atoms_spec (ws := .code y cc n ret :: lw_g) B.pre
  have hl := lv_entry as (n := n) hn
  rw [lg_entry_eq]
  exact h p e s m below meth c _ B.exec B.bytes (by rw [hml, hl.1]) (findClass_of_methodNamed B.named) (fun w hw => hts w (List.mem_cons_of_mem _ hw)) hO hbs B.notSynchronized B.returns hl
theorem jfin {s t : State} (h : t.heap = s.heap) : va_F (fun _ => False) s t := ⟨by rw [h]; exact Nat.le_refl _, fun _ _ _ => by rw [h]⟩
theorem jStB : jSt.all (fun q => decide (0 < q.2.2.length) && decide (q.2.2.length < 1000) && q.2.2.toList.all (fun c => decide (c.toNat < 128))) = true := by decide +kernel
theorem jSt_ok {i : Nat} {q : Nat × Nat × String} (h : jSt[i]? = some q) : 0 < q.2.2.length ∧ q.2.2.length < 1000 ∧ ∀ c ∈ q.2.2.toList, c.toNat < 128 := by
  have h1 := List.all_eq_true.mp jStB q (List.mem_of_getElem? h)
  simp only [Bool.and_eq_true, decide_eq_true_eq, List.all_eq_true] at h1
  exact ⟨h1.1.1, h1.1.2, h1.2⟩
section JC
variable {l : Launch} {E : Nat → Nat} {base : Nat} {X : jX}
set_option maxHeartbeats 4000000 in
theorem jc_cod {i : Nat} {q : Nat × Nat × String} (hi : jSt[i]? = some q) : jPs l E base X ys_cod prog_22_method_152_code 1 (some .byte) 0 0 [.ref (E i)] (some (.int 0)) := by
  refine jPs.of (by decide) (Nat.le_of_ble_eq_true rfl) (fun p e s m below meth c ls hx hb hml hown hts hO hbs hlocks hret hl => ?_)
  obtain ⟨⟨hs, hcs, -⟩, -⟩ := hO.2.2.2.2.2.2.2.2
  obtain ⟨g1, g2, g3, g4⟩ := hs i q hi
  have hl : lv_has ls 1 [(0, .ref (E i))] := hl
  refine va_gets hx hb hcs va_S.rf hown (hts _ (jj 56 rfl rfl)) (fun _ h => h) dj_cod_0 ?_
  refine lv_if_eq hx hb dj_cod_3 (tgt := 13) (by decide) (fun h => absurd h (by decide)) (fun _ => ?_)
  refine lv_aload_n hx hb dj_cod_6 rfl (lv_at hl 0 rfl) ?_
  refine vk_getf hx hb g2 va_S.rf hown (hts _ (jj 58 rfl rfl)) (fun _ h => h) dj_cod_7 ?_
  refine lv_goto hx hb dj_cod_10 (tgt := 14) (by decide) ?_
  exact W.zret hx hb hret (by decide +kernel) (fun t ht _ => ⟨rfl, jfin ht⟩) (by simp) dj_cod_14
set_option maxHeartbeats 4000000 in
theorem jc_lat {i : Nat} {q : Nat × Nat × String} (hi : jSt[i]? = some q) : jPs l E base X ys_lat prog_22_method_154_code 1 (some .boolean) 0 0 [.ref (E i)] (some (.int 1)) := by
  refine jPs.of (by decide) (Nat.le_of_ble_eq_true rfl) (fun p e s m below meth c ls hx hb hml hown hts hO hbs hlocks hret hl => ?_)
  obtain ⟨⟨hs, hcs, -⟩, -⟩ := hO.2.2.2.2.2.2.2.2
  obtain ⟨g1, g2, g3, g4⟩ := hs i q hi
  have hl : lv_has ls 1 [(0, .ref (E i))] := hl
  refine va_gets hx hb hcs va_S.rf hown (hts _ (jj 56 rfl rfl)) (fun _ h => h) dj_lat_0 ?_
  refine lv_if_eq hx hb dj_lat_3 (tgt := 17) (by decide) (fun h => absurd h (by decide)) (fun _ => ?_)
  refine lv_aload_n hx hb dj_lat_6 rfl (lv_at hl 0 rfl) ?_
  refine vk_getf hx hb g2 va_S.rf hown (hts _ (jj 58 rfl rfl)) (fun _ h => h) dj_lat_7 ?_
  refine lv_if_ne hx hb dj_lat_10 (tgt := 17) (by decide) (fun h => absurd rfl h) (fun _ => ?_)
  refine lv_iconst (v := 1) hx hb dj_lat_13 (by decide) ?_
  refine lv_goto hx hb dj_lat_14 (tgt := 18) (by decide) ?_
  exact W.zret hx hb hret (by decide +kernel) (fun t ht _ => ⟨rfl, jfin ht⟩) (by simp) dj_lat_18
set_option maxHeartbeats 4000000 in
theorem jc_len {i : Nat} {q : Nat × Nat × String} (hi : jSt[i]? = some q) : jPs l E base X ys_len prog_22_method_54_code 1 (some .int) 1 20 [.ref (E i)] (some (.int (Int32.ofNat q.2.2.length))) := by
  refine jPs.of (by decide) (Nat.le_of_ble_eq_true rfl) (fun p e s m below meth c ls hx hb hml hown hts hO hbs hlocks hret hl => ?_)
  obtain ⟨⟨hs, hcs, -⟩, -⟩ := hO.2.2.2.2.2.2.2.2
  obtain ⟨g1, g2, g3, g4⟩ := hs i q hi
  have hl : lv_has ls 1 [(0, .ref (E i))] := hl
  refine lv_aload_n hx hb dj_len_0 rfl (lv_at hl 0 rfl) ?_
  refine vk_getf hx hb g3 va_S.rf hown (hts _ (jj 59 rfl rfl)) (fun _ h => h) dj_len_1 ?_
  refine va_tlen hx hb g4 va_S.rf rfl dj_len_4 ?_
  refine lv_aload_n hx hb dj_len_5 rfl (lv_at hl 0 rfl) ?_
  refine jq_virtual hx hb hml hown hts hO hbs va_S.rf (Nat.le_refl _) (Nat.le_refl _) (Nat.le_refl _) hi (jc_cod hi) (jj 3 rfl rfl) (jj 38 rfl rfl) (jj 4 rfl rfl) (jj 5 rfl rfl) (jj 34 rfl rfl) (na := 0) (by decide +kernel) rfl (by decide) rfl (by simp [Value.category]) dj_len_6 ?_
  refine lv_ishr hx hb dj_len_9 ?_
  refine lv_topi (fun z hz => ?_)
  have : z = Int32.ofNat q.2.2.length := by rw [hz]; simp
  subst this
  exact W.iret hx hb hret (fun t ht _ => ⟨rfl, jfin ht⟩) (by simp) dj_len_10
theorem j_lt {j : Int32} {n : Nat} (h0 : ¬ j < 0) (h1 : j.toNatClampNeg < n) (h2 : n < 1000) : j < Int32.ofNat n := by
  have h3 : (0 : Int) ≤ j.toInt := by
    have := Int32.not_lt.mp h0
    simpa using Int32.le_iff_toInt_le.mp this
  have h4 : j.toInt = (j.toNatClampNeg : Int) := by
    show j.toInt = ((j.toInt.toNat : Nat) : Int)
    omega
  rw [Int32.lt_iff_toInt_lt, h4, Int32.toInt_ofNat_of_lt (by omega)]
  omega
set_option maxHeartbeats 4000000 in
theorem jc_pre {j k : Int32} {v : Value} (hv : v = .null ∨ ∃ t, v = .ref t) (h0 : ¬ j < 0) (h1 : j < k) : jPs l E base X ys_pre prog_30_method_11_code 3 (some .int) 0 0 [.int j, .int k, v] (some (.int j)) := by
  refine jPs.of (by decide) (by rcases hv with rfl | ⟨t, rfl⟩ <;> exact Nat.le_of_ble_eq_true rfl) (fun p e s m below meth c ls hx hb hml hown hts hO hbs hlocks hret hl => ?_)
  have hl : lv_has ls 3 [(0, .int j), (1, .int k), (2, v)] := hl
  refine lv_iload_n hx hb dj_pre_0 rfl (lv_at hl 0 rfl) ?_
  refine lv_if_lt hx hb dj_pre_1 (tgt := 9) (by decide) (fun h => absurd h h0) (fun _ => ?_)
  refine lv_iload_n hx hb dj_pre_4 rfl (lv_at hl 0 rfl) ?_
  refine lv_iload_n hx hb dj_pre_5 rfl (lv_at hl 1 rfl) ?_
  refine lv_icmp_lt hx hb dj_pre_6 (tgt := 16) (by decide) (fun _ => ?_) (fun h => absurd h1 h)
  refine lv_iload_n hx hb dj_pre_16 rfl (lv_at hl 0 rfl) ?_
  exact W.iret hx hb hret (fun t ht _ => ⟨rfl, jfin ht⟩) (by simp) dj_pre_17
set_option maxHeartbeats 4000000 in
theorem jc_chk {j k : Int32} (h0 : ¬ j < 0) (h1 : j < k) : jPs l E base X ys_chk prog_22_method_155_code 2 none 1 22 [.int j, .int k] none := by
  refine jPs.of (by decide) (Nat.le_of_ble_eq_true rfl) (fun p e s m below meth c ls hx hb hml hown hts hO hbs hlocks hret hl => ?_)
  obtain ⟨⟨-, -, hsi⟩, -⟩ := hO.2.2.2.2.2.2.2.2
  have hl : lv_has ls 2 [(0, .int j), (1, .int k)] := hl
  refine lv_iload_n hx hb dj_chk_0 rfl (lv_at hl 0 rfl) ?_
  refine lv_iload_n hx hb dj_chk_1 rfl (lv_at hl 1 rfl) ?_
  have go : ∀ v : Value, (v = .null ∨ ∃ t, v = .ref t) → va_Z "jdk/internal/util/Preconditions" "SIOOBE_FORMATTER" "Ljava/util/function/BiFunction;" v (jAb base) s s.heap → W p l e ({ frames := 1, cells := 0, slots := 0, locals := 22 } : Room) s m [Value.int j, .int k].toArray below meth c s.heap [] 0 0 (MQ below (fun _ st oc t => oc = .returned none ∧ va_F (fun _ => False) st t) [Value.int j, .int k].toArray s 0 0 (fun _ => False)) (F0 m (0 + 1 + 1) ls [.int k, .int j]) := by
    intro v hv hz
    refine va_gets hx hb hz va_S.rf hown (hts _ (jj 57 rfl rfl)) (fun _ h => h) dj_chk_2 ?_
    refine jq_static hx hb hml hown hts hO hbs va_S.rf (Nat.le_refl _) (Nat.le_refl _) (Nat.le_refl _) (jc_pre hv h0 h1) (jj 16 rfl rfl) (jj 41 rfl rfl) (jj 17 rfl rfl) (jj 36 rfl rfl) (na := 3) (by decide +kernel) rfl (by decide) (rest := []) rfl (by simp) dj_chk_5 ?_
    refine lv_pop hx hb dj_chk_8 rfl ?_
    exact W.vret hx hb hret (fun t ht _ => ⟨rfl, jfin ht⟩) (by simp) dj_chk_9
  rcases hsi with hsi | ⟨t, hsi⟩
  · exact go _ (Or.inl rfl) hsi
  · exact go _ (Or.inr ⟨t, rfl⟩) hsi
theorem j_byte {q : Nat × Nat × String} (hq : ∀ c ∈ q.2.2.toList, c.toNat < 128) (j : Nat) : (q.2.2.toList.getD j 'A').toNat < 128 := by
  rw [List.getD_eq_getElem?_getD]
  cases h : q.2.2.toList[j]? with
  | none => decide
  | some c => exact hq c (List.mem_of_getElem? h)
theorem j_and {k : Nat} (h : k < 128) : Int32.ofNat k &&& 255 = Int32.ofNat k ∧ ((Int32.ofNat k).toUInt32 % 65536).toInt32 = Int32.ofNat k ∧ narrow .char (.int (Int32.ofNat k)) = .int (Int32.ofNat k) ∧ (Int32.ofNat k).toInt8.toInt32 = Int32.ofNat k := by
  have : ∀ k : Fin 128, Int32.ofNat k.1 &&& 255 = Int32.ofNat k.1 ∧ ((Int32.ofNat k.1).toUInt32 % 65536).toInt32 = Int32.ofNat k.1 ∧ narrow .char (.int (Int32.ofNat k.1)) = .int (Int32.ofNat k.1) ∧ (Int32.ofNat k.1).toInt8.toInt32 = Int32.ofNat k.1 := by decide +kernel
  exact this ⟨k, h⟩
set_option maxHeartbeats 4000000 in
theorem jc_lch {i : Nat} {q : Nat × Nat × String} (hi : jSt[i]? = some q) {j : Int32} (hj : jIn j q.2.2.length = true) : jPs l E base X ys_lch prog_23_method_2_code 2 (some .char) 2 43 [.ref (E (31 + i)), .int j] (some (jByt q j.toNatClampNeg)) := by
  refine jPs.of (by decide) (Nat.le_of_ble_eq_true rfl) (fun p e s m below meth c ls hx hb hml hown hts hO hbs hlocks hret hl => ?_)
  obtain ⟨⟨hs, -⟩, -⟩ := hO.2.2.2.2.2.2.2.2
  obtain ⟨g1, g2, g3, g4⟩ := hs i q hi
  have hin := jIn_in hj
  have h0 : ¬ j < 0 := fun h => hin (Or.inl h)
  obtain ⟨hq0, hq1, hq2⟩ := jSt_ok hi
  have h1 : j < Int32.ofNat q.2.2.length := j_lt h0 (Nat.not_le.mp fun h => hin (Or.inr h)) hq1
  have hl : lv_has ls 2 [(0, .ref (E (31 + i))), (1, .int j)] := hl
  refine lv_iload_n hx hb dj_lch_0 rfl (lv_at hl 1 rfl) ?_
  refine lv_aload_n hx hb dj_lch_1 rfl (lv_at hl 0 rfl) ?_
  refine va_tlen hx hb g4 va_S.rf rfl dj_lch_2 ?_
  refine jq_static hx hb hml hown hts hO hbs va_S.rf (Nat.le_refl _) (Nat.le_refl _) (Nat.le_refl _) (jc_chk h0 h1) (jj 14 rfl rfl) (jj 45 rfl rfl) (jj 15 rfl rfl) (jj 34 rfl rfl) (na := 2) (by decide +kernel) rfl (by decide) (rest := []) rfl (by simp) dj_lch_3 ?_
  refine lv_aload_n hx hb dj_lch_6 rfl (lv_at hl 0 rfl) ?_
  refine lv_iload_n hx hb dj_lch_7 rfl (lv_at hl 1 rfl) ?_
  refine va_tb hx hb g4 va_S.rf hin rfl dj_lch_8 ?_
  obtain ⟨b1, b2, b3, b4⟩ := j_and (j_byte hq2 j.toNatClampNeg)
  refine lv_sipush (v := 255) hx hb dj_lch_9 (by decide) ?_
  refine lv_iand hx hb dj_lch_12 ?_
  rw [b1]
  refine lv_i2c hx hb dj_lch_13 b2 ?_
  exact W.zret hx hb hret b3 (fun t ht _ => ⟨rfl, jfin ht⟩) (by simp) dj_lch_14
set_option maxHeartbeats 4000000 in
theorem jc_cha {i : Nat} {q : Nat × Nat × String} (hi : jSt[i]? = some q) {j : Int32} (hj : jIn j q.2.2.length = true) : jPs l E base X ys_cha prog_22_method_56_code 2 (some .char) 3 64 [.ref (E i), .int j] (some (jByt q j.toNatClampNeg)) := by
  refine jPs.of (by decide) (Nat.le_of_ble_eq_true rfl) (fun p e s m below meth c ls hx hb hml hown hts hO hbs hlocks hret hl => ?_)
  obtain ⟨⟨hs, -⟩, -⟩ := hO.2.2.2.2.2.2.2.2
  obtain ⟨g1, g2, g3, g4⟩ := hs i q hi
  obtain ⟨hq0, hq1, hq2⟩ := jSt_ok hi
  have hl : lv_has ls 2 [(0, .ref (E i)), (1, .int j)] := hl
  refine lv_aload_n hx hb dj_cha_0 rfl (lv_at hl 0 rfl) ?_
  refine jq_virtual hx hb hml hown hts hO hbs va_S.rf (Nat.le_refl _) (Nat.le_refl _) (Nat.le_refl _) hi (jc_lat hi) (jj 6 rfl rfl) (jj 39 rfl rfl) (jj 7 rfl rfl) (jj 8 rfl rfl) (jj 34 rfl rfl) (na := 0) (by decide +kernel) rfl (by decide) (rest := []) rfl (by simp) dj_cha_1 ?_
  refine lv_if_eq hx hb dj_cha_4 (tgt := 16) (by decide) (fun h => absurd h (by decide)) (fun _ => ?_)
  refine lv_aload_n hx hb dj_cha_7 rfl (lv_at hl 0 rfl) ?_
  refine vk_getf hx hb g3 va_S.rf hown (hts _ (jj 59 rfl rfl)) (fun _ h => h) dj_cha_8 ?_
  refine lv_iload_n hx hb dj_cha_11 rfl (lv_at hl 1 rfl) ?_
  refine jq_static hx hb hml hown hts hO hbs va_S.rf (Nat.le_refl _) (Nat.le_refl _) (Nat.le_refl _) (jc_lch hi hj) (jj 12 rfl rfl) (jj 40 rfl rfl) (jj 13 rfl rfl) (jj 35 rfl rfl) (na := 2) (by decide +kernel) rfl (by decide) (rest := []) rfl (by simp) dj_cha_12 ?_
  exact W.zret hx hb hret (j_and (j_byte hq2 j.toNatClampNeg)).2.2.1 (fun t ht _ => ⟨rfl, jfin ht⟩) (by simp) dj_cha_15
set_option maxHeartbeats 4000000 in
theorem jc_can {j : Int32} (h0 : 0 ≤ j) (h1 : j < 256) : jPs l E base X ys_can prog_23_method_4_code 1 (some .boolean) 0 0 [.int j] (some (.int 1)) := by
  refine jPs.of (by decide) (Nat.le_of_ble_eq_true rfl) (fun p e s m below meth c ls hx hb hml hown hts hO hbs hlocks hret hl => ?_)
  have hl : lv_has ls 1 [(0, .int j)] := hl
  have e0 : ¬ j < 0 := Int32.not_lt.mpr h0
  have e1 : ¬ j > 255 := by
    rw [gt_iff_lt, Int32.lt_iff_toInt_lt]
    rw [Int32.lt_iff_toInt_lt] at h1
    have a1 : (255 : Int32).toInt = 255 := by decide
    have a2 : (256 : Int32).toInt = 256 := by decide
    omega
  refine lv_iload_n hx hb dj_can_0 rfl (lv_at hl 0 rfl) ?_
  refine lv_if_lt hx hb dj_can_1 (tgt := 15) (by decide) (fun h => absurd h e0) (fun _ => ?_)
  refine lv_iload_n hx hb dj_can_4 rfl (lv_at hl 0 rfl) ?_
  refine lv_sipush (v := 255) hx hb dj_can_5 (by decide) ?_
  refine lv_icmp_gt hx hb dj_can_8 (tgt := 15) (by decide) (fun h => absurd h e1) (fun _ => ?_)
  refine lv_iconst (v := 1) hx hb dj_can_11 (by decide) ?_
  refine lv_goto hx hb dj_can_12 (tgt := 16) (by decide) ?_
  exact W.zret hx hb hret (by decide +kernel) (fun t ht _ => ⟨rfl, jfin ht⟩) (by simp) dj_can_16
/-- a byte's match -/
theorem j_match {j : Int32} (h0 : 0 ≤ j) (h1 : j < 256) {k : Nat} (hk : k < 128) : (Int32.ofNat k = j.toInt8.toInt32) ↔ Int32.ofNat k = j := by
  have a1 : (0 : Int32).toInt = 0 := by decide
  have a2 : (256 : Int32).toInt = 256 := by decide
  rw [Int32.le_iff_toInt_le] at h0
  rw [Int32.lt_iff_toInt_lt] at h1
  have hj : j = Int32.ofNat j.toInt.toNat := by
    apply Int32.toInt_inj.mp
    rw [Int32.toInt_ofNat_of_lt (by omega)]
    omega
  have hr : j.toInt.toNat < 256 := by omega
  rw [hj]
  generalize j.toInt.toNat = r at hr
  have : ∀ k : Fin 128, ∀ r : Fin 256, (Int32.ofNat k.1 = (Int32.ofNat r.1).toInt8.toInt32) ↔ Int32.ofNat k.1 = Int32.ofNat r.1 := by decide +kernel
  exact this ⟨k, hk⟩ ⟨r, hr⟩
theorem j_ofs {k n : Nat} (h : k ≤ n) (hn : n < 1000) : (Int32.ofNat k ≥ Int32.ofNat n) ↔ k = n := by
  rw [ge_iff_le, Int32.le_iff_toInt_le, Int32.toInt_ofNat_of_lt (by omega), Int32.toInt_ofNat_of_lt (by omega)]
  omega
theorem j_nat {k : Nat} (h : k < 1000) : ¬ Int32.ofNat k < 0 ∧ (Int32.ofNat k).toNatClampNeg = k ∧ Int32.ofNat k + Int32.ofInt 1 = Int32.ofNat (k + 1) := by
  have : ∀ k : Fin 1000, ¬ Int32.ofNat k.1 < 0 ∧ (Int32.ofNat k.1).toNatClampNeg = k.1 ∧ Int32.ofNat k.1 + Int32.ofInt 1 = Int32.ofNat (k.1 + 1) := by decide +kernel
  exact this ⟨k, h⟩
set_option maxHeartbeats 4000000 in
theorem jc_ixc {i : Nat} {q : Nat × Nat × String} (hi : jSt[i]? = some q) {j : Int32} (h0 : 0 ≤ j) (h1 : j < 256) : jPs l E base X ys_ixc prog_23_method_23_code 6 (some .int) 0 0 [.ref (E (31 + i)), .int j, .int 0, .int (Int32.ofNat q.2.2.length)] (some (.int (jIdx j q.2.2.toList 0))) := by
  refine jPs.of (by decide) (Nat.le_of_ble_eq_true rfl) (fun p e s m below meth c ls hx hb hml hown hts hO hbs hlocks hret hl => ?_)
  obtain ⟨⟨hs, -⟩, -⟩ := hO.2.2.2.2.2.2.2.2
  obtain ⟨g1, g2, g3, g4⟩ := hs i q hi
  obtain ⟨hq0, hq1, hq2⟩ := jSt_ok hi
  have hlen : q.2.2.toList.length = q.2.2.length := String.length_toList
  have hl : lv_has ls 6 [(0, .ref (E (31 + i))), (1, .int j), (2, .int 0), (3, .int (Int32.ofNat q.2.2.length))] := hl
  refine lv_iload_n hx hb dj_ixc_0 rfl (lv_at hl 1 rfl) ?_
  refine lv_i2b hx hb dj_ixc_1 rfl ?_
  refine lv_istore hx hb dj_ixc_2 hl (by decide) rfl (fun ls hl => ?_)
  refine lv_iload_n hx hb dj_ixc_4 rfl (lv_at hl 3 rfl) ?_
  refine lv_istore hx hb dj_ixc_5 hl (by decide) rfl (fun ls hl => ?_)
  have loop : ∀ (n k : Nat) (ls : Array Slot), k + n = q.2.2.length → jIdx j (q.2.2.toList.drop k) k = jIdx j q.2.2.toList 0 → lv_has ls 6 [(5, .int (Int32.ofNat k)), (4, .int j.toInt8.toInt32), (0, .ref (E (31 + i))), (1, .int j), (2, .int 0), (3, .int (Int32.ofNat q.2.2.length))] →
      W p l e ({ frames := 0, cells := 0, slots := 0, locals := 0 } : Room) s m [Value.ref (E (31 + i)), .int j, .int 0, .int (Int32.ofNat q.2.2.length)].toArray below meth c s.heap [] 0 0 (MQ below (fun _ st oc t => oc = .returned (some (.int (jIdx j q.2.2.toList 0))) ∧ va_F (fun _ => False) st t) [Value.ref (E (31 + i)), .int j, .int 0, .int (Int32.ofNat q.2.2.length)].toArray s 0 0 (fun _ => False)) (F0 m 7 ls []) := by
    intro n
    induction n with
    | zero =>
      intro k ls hk hr hl
      have hkn : k = q.2.2.length := by omega
      refine lv_iload hx hb dj_ixc_7 (lv_at hl 0 rfl) ?_
      refine lv_iload_n hx hb dj_ixc_9 rfl (lv_at hl 5 rfl) ?_
      refine lv_icmp_ge hx hb dj_ixc_10 (tgt := 31) (by decide) (fun _ => ?_) (fun h => absurd ((j_ofs (by omega) hq1).mpr hkn) h)
      rw [List.drop_eq_nil_of_le (by omega)] at hr
      refine lv_iconst (v := -1) hx hb dj_ixc_31 (by decide) ?_
      exact W.iret hx hb hret (fun t ht _ => ⟨by rw [← hr]; rfl, jfin ht⟩) (by simp) dj_ixc_32
    | succ n ih =>
      intro k ls hk hr hl
      obtain ⟨f1, f2, f3⟩ := j_nat (k := k) (by omega)
      refine lv_iload hx hb dj_ixc_7 (lv_at hl 0 rfl) ?_
      refine lv_iload_n hx hb dj_ixc_9 rfl (lv_at hl 5 rfl) ?_
      refine lv_icmp_ge hx hb dj_ixc_10 (tgt := 31) (by decide) (fun h => absurd ((j_ofs (by omega) hq1).mp h) (by omega)) (fun _ => ?_)
      refine lv_aload_n hx hb dj_ixc_13 rfl (lv_at hl 2 rfl) ?_
      refine lv_iload hx hb dj_ixc_14 (lv_at hl 0 rfl) ?_
      refine va_tb hx hb g4 va_S.rf (i := Int32.ofNat k) (fun h => by rw [f2] at h; rcases h with h | h; exact f1 h; omega) rfl dj_ixc_16 ?_
      rw [f2]
      have hkl : k < q.2.2.toList.length := by omega
      have hgd : q.2.2.toList.getD k 'A' = q.2.2.toList[k] := by rw [List.getD_eq_getElem?_getD, List.getElem?_eq_getElem hkl]; rfl
      have hm := j_match h0 h1 (j_byte hq2 k)
      rw [List.drop_eq_getElem_cons hkl] at hr
      refine lv_iload hx hb dj_ixc_17 (lv_at hl 1 rfl) ?_
      refine lv_icmp_ne hx hb dj_ixc_19 (tgt := 25) (by decide) (fun h => ?_) (fun h => ?_)
      · refine lv_iinc (k := 0) hx hb dj_ixc_25 hl rfl f3 (by decide) rfl (fun ls hl => ?_)
        refine lv_goto hx hb dj_ixc_28 (tgt := 7) (by decide) ?_
        refine ih (k + 1) ls (by omega) ?_ hl
        rw [← hr]
        unfold jIdx
        rw [← hgd, if_neg (fun z => h (hm.mpr z))]
        cases q.2.2.toList.drop (k + 1) <;> rfl
      · refine lv_iload hx hb dj_ixc_22 (lv_at hl 0 rfl) ?_
        refine W.iret hx hb hret (fun t ht _ => ⟨?_, jfin ht⟩) (by simp) dj_ixc_24
        rw [← hr, jIdx, ← hgd, if_pos (hm.mp h)]
  exact loop q.2.2.length 0 ls (by omega) rfl hl
set_option maxHeartbeats 4000000 in
theorem jc_lix {i : Nat} {q : Nat × Nat × String} (hi : jSt[i]? = some q) {j : Int32} (h0 : 0 ≤ j) (h1 : j < 256) : jPs l E base X ys_lix prog_23_method_22_code 4 (some .int) 1 25 [.ref (E (31 + i)), .int j, .int 0, .int (Int32.ofNat q.2.2.length)] (some (.int (jIdx j q.2.2.toList 0))) := by
  refine jPs.of (by decide) (Nat.le_of_ble_eq_true rfl) (fun p e s m below meth c ls hx hb hml hown hts hO hbs hlocks hret hl => ?_)
  obtain ⟨⟨hs, -⟩, -⟩ := hO.2.2.2.2.2.2.2.2
  obtain ⟨g1, g2, g3, g4⟩ := hs i q hi
  obtain ⟨hq0, hq1, hq2⟩ := jSt_ok hi
  have hml4 : c.maxLocals = 4 := by rw [hml, hl.1]
  have hl : lv_has ls 4 [(0, .ref (E (31 + i))), (1, .int j), (2, .int 0), (3, .int (Int32.ofNat q.2.2.length))] := hl
  refine lv_iload_n hx hb dj_lix_0 rfl (lv_at hl 1 rfl) ?_
  refine jq_static hx hb hml hown hts hO hbs va_S.rf (Nat.le_refl _) (Nat.le_refl _) (Nat.le_refl _) (jc_can h0 h1) (jj 26 rfl rfl) (jj 46 rfl rfl) (jj 27 rfl rfl) (jj 35 rfl rfl) (na := 1) (by decide +kernel) rfl (by decide) (rest := []) rfl (by simp) dj_lix_1 ?_
  refine lv_if_ne hx hb dj_lix_4 (tgt := 9) (by decide) (fun _ => ?_) (fun h => absurd h (by decide))
  refine lv_iload_n hx hb dj_lix_9 rfl (lv_at hl 2 rfl) ?_
  refine lv_iconst (v := 0) hx hb dj_lix_10 (by decide) ?_
  refine va_mmax hx hb hml hown (hts _ (jj 47 rfl rfl)) (hts _ (jj 31 rfl rfl)) (hts _ (jj 37 rfl rfl)) (hts _ (jj 30 rfl rfl)) (by decide) (by decide) (Nat.le_refl _) (Nat.le_refl _) dj_lix_11 ?_
  refine lv_istore_n hx hb dj_lix_14 rfl hl (by decide) rfl (fun ls hl => ?_)
  have hml : c.maxLocals = ls.size := by rw [hml4, hl.1]
  refine lv_iload_n hx hb dj_lix_15 rfl (lv_at hl 3 rfl) ?_
  refine lv_aload_n hx hb dj_lix_16 rfl (lv_at hl 1 rfl) ?_
  refine va_tlen hx hb g4 va_S.rf rfl dj_lix_17 ?_
  refine va_mmin hx hb hml hown (hts _ (jj 48 rfl rfl)) (hts _ (jj 33 rfl rfl)) (hts _ (jj 37 rfl rfl)) (hts _ (jj 32 rfl rfl)) (by decide) (by decide) (Nat.le_refl _) (Nat.le_refl _) dj_lix_18 ?_
  refine lv_topi (fun z hz => ?_)
  have hz : z = Int32.ofNat q.2.2.length := by rw [hz]; simp
  subst hz
  refine lv_istore_n hx hb dj_lix_21 rfl hl (by decide) rfl (fun ls hl => ?_)
  have hml : c.maxLocals = ls.size := by rw [hml4, hl.1]
  have hl : lv_has ls 4 [(3, .int (Int32.ofNat q.2.2.length)), (2, .int 0), (0, .ref (E (31 + i))), (1, .int j)] := hl
  refine lv_iload_n hx hb dj_lix_22 rfl (lv_at hl 1 rfl) ?_
  refine lv_iload_n hx hb dj_lix_23 rfl (lv_at hl 0 rfl) ?_
  refine lv_icmp_lt hx hb dj_lix_24 (tgt := 29) (by decide) (fun _ => ?_) (fun h => absurd (j_lt (j := 0) (by decide) (show (0 : Int32).toNatClampNeg < _ from hq0) hq1) h)
  refine lv_aload_n hx hb dj_lix_29 rfl (lv_at hl 2 rfl) ?_
  refine lv_iload_n hx hb dj_lix_30 rfl (lv_at hl 3 rfl) ?_
  refine lv_iload_n hx hb dj_lix_31 rfl (lv_at hl 1 rfl) ?_
  refine lv_iload_n hx hb dj_lix_32 rfl (lv_at hl 0 rfl) ?_
  refine jq_static hx hb hml hown hts hO hbs va_S.rf (Nat.le_refl _) (Nat.le_refl _) (Nat.le_refl _) (jc_ixc hi h0 h1) (jj 28 rfl rfl) (jj 49 rfl rfl) (jj 29 rfl rfl) (jj 35 rfl rfl) (na := 4) (by decide +kernel) rfl (by decide) (rest := []) rfl (by simp) dj_lix_33 ?_
  exact W.iret hx hb hret (fun t ht _ => ⟨rfl, jfin ht⟩) (by simp) dj_lix_36
set_option maxHeartbeats 4000000 in
theorem jc_ix2 {i : Nat} {q : Nat × Nat × String} (hi : jSt[i]? = some q) {j : Int32} (h0 : 0 ≤ j) (h1 : j < 256) : jPs l E base X ys_ix2 prog_22_method_80_code 3 (some .int) 2 48 [.ref (E i), .int j, .int 0] (some (.int (jIdx j q.2.2.toList 0))) := by
  refine jPs.of (by decide) (Nat.le_of_ble_eq_true rfl) (fun p e s m below meth c ls hx hb hml hown hts hO hbs hlocks hret hl => ?_)
  obtain ⟨⟨hs, -⟩, -⟩ := hO.2.2.2.2.2.2.2.2
  obtain ⟨g1, g2, g3, g4⟩ := hs i q hi
  have hl : lv_has ls 3 [(0, .ref (E i)), (1, .int j), (2, .int 0)] := hl
  refine lv_aload_n hx hb dj_ix2_0 rfl (lv_at hl 0 rfl) ?_
  refine jq_virtual hx hb hml hown hts hO hbs va_S.rf (Nat.le_refl _) (Nat.le_refl _) (Nat.le_refl _) hi (jc_lat hi) (jj 6 rfl rfl) (jj 39 rfl rfl) (jj 7 rfl rfl) (jj 8 rfl rfl) (jj 34 rfl rfl) (na := 0) (by decide +kernel) rfl (by decide) (rest := []) rfl (by simp) dj_ix2_1 ?_
  refine lv_if_eq hx hb dj_ix2_4 (tgt := 23) (by decide) (fun h => absurd h (by decide)) (fun _ => ?_)
  refine lv_aload_n hx hb dj_ix2_7 rfl (lv_at hl 0 rfl) ?_
  refine vk_getf hx hb g3 va_S.rf hown (hts _ (jj 59 rfl rfl)) (fun _ h => h) dj_ix2_8 ?_
  refine lv_iload_n hx hb dj_ix2_11 rfl (lv_at hl 1 rfl) ?_
  refine lv_iload_n hx hb dj_ix2_12 rfl (lv_at hl 2 rfl) ?_
  refine lv_aload_n hx hb dj_ix2_13 rfl (lv_at hl 0 rfl) ?_
  refine jq_virtual hx hb hml hown hts hO hbs va_S.rf (Nat.le_refl _) (Nat.le_refl _) (Nat.le_refl _) hi (jc_len hi) (jj 0 rfl rfl) (jj 44 rfl rfl) (jj 1 rfl rfl) (jj 2 rfl rfl) (jj 34 rfl rfl) (na := 0) (by decide +kernel) rfl (by decide) (rest := [.int 0, .int j, .ref (E (31 + i))]) rfl (by simp [Value.category]) dj_ix2_14 ?_
  refine jq_static hx hb hml hown hts hO hbs va_S.rf (Nat.le_refl _) (Nat.le_refl _) (Nat.le_refl _) (jc_lix hi h0 h1) (jj 24 rfl rfl) (jj 43 rfl rfl) (jj 25 rfl rfl) (jj 35 rfl rfl) (na := 4) (by decide +kernel) rfl (by decide) (rest := []) rfl (by simp) dj_ix2_17 ?_
  refine lv_goto hx hb dj_ix2_20 (tgt := 36) (by decide) ?_
  exact W.iret hx hb hret (fun t ht _ => ⟨rfl, jfin ht⟩) (by simp) dj_ix2_36
set_option maxHeartbeats 4000000 in
theorem jc_ix1 {i : Nat} {q : Nat × Nat × String} (hi : jSt[i]? = some q) {j : Int32} (h0 : 0 ≤ j) (h1 : j < 256) : jPs l E base X ys_ix1 prog_22_method_79_code 2 (some .int) 3 70 [.ref (E i), .int j] (some (.int (jIdx j q.2.2.toList 0))) := by
  refine jPs.of (by decide) (Nat.le_of_ble_eq_true rfl) (fun p e s m below meth c ls hx hb hml hown hts hO hbs hlocks hret hl => ?_)
  have hl : lv_has ls 2 [(0, .ref (E i)), (1, .int j)] := hl
  refine lv_aload_n hx hb dj_ix1_0 rfl (lv_at hl 0 rfl) ?_
  refine lv_iload_n hx hb dj_ix1_1 rfl (lv_at hl 1 rfl) ?_
  refine lv_iconst (v := 0) hx hb dj_ix1_2 (by decide) ?_
  refine jq_virtual hx hb hml hown hts hO hbs va_S.rf (Nat.le_refl _) (Nat.le_refl _) (Nat.le_refl _) hi (jc_ix2 hi h0 h1) (jj 21 rfl rfl) (jj 42 rfl rfl) (jj 22 rfl rfl) (jj 23 rfl rfl) (jj 34 rfl rfl) (na := 2) (by decide +kernel) rfl (by decide) (rest := []) rfl (by simp) dj_ix1_3 ?_
  exact W.iret hx hb hret (fun t ht _ => ⟨rfl, jfin ht⟩) (by simp) dj_ix1_6
end JC
