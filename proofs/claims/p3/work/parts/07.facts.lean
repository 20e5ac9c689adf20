/-! the tables' words hold what J's tables say (by program: wip/tools/gen3.py) -/
def jTb : List (List Cond) := [k2_sels lw_privs, tables_1_1, tables_1_2, tables_1_3, tables_1_4, tables_1_5, tables_1_6, tables_1_7, tables_1_8, tables_1_9, tables_1_10, tables_1_11, tables_1_12, tables_1_13]
def jTp (ps : List (Nat × Nat)) : List Cond := ps.filterMap (fun q => (jTb.getD q.1 [])[q.2]?)
theorem jTb1 : ∀ w ∈ tables_1_1, w ∈ lw_tbl := fun w h => List.mem_append_right (k2_sels lw_privs) (List.mem_append_left _ h)
theorem jTb2 : ∀ w ∈ tables_1_2, w ∈ lw_tbl := fun w h => List.mem_append_right (k2_sels lw_privs) (List.mem_append_right _ (List.mem_append_left _ h))
theorem jTb3 : ∀ w ∈ tables_1_3, w ∈ lw_tbl := fun w h => List.mem_append_right (k2_sels lw_privs) (List.mem_append_right _ (List.mem_append_right _ (List.mem_append_left _ h)))
theorem jTb4 : ∀ w ∈ tables_1_4, w ∈ lw_tbl := fun w h => List.mem_append_right (k2_sels lw_privs) (List.mem_append_right _ (List.mem_append_right _ (List.mem_append_right _ (List.mem_append_left _ h))))
theorem jTb5 : ∀ w ∈ tables_1_5, w ∈ lw_tbl := fun w h => List.mem_append_right (k2_sels lw_privs) (List.mem_append_right _ (List.mem_append_right _ (List.mem_append_right _ (List.mem_append_right _ (List.mem_append_left _ h)))))
theorem jTb6 : ∀ w ∈ tables_1_6, w ∈ lw_tbl := fun w h => List.mem_append_right (k2_sels lw_privs) (List.mem_append_right _ (List.mem_append_right _ (List.mem_append_right _ (List.mem_append_right _ (List.mem_append_right _ (List.mem_append_left _ h))))))
theorem jTb7 : ∀ w ∈ tables_1_7, w ∈ lw_tbl := fun w h => List.mem_append_right (k2_sels lw_privs) (List.mem_append_right _ (List.mem_append_right _ (List.mem_append_right _ (List.mem_append_right _ (List.mem_append_right _ (List.mem_append_right _ (List.mem_append_left _ h)))))))
theorem jTb8 : ∀ w ∈ tables_1_8, w ∈ lw_tbl := fun w h => List.mem_append_right (k2_sels lw_privs) (List.mem_append_right _ (List.mem_append_right _ (List.mem_append_right _ (List.mem_append_right _ (List.mem_append_right _ (List.mem_append_right _ (List.mem_append_right _ (List.mem_append_left _ h))))))))
theorem jTb9 : ∀ w ∈ tables_1_9, w ∈ lw_tbl := fun w h => List.mem_append_right (k2_sels lw_privs) (List.mem_append_right _ (List.mem_append_right _ (List.mem_append_right _ (List.mem_append_right _ (List.mem_append_right _ (List.mem_append_right _ (List.mem_append_right _ (List.mem_append_right _ (List.mem_append_left _ h)))))))))
theorem jTb10 : ∀ w ∈ tables_1_10, w ∈ lw_tbl := fun w h => List.mem_append_right (k2_sels lw_privs) (List.mem_append_right _ (List.mem_append_right _ (List.mem_append_right _ (List.mem_append_right _ (List.mem_append_right _ (List.mem_append_right _ (List.mem_append_right _ (List.mem_append_right _ (List.mem_append_right _ (List.mem_append_left _ h))))))))))
theorem jTb11 : ∀ w ∈ tables_1_11, w ∈ lw_tbl := fun w h => List.mem_append_right (k2_sels lw_privs) (List.mem_append_right _ (List.mem_append_right _ (List.mem_append_right _ (List.mem_append_right _ (List.mem_append_right _ (List.mem_append_right _ (List.mem_append_right _ (List.mem_append_right _ (List.mem_append_right _ (List.mem_append_right _ (List.mem_append_left _ h)))))))))))
theorem jTb12 : ∀ w ∈ tables_1_12, w ∈ lw_tbl := fun w h => List.mem_append_right (k2_sels lw_privs) (List.mem_append_right _ (List.mem_append_right _ (List.mem_append_right _ (List.mem_append_right _ (List.mem_append_right _ (List.mem_append_right _ (List.mem_append_right _ (List.mem_append_right _ (List.mem_append_right _ (List.mem_append_right _ (List.mem_append_right _ (List.mem_append_left _ h))))))))))))
theorem jTb13 : ∀ w ∈ tables_1_13, w ∈ lw_tbl := fun w h => List.mem_append_right (k2_sels lw_privs) (List.mem_append_right _ (List.mem_append_right _ (List.mem_append_right _ (List.mem_append_right _ (List.mem_append_right _ (List.mem_append_right _ (List.mem_append_right _ (List.mem_append_right _ (List.mem_append_right _ (List.mem_append_right _ (List.mem_append_right _ (List.mem_append_right _ (h)))))))))))))
theorem jTb_ok : ∀ l ∈ jTb, ∀ w ∈ l, w ∈ lw_tbl := List.forall_mem_cons.mpr ⟨fun w h => List.mem_append_left tables_1 h, List.forall_mem_cons.mpr ⟨jTb1, List.forall_mem_cons.mpr ⟨jTb2, List.forall_mem_cons.mpr ⟨jTb3, List.forall_mem_cons.mpr ⟨jTb4, List.forall_mem_cons.mpr ⟨jTb5, List.forall_mem_cons.mpr ⟨jTb6, List.forall_mem_cons.mpr ⟨jTb7, List.forall_mem_cons.mpr ⟨jTb8, List.forall_mem_cons.mpr ⟨jTb9, List.forall_mem_cons.mpr ⟨jTb10, List.forall_mem_cons.mpr ⟨jTb11, List.forall_mem_cons.mpr ⟨jTb12, List.forall_mem_cons.mpr ⟨jTb13, fun _ h => absurd h List.not_mem_nil⟩⟩⟩⟩⟩⟩⟩⟩⟩⟩⟩⟩⟩⟩
theorem jMem {L : List Cond} (ps : List (Nat × Nat)) (h : L = jTp ps) : ∀ w ∈ L, w ∈ lw_tbl := fun w hw => by
  rw [h] at hw
  obtain ⟨q, -, hi⟩ := List.mem_filterMap.mp hw
  have hm := List.mem_of_getElem? hi
  by_cases ho : q.1 < jTb.length
  · rw [List.getD_eq_getElem?_getD, List.getElem?_eq_getElem ho] at hm
    exact jTb_ok _ (List.getElem_mem ho) w hm
  · rw [List.getD_eq_getElem?_getD, List.getElem?_eq_none (by omega)] at hm
    cases hm
def jF0 : String × String × String × Bool := ("", "", "", false)
def jT (c : Nat) : u_T := fun k => (jFs.getD c []).getD k jF0
def jN (c : Nat) : Nat := (jFs.getD c []).length
abbrev jnm (c : Nat) : String := jNm.getD c ""
/-- the classes whose objects the worlds hold -/
def jCs : List vw_C := (List.range 18).map (fun c => (jnm c, jT c, jN c))
set_option maxRecDepth 100000 in
theorem jU0 : u_ws (jnm 0) (jT 0) (jN 0) = jTp [(1, 45), (1, 47), (1, 49), (1, 51), (1, 53), (1, 55), (1, 57)] := by decide +kernel
set_option maxRecDepth 100000 in
theorem jY0 : ∀ k, k < jN 0 → parseFieldDescriptor (jT 0 k).2.2.1 = some ((jTys.getD 0 []).getD k .int) := by decide +kernel
set_option maxRecDepth 100000 in
theorem jV0 : ∀ a, a < jN 0 → ∀ b, b < jN 0 → a ≠ b → (jT 0 a).2.1 ≠ (jT 0 b).2.1 := by decide +kernel
set_option maxRecDepth 100000 in
theorem jU1 : u_ws (jnm 1) (jT 1) (jN 1) = jTp [(5, 116), (5, 118), (5, 120), (5, 122), (5, 124), (5, 126), (5, 128), (5, 130), (5, 132), (5, 134), (5, 136), (5, 138)] := by decide +kernel
set_option maxRecDepth 100000 in
theorem jY1 : ∀ k, k < jN 1 → parseFieldDescriptor (jT 1 k).2.2.1 = some ((jTys.getD 1 []).getD k .int) := by decide +kernel
set_option maxRecDepth 100000 in
theorem jV1 : ∀ a, a < jN 1 → ∀ b, b < jN 1 → a ≠ b → (jT 1 a).2.1 ≠ (jT 1 b).2.1 := by decide +kernel
set_option maxRecDepth 100000 in
theorem jU2 : u_ws (jnm 2) (jT 2) (jN 2) = jTp [(6, 130), (6, 132), (6, 134), (6, 136), (6, 138), (6, 140), (6, 142), (6, 144), (6, 146), (6, 148), (6, 150), (6, 152), (6, 154), (6, 156), (6, 158), (6, 160), (6, 162), (6, 164), (6, 166), (6, 168), (6, 170), (6, 172)] := by decide +kernel
set_option maxRecDepth 100000 in
theorem jY2 : ∀ k, k < jN 2 → parseFieldDescriptor (jT 2 k).2.2.1 = some ((jTys.getD 2 []).getD k .int) := by decide +kernel
set_option maxRecDepth 100000 in
theorem jV2 : ∀ a, a < jN 2 → ∀ b, b < jN 2 → a ≠ b → (jT 2 a).2.1 ≠ (jT 2 b).2.1 := by decide +kernel
set_option maxRecDepth 100000 in
theorem jU3 : u_ws (jnm 3) (jT 3) (jN 3) = jTp [(4, 184)] := by decide +kernel
set_option maxRecDepth 100000 in
theorem jY3 : ∀ k, k < jN 3 → parseFieldDescriptor (jT 3 k).2.2.1 = some ((jTys.getD 3 []).getD k .int) := by decide +kernel
set_option maxRecDepth 100000 in
theorem jV3 : ∀ a, a < jN 3 → ∀ b, b < jN 3 → a ≠ b → (jT 3 a).2.1 ≠ (jT 3 b).2.1 := by decide +kernel
set_option maxRecDepth 100000 in
theorem jU4 : u_ws (jnm 4) (jT 4) (jN 4) = jTp [(4, 160), (4, 162), (4, 164), (4, 166), (4, 168), (4, 170), (4, 172), (4, 174)] := by decide +kernel
set_option maxRecDepth 100000 in
theorem jY4 : ∀ k, k < jN 4 → parseFieldDescriptor (jT 4 k).2.2.1 = some ((jTys.getD 4 []).getD k .int) := by decide +kernel
set_option maxRecDepth 100000 in
theorem jV4 : ∀ a, a < jN 4 → ∀ b, b < jN 4 → a ≠ b → (jT 4 a).2.1 ≠ (jT 4 b).2.1 := by decide +kernel
set_option maxRecDepth 100000 in
theorem jU5 : u_ws (jnm 5) (jT 5) (jN 5) = jTp [(5, 167), (5, 169), (5, 171), (5, 173), (5, 175), (5, 177), (5, 179), (5, 181), (5, 183)] := by decide +kernel
set_option maxRecDepth 100000 in
theorem jY5 : ∀ k, k < jN 5 → parseFieldDescriptor (jT 5 k).2.2.1 = some ((jTys.getD 5 []).getD k .int) := by decide +kernel
set_option maxRecDepth 100000 in
theorem jV5 : ∀ a, a < jN 5 → ∀ b, b < jN 5 → a ≠ b → (jT 5 a).2.1 ≠ (jT 5 b).2.1 := by decide +kernel
set_option maxRecDepth 100000 in
theorem jU6 : u_ws (jnm 6) (jT 6) (jN 6) = jTp [(2, 209), (2, 211), (2, 213), (2, 215), (2, 217), (2, 219), (2, 221), (2, 223), (2, 225), (2, 227), (2, 229), (2, 231), (2, 233), (2, 235), (2, 237), (2, 239)] := by decide +kernel
set_option maxRecDepth 100000 in
theorem jY6 : ∀ k, k < jN 6 → parseFieldDescriptor (jT 6 k).2.2.1 = some ((jTys.getD 6 []).getD k .int) := by decide +kernel
set_option maxRecDepth 100000 in
theorem jV6 : ∀ a, a < jN 6 → ∀ b, b < jN 6 → a ≠ b → (jT 6 a).2.1 ≠ (jT 6 b).2.1 := by decide +kernel
set_option maxRecDepth 100000 in
theorem jU7 : u_ws (jnm 7) (jT 7) (jN 7) = jTp [(3, 198), (3, 200), (3, 202), (3, 204), (3, 206), (3, 208), (3, 210), (3, 212), (3, 214), (3, 216), (3, 218), (3, 220), (3, 222), (3, 224), (3, 226), (3, 228), (3, 230), (3, 232), (3, 234)] := by decide +kernel
set_option maxRecDepth 100000 in
theorem jY7 : ∀ k, k < jN 7 → parseFieldDescriptor (jT 7 k).2.2.1 = some ((jTys.getD 7 []).getD k .int) := by decide +kernel
set_option maxRecDepth 100000 in
theorem jV7 : ∀ a, a < jN 7 → ∀ b, b < jN 7 → a ≠ b → (jT 7 a).2.1 ≠ (jT 7 b).2.1 := by decide +kernel
set_option maxRecDepth 100000 in
theorem jU8 : u_ws (jnm 8) (jT 8) (jN 8) = jTp [(2, 142), (2, 144), (2, 146), (2, 148)] := by decide +kernel
set_option maxRecDepth 100000 in
theorem jY8 : ∀ k, k < jN 8 → parseFieldDescriptor (jT 8 k).2.2.1 = some ((jTys.getD 8 []).getD k .int) := by decide +kernel
set_option maxRecDepth 100000 in
theorem jV8 : ∀ a, a < jN 8 → ∀ b, b < jN 8 → a ≠ b → (jT 8 a).2.1 ≠ (jT 8 b).2.1 := by decide +kernel
set_option maxRecDepth 100000 in
theorem jU9 : u_ws (jnm 9) (jT 9) (jN 9) = jTp [(1, 112), (1, 114), (1, 116), (1, 118), (1, 120), (1, 122), (1, 124), (1, 126), (1, 128), (1, 130)] := by decide +kernel
set_option maxRecDepth 100000 in
theorem jY9 : ∀ k, k < jN 9 → parseFieldDescriptor (jT 9 k).2.2.1 = some ((jTys.getD 9 []).getD k .int) := by decide +kernel
set_option maxRecDepth 100000 in
theorem jV9 : ∀ a, a < jN 9 → ∀ b, b < jN 9 → a ≠ b → (jT 9 a).2.1 ≠ (jT 9 b).2.1 := by decide +kernel
set_option maxRecDepth 100000 in
theorem jU10 : u_ws (jnm 10) (jT 10) (jN 10) = jTp [(1, 168), (1, 170), (1, 172), (1, 174), (1, 176), (1, 178), (1, 180), (1, 182), (1, 184), (1, 186), (1, 188), (1, 190), (1, 192), (1, 194), (1, 196), (1, 198), (1, 200), (1, 202), (1, 204)] := by decide +kernel
set_option maxRecDepth 100000 in
theorem jY10 : ∀ k, k < jN 10 → parseFieldDescriptor (jT 10 k).2.2.1 = some ((jTys.getD 10 []).getD k .int) := by decide +kernel
set_option maxRecDepth 100000 in
theorem jV10 : ∀ a, a < jN 10 → ∀ b, b < jN 10 → a ≠ b → (jT 10 a).2.1 ≠ (jT 10 b).2.1 := by decide +kernel
set_option maxRecDepth 100000 in
theorem jU11 : u_ws (jnm 11) (jT 11) (jN 11) = jTp [(5, 16), (5, 18), (5, 20), (5, 22), (5, 24)] := by decide +kernel
set_option maxRecDepth 100000 in
theorem jY11 : ∀ k, k < jN 11 → parseFieldDescriptor (jT 11 k).2.2.1 = some ((jTys.getD 11 []).getD k .int) := by decide +kernel
set_option maxRecDepth 100000 in
theorem jV11 : ∀ a, a < jN 11 → ∀ b, b < jN 11 → a ≠ b → (jT 11 a).2.1 ≠ (jT 11 b).2.1 := by decide +kernel
set_option maxRecDepth 100000 in
theorem jU12 : u_ws (jnm 12) (jT 12) (jN 12) = jTp [(9, 52), (9, 54), (9, 56), (9, 58), (9, 60), (9, 62), (9, 64), (9, 66), (9, 68), (9, 70), (9, 72), (9, 74), (9, 76), (9, 78), (9, 80), (9, 82), (9, 84), (9, 86), (9, 88), (9, 90), (9, 92), (9, 94), (9, 96), (9, 98), (9, 100), (9, 102), (9, 104), (9, 106), (9, 108), (9, 110), (9, 112), (9, 114), (9, 116), (9, 118), (9, 120), (9, 122), (9, 124), (9, 126), (9, 128), (9, 130), (9, 132), (9, 134), (9, 136), (9, 138), (9, 140), (9, 142), (9, 144), (9, 146), (9, 148), (9, 150), (9, 152), (9, 154), (9, 156), (9, 158), (9, 160), (9, 162), (9, 164), (9, 166), (9, 168), (9, 170), (9, 172), (9, 174), (9, 176), (9, 178), (9, 180), (9, 182), (9, 184), (9, 186), (9, 188), (9, 190), (9, 192), (9, 194), (9, 196), (9, 198), (9, 200), (9, 202), (9, 204), (9, 206), (9, 208), (9, 210), (9, 212), (9, 214), (9, 216), (9, 218), (9, 220), (9, 222), (9, 224), (9, 226), (9, 228), (9, 230), (9, 232), (9, 234), (9, 236), (9, 238), (10, 0), (10, 2), (10, 4), (10, 6), (10, 8), (10, 10), (10, 12), (10, 14), (10, 16), (10, 18), (10, 20), (10, 22), (10, 24), (10, 26), (10, 28), (10, 30), (10, 32), (10, 34), (10, 36), (10, 38), (10, 40), (10, 42), (10, 44), (10, 46), (10, 48), (10, 50), (10, 52), (10, 54)] := by decide +kernel
set_option maxRecDepth 100000 in
theorem jY12 : ∀ k, k < jN 12 → parseFieldDescriptor (jT 12 k).2.2.1 = some ((jTys.getD 12 []).getD k .int) := by decide +kernel
set_option maxRecDepth 100000 in
theorem jV12 : ∀ a, a < jN 12 → ∀ b, b < jN 12 → a ≠ b → (jT 12 a).2.1 ≠ (jT 12 b).2.1 := by decide +kernel
def jWf (o : Nat) : List Cond := (jFl.getD o []).map (fun q => .fieldLink (jnm o) q.1 (jnm q.2.1) (jT q.2.1 q.2.2).2.1 (jT q.2.1 q.2.2).2.2.1)
set_option maxRecDepth 100000 in
theorem jWf0 : jWf 0 = jTp [(1, 38), (1, 39), (1, 40), (1, 41), (1, 42), (1, 43), (1, 44), (1, 79), (1, 82), (1, 85), (1, 90), (1, 100), (1, 107), (1, 109), (4, 137), (4, 141), (4, 145), (4, 149), (4, 151), (4, 154), (4, 156), (5, 115), (5, 150), (5, 152), (5, 154), (5, 156), (5, 158), (5, 160), (5, 162), (5, 164), (5, 166), (6, 100), (6, 102), (6, 104), (6, 106), (6, 114), (6, 122), (6, 124)] := by decide +kernel
set_option maxRecDepth 100000 in
theorem jWf1 : jWf 1 = jTp [(1, 94), (1, 98), (2, 172), (2, 179), (2, 186), (2, 187), (2, 190), (2, 193), (2, 194), (2, 198), (2, 203), (2, 207), (3, 149), (3, 155), (3, 159), (3, 163), (3, 167), (3, 172), (3, 176), (3, 179), (3, 183), (3, 185), (3, 188), (3, 191), (5, 103), (5, 104), (5, 105), (5, 106), (5, 107), (5, 108), (5, 109), (5, 110), (5, 111), (5, 112), (5, 113), (5, 114)] := by decide +kernel
set_option maxRecDepth 100000 in
theorem jWf2 : jWf 2 = jTp [(3, 186), (3, 189), (4, 147), (6, 98), (6, 99), (6, 101), (6, 103), (6, 105), (6, 107), (6, 108), (6, 109), (6, 110), (6, 111), (6, 112), (6, 113), (6, 116), (6, 117), (6, 119), (6, 121), (6, 123), (6, 125), (6, 126), (6, 127), (6, 128), (6, 129)] := by decide +kernel
set_option maxRecDepth 100000 in
theorem jWf3 : jWf 3 = jTp [(1, 89), (1, 92), (1, 96), (2, 180), (2, 182), (2, 183), (2, 196), (2, 200), (2, 204), (3, 148), (3, 153), (3, 157), (3, 162), (3, 166), (3, 170), (3, 174), (3, 178), (3, 181), (3, 184), (3, 187), (3, 190), (4, 183)] := by decide +kernel
set_option maxRecDepth 100000 in
theorem jWf4 : jWf 4 = jTp [(4, 136), (4, 140), (4, 144), (4, 148), (4, 150), (4, 153), (4, 155), (4, 158)] := by decide +kernel
set_option maxRecDepth 100000 in
theorem jWf5 : jWf 5 = jTp [(1, 102), (1, 105), (4, 139), (4, 143), (4, 146), (4, 152), (4, 157), (4, 159), (5, 149), (5, 151), (5, 153), (5, 155), (5, 157), (5, 159), (5, 161), (5, 163), (5, 165), (6, 115), (6, 118), (6, 120)] := by decide +kernel
set_option maxRecDepth 100000 in
theorem jWf6 : jWf 6 = jTp [(2, 170), (2, 174), (2, 176), (2, 178)] := by decide +kernel
set_option maxRecDepth 100000 in
theorem jWf7 : jWf 7 = jTp [(3, 146), (3, 151)] := by decide +kernel
set_option maxRecDepth 100000 in
theorem jWf8 : jWf 8 = jTp [(1, 78), (1, 81), (1, 84), (1, 88), (1, 95), (1, 99), (1, 104), (1, 106), (1, 108), (1, 111), (1, 154), (1, 156), (1, 158), (1, 161), (1, 163), (1, 165), (1, 167), (2, 138), (2, 139), (2, 140), (2, 141), (2, 173), (2, 175), (2, 181), (2, 184), (2, 189), (2, 191), (2, 199), (2, 202), (2, 206), (2, 208), (3, 150), (3, 156), (3, 160), (3, 164), (3, 168), (3, 171), (3, 175), (3, 180), (3, 182)] := by decide +kernel
set_option maxRecDepth 100000 in
theorem jWf9 : jWf 9 = jTp [(1, 77), (1, 80), (1, 83), (1, 86), (1, 91), (1, 101)] := by decide +kernel
set_option maxRecDepth 100000 in
theorem jWf10 : jWf 10 = jTp [(1, 142), (1, 143), (1, 144), (1, 145), (1, 146), (1, 147), (1, 148), (1, 149), (1, 150), (1, 151), (1, 152), (1, 153), (1, 155), (1, 157), (1, 159), (1, 160), (1, 162), (1, 164), (1, 166)] := by decide +kernel
set_option maxRecDepth 100000 in
theorem jWf11 : jWf 11 = jTp [(1, 87), (1, 93), (1, 97), (1, 103), (1, 110), (2, 171), (2, 177), (2, 185), (2, 188), (2, 192), (2, 195), (2, 197), (2, 201), (2, 205), (3, 147), (3, 152), (3, 154), (3, 158), (3, 161), (3, 165), (3, 169), (3, 173), (3, 177), (3, 192), (3, 193), (3, 194), (3, 195), (3, 196), (3, 197), (4, 138), (4, 142), (5, 11), (5, 12), (5, 13), (5, 14), (5, 15)] := by decide +kernel
set_option maxRecDepth 100000 in
theorem jWf12 : jWf 12 = jTp [(8, 170), (8, 171), (8, 172), (8, 173), (8, 174), (8, 175), (8, 176), (8, 177), (8, 178), (8, 179), (8, 180), (8, 181), (8, 182), (8, 183), (8, 184), (8, 185), (8, 186), (8, 187), (8, 188), (8, 189), (8, 190), (8, 191), (8, 192), (8, 193), (8, 194), (8, 195), (8, 196), (8, 197), (8, 198), (8, 199), (8, 200), (8, 201), (8, 202), (8, 203), (8, 204), (8, 205), (8, 206), (8, 207), (8, 208), (8, 209), (8, 210), (8, 211), (8, 212), (8, 213), (8, 214), (8, 215), (8, 216), (8, 217), (8, 218), (8, 219), (8, 220), (8, 221), (8, 222), (8, 223), (8, 224), (8, 225), (8, 226), (8, 227), (8, 228), (8, 229), (8, 230), (8, 231), (8, 232), (8, 233), (8, 234), (8, 235), (8, 236), (8, 237), (8, 238), (8, 239), (9, 0), (9, 1), (9, 2), (9, 3), (9, 4), (9, 5), (9, 6), (9, 7), (9, 8), (9, 9), (9, 10), (9, 11), (9, 12), (9, 13), (9, 14), (9, 15), (9, 16), (9, 17), (9, 18), (9, 19), (9, 20), (9, 21), (9, 22), (9, 23), (9, 24), (9, 25), (9, 26), (9, 27), (9, 28), (9, 29), (9, 30), (9, 31), (9, 32), (9, 33), (9, 34), (9, 35), (9, 36), (9, 37), (9, 38), (9, 39), (9, 40), (9, 41), (9, 42), (9, 43), (9, 44), (9, 45), (9, 46), (9, 47), (9, 48), (9, 49), (9, 50), (9, 51)] := by decide +kernel
def jWk (o : Nat) : List Cond := (jKl.getD o []).map (fun q => .classLink (jnm o) q.1 (jnm q.2))
set_option maxRecDepth 100000 in
theorem jWk0 : jWk 0 = jTp [(1, 65), (1, 133), (2, 132), (4, 177), (5, 3), (5, 97), (5, 141), (6, 74), (6, 215), (6, 231), (7, 40), (7, 47), (7, 72)] := by decide +kernel
set_option maxRecDepth 100000 in
theorem jWk5 : jWk 5 = jTp [(5, 147)] := by decide +kernel
set_option maxRecDepth 100000 in
theorem jWk8 : jWk 8 = jTp [(2, 155), (2, 161), (3, 140), (4, 130)] := by decide +kernel
set_option maxRecDepth 100000 in
theorem jWk9 : jWk 9 = jTp [(1, 71), (1, 73), (1, 75)] := by decide +kernel
set_option maxRecDepth 100000 in
theorem jWk11 : jWk 11 = jTp [(5, 10)] := by decide +kernel
set_option maxRecDepth 100000 in
theorem jWk18 : jWk 18 = jTp [(1, 30), (6, 209), (6, 210), (7, 26), (7, 27), (7, 67), (8, 162)] := by decide +kernel
def jWi : List Cond := (List.range 13).flatMap (fun c => [.instantiable (jnm c) (jN c), .initialized (jnm c)])
set_option maxRecDepth 100000 in
theorem jWi_ok : jWi = jTp [(1, 31), (1, 1), (5, 98), (1, 22), (6, 75), (1, 25), (4, 178), (1, 21), (4, 131), (1, 20), (5, 142), (1, 24), (2, 162), (1, 17), (3, 141), (1, 19), (2, 133), (1, 16), (1, 66), (1, 8), (1, 134), (1, 9), (5, 4), (1, 23), (8, 163), (1, 2)] := by decide +kernel
def jWc (o : Nat) : List Cond := (jCn.getD o []).filterMap (fun q => match q.2 with
  | .int v => some (.constant (jnm o) q.1 v)
  | .long v => some (.constantLong (jnm o) q.1 v)
  | .ref i => some (.stringRef (jnm o) q.1 (jSt.getD i (0, 0, "")).2.2)
  | _ => none)
set_option maxRecDepth 100000 in
theorem jWc0 : jWc 0 = jTp [(6, 224), (7, 0), (7, 14), (7, 22), (7, 41), (7, 56), (7, 63), (7, 81), (7, 95), (7, 108), (7, 109), (7, 124), (7, 182), (8, 73), (8, 96), (8, 121), (8, 137), (8, 145), (8, 153), (8, 161)] := by decide +kernel
set_option maxRecDepth 100000 in
theorem jWc1 : jWc 1 = jTp [(6, 59)] := by decide +kernel
set_option maxRecDepth 100000 in
theorem jWc3 : jWc 3 = jTp [(4, 214)] := by decide +kernel
set_option maxRecDepth 100000 in
theorem jWc8 : jWc 8 = jTp [(4, 109), (2, 156), (3, 6), (3, 77)] := by decide +kernel
set_option maxRecDepth 100000 in
theorem jWc10 : jWc 10 = jTp [(2, 78), (2, 123), (2, 124), (2, 125), (1, 233), (2, 90), (2, 130), (2, 131)] := by decide +kernel
set_option maxRecDepth 100000 in
theorem jWc12 : jWc 12 = jTp [(8, 168), (8, 169), (10, 97), (10, 108), (10, 109), (10, 154), (10, 164), (10, 165), (10, 166), (11, 60), (11, 77), (11, 129), (11, 133), (11, 134), (11, 136), (10, 92), (10, 114), (10, 159), (10, 174)] := by decide +kernel
def jWl (o : Nat) : List Cond := (jCl.getD o []).filterMap (fun q => if q.2.1 ≤ 2 then (jMs[q.2.2.1]?).map (fun e => Cond.methodLink (jnm o) q.1 e.1) else none)
set_option maxRecDepth 100000 in
theorem jWl0 : jWl 0 = jTp [(1, 135), (1, 209), (2, 134), (2, 151), (4, 187), (5, 5), (5, 27), (5, 93), (5, 143), (5, 186), (6, 73), (6, 76), (6, 88), (6, 92), (6, 175), (6, 202), (7, 32), (7, 36), (7, 43), (7, 96), (7, 107), (7, 125), (7, 183), (8, 74), (8, 97), (8, 101), (8, 122), (8, 126)] := by decide +kernel
set_option maxRecDepth 100000 in
theorem jWl1 : jWl 1 = jTp [(4, 211), (5, 190), (5, 194), (5, 198), (5, 202), (5, 206), (5, 210), (5, 211), (5, 215), (5, 219), (5, 223), (5, 227), (5, 231), (5, 235), (5, 239), (6, 3), (6, 7), (6, 8), (6, 12), (6, 16), (6, 20), (6, 24), (6, 28), (6, 32), (6, 36), (6, 40), (6, 44), (6, 48), (6, 52), (6, 56), (6, 60), (6, 64), (6, 68), (6, 72), (6, 80), (6, 81), (6, 85)] := by decide +kernel
set_option maxRecDepth 100000 in
theorem jWl2 : jWl 2 = jTp [(6, 96), (6, 97), (6, 191), (6, 194), (6, 198), (7, 133), (7, 137), (7, 140), (7, 144), (7, 148), (7, 155), (7, 163), (7, 167), (7, 171), (7, 187), (7, 191), (7, 192), (7, 196), (7, 200), (7, 204), (7, 208), (7, 212), (7, 216), (7, 220), (7, 224), (7, 228), (7, 232), (7, 236), (8, 0), (8, 1), (8, 5), (8, 9), (8, 13), (8, 17), (8, 21), (8, 25), (8, 29), (8, 33), (8, 37), (8, 41), (8, 45), (8, 49), (8, 53), (8, 57), (8, 61)] := by decide +kernel
set_option maxRecDepth 100000 in
theorem jWl3 : jWl 3 = jTp [(4, 191), (4, 195), (4, 199), (4, 203), (4, 204), (4, 208), (4, 215), (4, 216), (4, 220), (4, 224), (4, 228), (4, 232), (4, 236), (4, 239)] := by decide +kernel
set_option maxRecDepth 100000 in
theorem jWl4 : jWl 4 = jTp [(8, 65)] := by decide +kernel
set_option maxRecDepth 100000 in
theorem jWl5 : jWl 5 = jTp [(6, 179), (6, 183), (6, 187), (7, 129), (7, 159), (8, 78), (8, 82), (8, 86), (8, 87), (8, 88), (8, 105), (8, 106)] := by decide +kernel
set_option maxRecDepth 100000 in
theorem jWl6 : jWl 6 = jTp [(4, 45)] := by decide +kernel
set_option maxRecDepth 100000 in
theorem jWl8 : jWl 8 = jTp [(2, 157), (2, 163), (2, 166), (3, 2), (3, 7), (3, 15), (3, 19), (3, 23), (3, 27), (3, 31), (3, 103), (3, 107), (3, 111), (3, 115), (3, 119), (3, 123), (3, 127), (3, 131), (3, 135), (3, 139), (3, 142), (3, 237), (4, 1), (4, 5), (4, 9), (4, 13), (4, 17), (4, 21), (4, 25), (4, 29), (4, 33), (4, 37), (4, 41), (4, 49), (4, 53), (4, 57), (4, 61), (4, 65), (4, 69), (4, 73), (4, 77), (4, 81), (4, 82), (4, 85), (4, 89), (4, 93), (4, 97), (4, 101), (4, 105), (4, 110), (4, 114), (4, 118), (4, 122), (4, 126), (4, 132)] := by decide +kernel
set_option maxRecDepth 100000 in
theorem jWl10 : jWl 10 = jTp [(1, 139), (1, 213), (1, 217), (1, 221), (1, 225), (1, 229), (2, 79), (2, 83), (2, 86), (2, 112), (2, 116), (2, 119), (2, 126), (3, 11)] := by decide +kernel
set_option maxRecDepth 100000 in
theorem jWl11 : jWl 11 = jTp [(5, 9), (5, 31), (5, 35), (5, 39), (5, 43), (5, 46), (5, 47), (5, 51), (5, 55), (5, 56), (5, 60), (5, 64), (5, 67), (5, 70), (5, 73), (5, 74), (5, 77), (5, 81), (5, 85), (5, 88), (5, 92)] := by decide +kernel
set_option maxRecDepth 100000 in
theorem jWl12 : jWl 12 = jTp [(10, 66), (10, 69), (10, 72), (10, 84), (10, 88), (10, 93), (10, 99), (10, 102), (10, 105), (10, 110), (10, 115), (10, 119), (10, 123), (10, 127), (10, 131), (10, 135), (10, 139), (10, 143), (10, 147), (10, 150), (10, 155), (10, 160), (10, 167), (10, 171), (10, 176), (10, 180), (10, 184), (10, 188), (10, 192), (10, 196), (10, 200), (10, 204), (10, 208), (10, 212), (10, 216), (10, 220), (10, 224), (10, 228), (10, 232), (10, 236), (11, 0), (11, 4), (11, 8), (11, 12), (11, 16), (11, 20), (11, 24), (11, 27), (11, 31), (11, 34), (11, 38), (11, 42), (11, 46), (11, 49), (11, 52), (11, 56), (11, 61), (11, 65), (11, 69), (11, 73), (11, 78), (11, 82), (11, 86), (11, 90), (11, 94), (11, 98), (11, 102), (11, 106), (11, 110), (11, 114), (11, 118), (11, 122), (11, 126), (11, 130), (11, 135), (11, 137), (11, 141), (11, 145), (11, 149), (11, 153), (11, 157), (11, 161), (11, 165), (11, 169), (11, 173), (11, 177), (11, 181), (11, 185), (11, 189), (11, 193), (11, 197), (11, 201), (11, 205), (11, 208), (11, 212), (11, 216), (11, 220), (11, 224), (11, 228), (11, 232), (11, 236), (12, 0), (12, 4), (12, 8), (12, 12), (12, 16), (12, 20), (12, 24), (12, 28), (12, 32), (12, 36), (12, 40), (12, 44), (12, 48), (12, 52), (12, 56), (12, 60), (12, 63), (12, 67), (12, 71), (12, 75), (12, 91), (12, 95), (12, 99), (12, 103), (12, 107), (12, 111), (12, 119), (12, 123), (12, 127), (12, 131), (12, 135), (12, 139), (12, 143), (12, 147), (12, 151), (12, 155), (12, 159), (12, 163), (12, 167), (12, 171), (12, 175), (12, 179), (12, 183), (12, 187), (12, 191), (12, 199), (12, 203), (12, 211), (12, 227)] := by decide +kernel
set_option maxRecDepth 100000 in
theorem jWl18 : jWl 18 = jTp [(1, 32), (1, 61), (6, 206), (6, 211), (7, 7), (7, 10), (7, 15), (7, 18), (7, 23), (7, 28), (7, 64), (7, 68), (7, 88), (7, 91), (7, 100), (7, 103), (7, 110), (7, 113), (7, 117), (7, 120), (7, 175), (7, 178), (8, 66), (8, 69), (8, 89), (8, 92), (8, 107), (8, 110), (8, 114), (8, 117), (8, 130), (8, 133), (8, 138), (8, 141), (8, 146), (8, 149), (8, 154), (8, 157), (8, 164), (10, 58), (10, 62), (10, 76), (10, 80), (12, 79), (12, 83), (12, 87), (12, 115), (12, 195), (12, 207), (12, 215), (12, 219), (12, 223), (12, 231), (12, 235), (12, 239), (13, 3), (13, 7), (13, 11), (13, 15)] := by decide +kernel
theorem jU_ok : ∀ c, c < 13 → ∀ w ∈ u_ws (jnm c) (jT c) (jN c), w ∈ lw_tbl := fun c => match c with
  | 0 => fun _ => jMem _ jU0
  | 1 => fun _ => jMem _ jU1
  | 2 => fun _ => jMem _ jU2
  | 3 => fun _ => jMem _ jU3
  | 4 => fun _ => jMem _ jU4
  | 5 => fun _ => jMem _ jU5
  | 6 => fun _ => jMem _ jU6
  | 7 => fun _ => jMem _ jU7
  | 8 => fun _ => jMem _ jU8
  | 9 => fun _ => jMem _ jU9
  | 10 => fun _ => jMem _ jU10
  | 11 => fun _ => jMem _ jU11
  | 12 => fun _ => jMem _ jU12
  | n + 13 => fun h => absurd h (by omega)
theorem jY_ok : ∀ c, c < 13 → ∀ k, k < jN c → parseFieldDescriptor (jT c k).2.2.1 = some ((jTys.getD c []).getD k .int) := fun c => match c with
  | 0 => fun _ => jY0
  | 1 => fun _ => jY1
  | 2 => fun _ => jY2
  | 3 => fun _ => jY3
  | 4 => fun _ => jY4
  | 5 => fun _ => jY5
  | 6 => fun _ => jY6
  | 7 => fun _ => jY7
  | 8 => fun _ => jY8
  | 9 => fun _ => jY9
  | 10 => fun _ => jY10
  | 11 => fun _ => jY11
  | 12 => fun _ => jY12
  | n + 13 => fun h => absurd h (by omega)
theorem jV_ok : ∀ c, c < 13 → ∀ a, a < jN c → ∀ b, b < jN c → a ≠ b → (jT c a).2.1 ≠ (jT c b).2.1 := fun c => match c with
  | 0 => fun _ => jV0
  | 1 => fun _ => jV1
  | 2 => fun _ => jV2
  | 3 => fun _ => jV3
  | 4 => fun _ => jV4
  | 5 => fun _ => jV5
  | 6 => fun _ => jV6
  | 7 => fun _ => jV7
  | 8 => fun _ => jV8
  | 9 => fun _ => jV9
  | 10 => fun _ => jV10
  | 11 => fun _ => jV11
  | 12 => fun _ => jV12
  | n + 13 => fun h => absurd h (by omega)
theorem jWf_ok : ∀ c, ∀ w ∈ jWf c, w ∈ lw_tbl := fun c => match c with
  | 0 => jMem _ jWf0
  | 1 => jMem _ jWf1
  | 2 => jMem _ jWf2
  | 3 => jMem _ jWf3
  | 4 => jMem _ jWf4
  | 5 => jMem _ jWf5
  | 6 => jMem _ jWf6
  | 7 => jMem _ jWf7
  | 8 => jMem _ jWf8
  | 9 => jMem _ jWf9
  | 10 => jMem _ jWf10
  | 11 => jMem _ jWf11
  | 12 => jMem _ jWf12
  | 13 => fun _ h => absurd h (by simp [jWf, jFl, jFl13])
  | 14 => fun _ h => absurd h (by simp [jWf, jFl, jFl14])
  | 15 => fun _ h => absurd h (by simp [jWf, jFl, jFl15])
  | 16 => fun _ h => absurd h (by simp [jWf, jFl, jFl16])
  | 17 => fun _ h => absurd h (by simp [jWf, jFl, jFl17])
  | 18 => fun _ h => absurd h (by simp [jWf, jFl, jFl18])
  | 19 => fun _ h => absurd h (by simp [jWf, jFl, jFl19])
  | 20 => fun _ h => absurd h (by simp [jWf, jFl, jFl20])
  | n + 21 => fun _ h => absurd h (by simp [jWf, jFl])
theorem jWk_ok : ∀ c, ∀ w ∈ jWk c, w ∈ lw_tbl := fun c => match c with
  | 0 => jMem _ jWk0
  | 1 => fun _ h => absurd h (by simp [jWk, jKl])
  | 2 => fun _ h => absurd h (by simp [jWk, jKl])
  | 3 => fun _ h => absurd h (by simp [jWk, jKl])
  | 4 => fun _ h => absurd h (by simp [jWk, jKl])
  | 5 => jMem _ jWk5
  | 6 => fun _ h => absurd h (by simp [jWk, jKl])
  | 7 => fun _ h => absurd h (by simp [jWk, jKl])
  | 8 => jMem _ jWk8
  | 9 => jMem _ jWk9
  | 10 => fun _ h => absurd h (by simp [jWk, jKl])
  | 11 => jMem _ jWk11
  | 12 => fun _ h => absurd h (by simp [jWk, jKl])
  | 13 => fun _ h => absurd h (by simp [jWk, jKl])
  | 14 => fun _ h => absurd h (by simp [jWk, jKl])
  | 15 => fun _ h => absurd h (by simp [jWk, jKl])
  | 16 => fun _ h => absurd h (by simp [jWk, jKl])
  | 17 => fun _ h => absurd h (by simp [jWk, jKl])
  | 18 => jMem _ jWk18
  | 19 => fun _ h => absurd h (by simp [jWk, jKl])
  | 20 => fun _ h => absurd h (by simp [jWk, jKl])
  | n + 21 => fun _ h => absurd h (by simp [jWk, jKl])
theorem jWc_ok : ∀ c, ∀ w ∈ jWc c, w ∈ lw_tbl := fun c => match c with
  | 0 => jMem _ jWc0
  | 1 => jMem _ jWc1
  | 2 => fun _ h => absurd h (by simp [jWc, jCn])
  | 3 => jMem _ jWc3
  | 4 => fun _ h => absurd h (by simp [jWc, jCn])
  | 5 => fun _ h => absurd h (by simp [jWc, jCn])
  | 6 => fun _ h => absurd h (by simp [jWc, jCn])
  | 7 => fun _ h => absurd h (by simp [jWc, jCn])
  | 8 => jMem _ jWc8
  | 9 => fun _ h => absurd h (by simp [jWc, jCn])
  | 10 => jMem _ jWc10
  | 11 => fun _ h => absurd h (by simp [jWc, jCn])
  | 12 => jMem _ jWc12
  | 13 => fun _ h => absurd h (by simp [jWc, jCn])
  | 14 => fun _ h => absurd h (by simp [jWc, jCn])
  | 15 => fun _ h => absurd h (by simp [jWc, jCn])
  | 16 => fun _ h => absurd h (by simp [jWc, jCn])
  | 17 => fun _ h => absurd h (by simp [jWc, jCn])
  | 18 => fun _ h => absurd h (by simp [jWc, jCn])
  | 19 => fun _ h => absurd h (by simp [jWc, jCn])
  | 20 => fun _ h => absurd h (by simp [jWc, jCn])
  | n + 21 => fun _ h => absurd h (by simp [jWc, jCn])
theorem jWl_ok : ∀ c, ∀ w ∈ jWl c, w ∈ lw_tbl := fun c => match c with
  | 0 => jMem _ jWl0
  | 1 => jMem _ jWl1
  | 2 => jMem _ jWl2
  | 3 => jMem _ jWl3
  | 4 => jMem _ jWl4
  | 5 => jMem _ jWl5
  | 6 => jMem _ jWl6
  | 7 => fun _ h => absurd h (by simp [jWl, jCl, jCl7])
  | 8 => jMem _ jWl8
  | 9 => fun _ h => absurd h (by simp [jWl, jCl, jCl9])
  | 10 => jMem _ jWl10
  | 11 => jMem _ jWl11
  | 12 => jMem _ jWl12
  | 13 => fun _ h => absurd h (by simp [jWl, jCl, jCl13])
  | 14 => fun _ h => absurd h (by simp [jWl, jCl, jCl14])
  | 15 => fun _ h => absurd h (by simp [jWl, jCl, jCl15])
  | 16 => fun _ h => absurd h (by simp [jWl, jCl, jCl16])
  | 17 => fun _ h => absurd h (by simp [jWl, jCl, jCl17])
  | 18 => jMem _ jWl18
  | 19 => fun _ h => absurd h (by simp [jWl, jCl, jCl19])
  | 20 => fun _ h => absurd h (by simp [jWl, jCl, jCl20])
  | n + 21 => fun _ h => absurd h (by simp [jWl, jCl])
theorem jCs_get {c : Nat} (h : c < 18) : jCs[c]? = some (jnm c, jT c, jN c) := by
  simp [jCs, h]
theorem jFind_mem {α : Type} {l : List (List (Nat × α))} {o i : Nat} {x : α} (h : jFind l o i = some x) : (i, x) ∈ l.getD o [] := by
  unfold jFind at h
  obtain ⟨q, h1, h2⟩ := Option.map_eq_some_iff.mp h
  have h3 := List.mem_of_find?_eq_some h1
  have h4 := List.find?_some h1
  obtain ⟨a, b⟩ := q
  simp at h4 h2
  subst h4; subst h2
  exact h3
/-- a method's own word -/
def jCw (e : jM) : Cond := match e.2.2.2.2.2.1 with
  | [] => .code e.1 e.2.2.1 e.2.2.2.1 e.2.2.2.2.1
  | h :: hs => .codeWith e.1 e.2.2.1 e.2.2.2.1 e.2.2.2.2.1 (h :: hs)
theorem jMw0 : jCw jm0 ∈ lw_tbl := jTb6 _ (List.mem_of_getElem? (i := 208) rfl)
theorem jMw1 : jCw jm1 ∈ lw_tbl := jTb7 _ (List.mem_of_getElem? (i := 9) rfl)
theorem jMw2 : jCw jm2 ∈ lw_tbl := jTb7 _ (List.mem_of_getElem? (i := 17) rfl)
theorem jMw3 : jCw jm3 ∈ lw_tbl := jTb7 _ (List.mem_of_getElem? (i := 25) rfl)
theorem jMw4 : jCw jm4 ∈ lw_tbl := jTb7 _ (List.mem_of_getElem? (i := 66) rfl)
theorem jMw5 : jCw jm5 ∈ lw_tbl := jTb7 _ (List.mem_of_getElem? (i := 90) rfl)
theorem jMw6 : jCw jm6 ∈ lw_tbl := jTb7 _ (List.mem_of_getElem? (i := 102) rfl)
theorem jMw7 : jCw jm7 ∈ lw_tbl := jTb7 _ (List.mem_of_getElem? (i := 112) rfl)
theorem jMw8 : jCw jm8 ∈ lw_tbl := jTb7 _ (List.mem_of_getElem? (i := 119) rfl)
theorem jMw9 : jCw jm9 ∈ lw_tbl := jTb7 _ (List.mem_of_getElem? (i := 177) rfl)
theorem jMw10 : jCw jm10 ∈ lw_tbl := jTb8 _ (List.mem_of_getElem? (i := 68) rfl)
theorem jMw11 : jCw jm11 ∈ lw_tbl := jTb8 _ (List.mem_of_getElem? (i := 91) rfl)
theorem jMw12 : jCw jm12 ∈ lw_tbl := jTb8 _ (List.mem_of_getElem? (i := 109) rfl)
theorem jMw13 : jCw jm13 ∈ lw_tbl := jTb8 _ (List.mem_of_getElem? (i := 116) rfl)
theorem jMw14 : jCw jm14 ∈ lw_tbl := jTb8 _ (List.mem_of_getElem? (i := 132) rfl)
theorem jMw15 : jCw jm15 ∈ lw_tbl := jTb8 _ (List.mem_of_getElem? (i := 140) rfl)
theorem jMw16 : jCw jm16 ∈ lw_tbl := jTb8 _ (List.mem_of_getElem? (i := 148) rfl)
theorem jMw17 : jCw jm17 ∈ lw_tbl := jTb8 _ (List.mem_of_getElem? (i := 156) rfl)
theorem jMw19 : jCw jm19 ∈ lw_tbl := jTb1 _ (List.mem_of_getElem? (i := 34) rfl)
theorem jMw20 : jCw jm20 ∈ lw_tbl := jTb6 _ (List.mem_of_getElem? (i := 214) rfl)
theorem jMw21 : jCw jm21 ∈ lw_tbl := jTb7 _ (List.mem_of_getElem? (i := 13) rfl)
theorem jMw22 : jCw jm22 ∈ lw_tbl := jTb1 _ (List.mem_of_getElem? (i := 64) rfl)
theorem jMw23 : jCw jm23 ∈ lw_tbl := jTb7 _ (List.mem_of_getElem? (i := 21) rfl)
theorem jMw24 : jCw jm24 ∈ lw_tbl := jTb7 _ (List.mem_of_getElem? (i := 31) rfl)
theorem jMw25 : jCw jm25 ∈ lw_tbl := jTb7 _ (List.mem_of_getElem? (i := 71) rfl)
theorem jMw26 : jCw jm26 ∈ lw_tbl := jTb7 _ (List.mem_of_getElem? (i := 94) rfl)
theorem jMw27 : jCw jm27 ∈ lw_tbl := jTb7 _ (List.mem_of_getElem? (i := 106) rfl)
theorem jMw28 : jCw jm28 ∈ lw_tbl := jTb7 _ (List.mem_of_getElem? (i := 116) rfl)
theorem jMw29 : jCw jm29 ∈ lw_tbl := jTb7 _ (List.mem_of_getElem? (i := 123) rfl)
theorem jMw30 : jCw jm30 ∈ lw_tbl := jTb7 _ (List.mem_of_getElem? (i := 181) rfl)
theorem jMw31 : jCw jm31 ∈ lw_tbl := jTb8 _ (List.mem_of_getElem? (i := 72) rfl)
theorem jMw32 : jCw jm32 ∈ lw_tbl := jTb8 _ (List.mem_of_getElem? (i := 95) rfl)
theorem jMw33 : jCw jm33 ∈ lw_tbl := jTb8 _ (List.mem_of_getElem? (i := 113) rfl)
theorem jMw34 : jCw jm34 ∈ lw_tbl := jTb8 _ (List.mem_of_getElem? (i := 120) rfl)
theorem jMw35 : jCw jm35 ∈ lw_tbl := jTb8 _ (List.mem_of_getElem? (i := 136) rfl)
theorem jMw36 : jCw jm36 ∈ lw_tbl := jTb8 _ (List.mem_of_getElem? (i := 144) rfl)
theorem jMw37 : jCw jm37 ∈ lw_tbl := jTb8 _ (List.mem_of_getElem? (i := 152) rfl)
theorem jMw38 : jCw jm38 ∈ lw_tbl := jTb8 _ (List.mem_of_getElem? (i := 160) rfl)
theorem jMw39 : jCw jm39 ∈ lw_tbl := jTb7 _ (List.mem_of_getElem? (i := 39) rfl)
theorem jMw40 : jCw jm40 ∈ lw_tbl := jTb7 _ (List.mem_of_getElem? (i := 35) rfl)
theorem jMw41 : jCw jm41 ∈ lw_tbl := jTb5 _ (List.mem_of_getElem? (i := 96) rfl)
theorem jMw42 : jCw jm42 ∈ lw_tbl := jTb5 _ (List.mem_of_getElem? (i := 101) rfl)
theorem jMw43 : jCw jm43 ∈ lw_tbl := jTb5 _ (List.mem_of_getElem? (i := 189) rfl)
theorem jMw44 : jCw jm44 ∈ lw_tbl := jTb6 _ (List.mem_of_getElem? (i := 91) rfl)
theorem jMw45 : jCw jm45 ∈ lw_tbl := jTb6 _ (List.mem_of_getElem? (i := 79) rfl)
theorem jMw46 : jCw jm46 ∈ lw_tbl := jTb5 _ (List.mem_of_getElem? (i := 201) rfl)
theorem jMw47 : jCw jm47 ∈ lw_tbl := jTb5 _ (List.mem_of_getElem? (i := 214) rfl)
theorem jMw48 : jCw jm48 ∈ lw_tbl := jTb6 _ (List.mem_of_getElem? (i := 6) rfl)
theorem jMw49 : jCw jm49 ∈ lw_tbl := jTb5 _ (List.mem_of_getElem? (i := 193) rfl)
theorem jMw50 : jCw jm50 ∈ lw_tbl := jTb5 _ (List.mem_of_getElem? (i := 197) rfl)
theorem jMw51 : jCw jm51 ∈ lw_tbl := jTb6 _ (List.mem_of_getElem? (i := 67) rfl)
theorem jMw52 : jCw jm52 ∈ lw_tbl := jTb6 _ (List.mem_of_getElem? (i := 58) rfl)
theorem jMw53 : jCw jm53 ∈ lw_tbl := jTb6 _ (List.mem_of_getElem? (i := 63) rfl)
theorem jMw54 : jCw jm54 ∈ lw_tbl := jTb6 _ (List.mem_of_getElem? (i := 71) rfl)
theorem jMw55 : jCw jm55 ∈ lw_tbl := jTb6 _ (List.mem_of_getElem? (i := 84) rfl)
theorem jMw56 : jCw jm56 ∈ lw_tbl := jTb6 _ (List.mem_of_getElem? (i := 87) rfl)
theorem jMw57 : jCw jm57 ∈ lw_tbl := jTb4 _ (List.mem_of_getElem? (i := 213) rfl)
theorem jMw58 : jCw jm58 ∈ lw_tbl := jTb4 _ (List.mem_of_getElem? (i := 210) rfl)
theorem jMw59 : jCw jm59 ∈ lw_tbl := jTb5 _ (List.mem_of_getElem? (i := 222) rfl)
theorem jMw60 : jCw jm60 ∈ lw_tbl := jTb5 _ (List.mem_of_getElem? (i := 226) rfl)
theorem jMw61 : jCw jm61 ∈ lw_tbl := jTb5 _ (List.mem_of_getElem? (i := 234) rfl)
theorem jMw62 : jCw jm62 ∈ lw_tbl := jTb5 _ (List.mem_of_getElem? (i := 230) rfl)
theorem jMw63 : jCw jm63 ∈ lw_tbl := jTb5 _ (List.mem_of_getElem? (i := 238) rfl)
theorem jMw64 : jCw jm64 ∈ lw_tbl := jTb6 _ (List.mem_of_getElem? (i := 2) rfl)
theorem jMw65 : jCw jm65 ∈ lw_tbl := jTb6 _ (List.mem_of_getElem? (i := 11) rfl)
theorem jMw66 : jCw jm66 ∈ lw_tbl := jTb5 _ (List.mem_of_getElem? (i := 205) rfl)
theorem jMw67 : jCw jm67 ∈ lw_tbl := jTb5 _ (List.mem_of_getElem? (i := 209) rfl)
theorem jMw68 : jCw jm68 ∈ lw_tbl := jTb5 _ (List.mem_of_getElem? (i := 218) rfl)
theorem jMw69 : jCw jm69 ∈ lw_tbl := jTb6 _ (List.mem_of_getElem? (i := 15) rfl)
theorem jMw70 : jCw jm70 ∈ lw_tbl := jTb6 _ (List.mem_of_getElem? (i := 19) rfl)
theorem jMw71 : jCw jm71 ∈ lw_tbl := jTb6 _ (List.mem_of_getElem? (i := 23) rfl)
theorem jMw72 : jCw jm72 ∈ lw_tbl := jTb6 _ (List.mem_of_getElem? (i := 27) rfl)
theorem jMw73 : jCw jm73 ∈ lw_tbl := jTb6 _ (List.mem_of_getElem? (i := 31) rfl)
theorem jMw74 : jCw jm74 ∈ lw_tbl := jTb6 _ (List.mem_of_getElem? (i := 35) rfl)
theorem jMw75 : jCw jm75 ∈ lw_tbl := jTb6 _ (List.mem_of_getElem? (i := 39) rfl)
theorem jMw76 : jCw jm76 ∈ lw_tbl := jTb6 _ (List.mem_of_getElem? (i := 43) rfl)
theorem jMw77 : jCw jm77 ∈ lw_tbl := jTb6 _ (List.mem_of_getElem? (i := 47) rfl)
theorem jMw78 : jCw jm78 ∈ lw_tbl := jTb6 _ (List.mem_of_getElem? (i := 51) rfl)
theorem jMw79 : jCw jm79 ∈ lw_tbl := jTb6 _ (List.mem_of_getElem? (i := 55) rfl)
theorem jMw80 : jCw jm80 ∈ lw_tbl := jTb6 _ (List.mem_of_getElem? (i := 94) rfl)
theorem jMw81 : jCw jm81 ∈ lw_tbl := jTb6 _ (List.mem_of_getElem? (i := 190) rfl)
theorem jMw82 : jCw jm82 ∈ lw_tbl := jTb6 _ (List.mem_of_getElem? (i := 201) rfl)
theorem jMw83 : jCw jm83 ∈ lw_tbl := jTb8 _ (List.mem_of_getElem? (i := 125) rfl)
theorem jMw84 : jCw jm84 ∈ lw_tbl := jTb8 _ (List.mem_of_getElem? (i := 129) rfl)
theorem jMw85 : jCw jm85 ∈ lw_tbl := jTb7 _ (List.mem_of_getElem? (i := 99) rfl)
theorem jMw86 : jCw jm86 ∈ lw_tbl := jTb7 _ (List.mem_of_getElem? (i := 136) rfl)
theorem jMw87 : jCw jm87 ∈ lw_tbl := jTb6 _ (List.mem_of_getElem? (i := 197) rfl)
theorem jMw88 : jCw jm88 ∈ lw_tbl := jTb7 _ (List.mem_of_getElem? (i := 207) rfl)
theorem jMw89 : jCw jm89 ∈ lw_tbl := jTb7 _ (List.mem_of_getElem? (i := 211) rfl)
theorem jMw90 : jCw jm90 ∈ lw_tbl := jTb7 _ (List.mem_of_getElem? (i := 215) rfl)
theorem jMw91 : jCw jm91 ∈ lw_tbl := jTb7 _ (List.mem_of_getElem? (i := 223) rfl)
theorem jMw92 : jCw jm92 ∈ lw_tbl := jTb7 _ (List.mem_of_getElem? (i := 166) rfl)
theorem jMw93 : jCw jm93 ∈ lw_tbl := jTb7 _ (List.mem_of_getElem? (i := 151) rfl)
theorem jMw94 : jCw jm94 ∈ lw_tbl := jTb7 _ (List.mem_of_getElem? (i := 147) rfl)
theorem jMw95 : jCw jm95 ∈ lw_tbl := jTb7 _ (List.mem_of_getElem? (i := 170) rfl)
theorem jMw96 : jCw jm96 ∈ lw_tbl := jTb7 _ (List.mem_of_getElem? (i := 174) rfl)
theorem jMw97 : jCw jm97 ∈ lw_tbl := jTb7 _ (List.mem_of_getElem? (i := 162) rfl)
theorem jMw98 : jCw jm98 ∈ lw_tbl := jTb7 _ (List.mem_of_getElem? (i := 190) rfl)
theorem jMw99 : jCw jm99 ∈ lw_tbl := jTb7 _ (List.mem_of_getElem? (i := 203) rfl)
theorem jMw100 : jCw jm100 ∈ lw_tbl := jTb8 _ (List.mem_of_getElem? (i := 52) rfl)
theorem jMw101 : jCw jm101 ∈ lw_tbl := jTb7 _ (List.mem_of_getElem? (i := 139) rfl)
theorem jMw102 : jCw jm102 ∈ lw_tbl := jTb7 _ (List.mem_of_getElem? (i := 143) rfl)
theorem jMw103 : jCw jm103 ∈ lw_tbl := jTb7 _ (List.mem_of_getElem? (i := 132) rfl)
theorem jMw104 : jCw jm104 ∈ lw_tbl := jTb7 _ (List.mem_of_getElem? (i := 158) rfl)
theorem jMw105 : jCw jm105 ∈ lw_tbl := jTb7 _ (List.mem_of_getElem? (i := 186) rfl)
theorem jMw106 : jCw jm106 ∈ lw_tbl := jTb7 _ (List.mem_of_getElem? (i := 195) rfl)
theorem jMw107 : jCw jm107 ∈ lw_tbl := jTb7 _ (List.mem_of_getElem? (i := 199) rfl)
theorem jMw108 : jCw jm108 ∈ lw_tbl := jTb7 _ (List.mem_of_getElem? (i := 219) rfl)
theorem jMw109 : jCw jm109 ∈ lw_tbl := jTb7 _ (List.mem_of_getElem? (i := 227) rfl)
theorem jMw110 : jCw jm110 ∈ lw_tbl := jTb8 _ (List.mem_of_getElem? (i := 20) rfl)
theorem jMw111 : jCw jm111 ∈ lw_tbl := jTb8 _ (List.mem_of_getElem? (i := 24) rfl)
theorem jMw112 : jCw jm112 ∈ lw_tbl := jTb8 _ (List.mem_of_getElem? (i := 28) rfl)
theorem jMw113 : jCw jm113 ∈ lw_tbl := jTb8 _ (List.mem_of_getElem? (i := 32) rfl)
theorem jMw114 : jCw jm114 ∈ lw_tbl := jTb8 _ (List.mem_of_getElem? (i := 36) rfl)
theorem jMw115 : jCw jm115 ∈ lw_tbl := jTb8 _ (List.mem_of_getElem? (i := 40) rfl)
theorem jMw116 : jCw jm116 ∈ lw_tbl := jTb8 _ (List.mem_of_getElem? (i := 56) rfl)
theorem jMw117 : jCw jm117 ∈ lw_tbl := jTb7 _ (List.mem_of_getElem? (i := 239) rfl)
theorem jMw118 : jCw jm118 ∈ lw_tbl := jTb7 _ (List.mem_of_getElem? (i := 231) rfl)
theorem jMw119 : jCw jm119 ∈ lw_tbl := jTb7 _ (List.mem_of_getElem? (i := 235) rfl)
theorem jMw120 : jCw jm120 ∈ lw_tbl := jTb8 _ (List.mem_of_getElem? (i := 12) rfl)
theorem jMw121 : jCw jm121 ∈ lw_tbl := jTb8 _ (List.mem_of_getElem? (i := 16) rfl)
theorem jMw122 : jCw jm122 ∈ lw_tbl := jTb4 _ (List.mem_of_getElem? (i := 181) rfl)
theorem jMw123 : jCw jm123 ∈ lw_tbl := jTb4 _ (List.mem_of_getElem? (i := 190) rfl)
theorem jMw124 : jCw jm124 ∈ lw_tbl := jTb4 _ (List.mem_of_getElem? (i := 238) rfl)
theorem jMw125 : jCw jm125 ∈ lw_tbl := jTb4 _ (List.mem_of_getElem? (i := 194) rfl)
theorem jMw126 : jCw jm126 ∈ lw_tbl := jTb4 _ (List.mem_of_getElem? (i := 202) rfl)
theorem jMw127 : jCw jm127 ∈ lw_tbl := jTb4 _ (List.mem_of_getElem? (i := 198) rfl)
theorem jMw128 : jCw jm128 ∈ lw_tbl := jTb4 _ (List.mem_of_getElem? (i := 223) rfl)
theorem jMw129 : jCw jm129 ∈ lw_tbl := jTb4 _ (List.mem_of_getElem? (i := 235) rfl)
theorem jMw130 : jCw jm130 ∈ lw_tbl := jTb4 _ (List.mem_of_getElem? (i := 219) rfl)
theorem jMw131 : jCw jm131 ∈ lw_tbl := jTb4 _ (List.mem_of_getElem? (i := 227) rfl)
theorem jMw132 : jCw jm132 ∈ lw_tbl := jTb4 _ (List.mem_of_getElem? (i := 231) rfl)
theorem jMw133 : jCw jm133 ∈ lw_tbl := jTb4 _ (List.mem_of_getElem? (i := 207) rfl)
theorem jMw134 : jCw jm134 ∈ lw_tbl := jTb4 _ (List.mem_of_getElem? (i := 134) rfl)
theorem jMw135 : jCw jm135 ∈ lw_tbl := jTb6 _ (List.mem_of_getElem? (i := 186) rfl)
theorem jMw136 : jCw jm136 ∈ lw_tbl := jTb8 _ (List.mem_of_getElem? (i := 64) rfl)
theorem jMw137 : jCw jm137 ∈ lw_tbl := jTb8 _ (List.mem_of_getElem? (i := 81) rfl)
theorem jMw138 : jCw jm138 ∈ lw_tbl := jTb8 _ (List.mem_of_getElem? (i := 8) rfl)
theorem jMw139 : jCw jm139 ∈ lw_tbl := jTb8 _ (List.mem_of_getElem? (i := 48) rfl)
theorem jMw140 : jCw jm140 ∈ lw_tbl := jTb5 _ (List.mem_of_getElem? (i := 145) rfl)
theorem jMw141 : jCw jm141 ∈ lw_tbl := jTb6 _ (List.mem_of_getElem? (i := 178) rfl)
theorem jMw142 : jCw jm142 ∈ lw_tbl := jTb6 _ (List.mem_of_getElem? (i := 205) rfl)
theorem jMw143 : jCw jm143 ∈ lw_tbl := jTb7 _ (List.mem_of_getElem? (i := 46) rfl)
theorem jMw144 : jCw jm144 ∈ lw_tbl := jTb6 _ (List.mem_of_getElem? (i := 182) rfl)
theorem jMw145 : jCw jm145 ∈ lw_tbl := jTb8 _ (List.mem_of_getElem? (i := 4) rfl)
theorem jMw146 : jCw jm146 ∈ lw_tbl := jTb8 _ (List.mem_of_getElem? (i := 44) rfl)
theorem jMw147 : jCw jm147 ∈ lw_tbl := jTb7 _ (List.mem_of_getElem? (i := 128) rfl)
theorem jMw148 : jCw jm148 ∈ lw_tbl := jTb8 _ (List.mem_of_getElem? (i := 60) rfl)
theorem jMw149 : jCw jm149 ∈ lw_tbl := jTb8 _ (List.mem_of_getElem? (i := 104) rfl)
theorem jMw150 : jCw jm150 ∈ lw_tbl := jTb8 _ (List.mem_of_getElem? (i := 77) rfl)
theorem jMw151 : jCw jm151 ∈ lw_tbl := jTb8 _ (List.mem_of_getElem? (i := 85) rfl)
theorem jMw152 : jCw jm152 ∈ lw_tbl := jTb8 _ (List.mem_of_getElem? (i := 100) rfl)
theorem jMw153 : jCw jm153 ∈ lw_tbl := jTb2 _ (List.mem_of_getElem? (i := 168) rfl)
theorem jMw154 : jCw jm154 ∈ lw_tbl := jTb4 _ (List.mem_of_getElem? (i := 24) rfl)
theorem jMw155 : jCw jm155 ∈ lw_tbl := jTb4 _ (List.mem_of_getElem? (i := 80) rfl)
theorem jMw156 : jCw jm156 ∈ lw_tbl := jTb4 _ (List.mem_of_getElem? (i := 48) rfl)
theorem jMw157 : jCw jm157 ∈ lw_tbl := jTb4 _ (List.mem_of_getElem? (i := 44) rfl)
theorem jMw158 : jCw jm158 ∈ lw_tbl := jTb3 _ (List.mem_of_getElem? (i := 144) rfl)
theorem jMw159 : jCw jm159 ∈ lw_tbl := jTb2 _ (List.mem_of_getElem? (i := 136) rfl)
theorem jMw160 : jCw jm160 ∈ lw_tbl := jTb2 _ (List.mem_of_getElem? (i := 154) rfl)
theorem jMw161 : jCw jm161 ∈ lw_tbl := jTb2 _ (List.mem_of_getElem? (i := 160) rfl)
theorem jMw162 : jCw jm162 ∈ lw_tbl := jTb3 _ (List.mem_of_getElem? (i := 34) rfl)
theorem jMw163 : jCw jm163 ∈ lw_tbl := jTb3 _ (List.mem_of_getElem? (i := 30) rfl)
theorem jMw164 : jCw jm164 ∈ lw_tbl := jTb3 _ (List.mem_of_getElem? (i := 110) rfl)
theorem jMw165 : jCw jm165 ∈ lw_tbl := jTb3 _ (List.mem_of_getElem? (i := 130) rfl)
theorem jMw166 : jCw jm166 ∈ lw_tbl := jTb3 _ (List.mem_of_getElem? (i := 122) rfl)
theorem jMw167 : jCw jm167 ∈ lw_tbl := jTb3 _ (List.mem_of_getElem? (i := 118) rfl)
theorem jMw168 : jCw jm168 ∈ lw_tbl := jTb3 _ (List.mem_of_getElem? (i := 5) rfl)
theorem jMw169 : jCw jm169 ∈ lw_tbl := jTb4 _ (List.mem_of_getElem? (i := 16) rfl)
theorem jMw170 : jCw jm170 ∈ lw_tbl := jTb4 _ (List.mem_of_getElem? (i := 12) rfl)
theorem jMw171 : jCw jm171 ∈ lw_tbl := jTb3 _ (List.mem_of_getElem? (i := 26) rfl)
theorem jMw172 : jCw jm172 ∈ lw_tbl := jTb3 _ (List.mem_of_getElem? (i := 18) rfl)
theorem jMw173 : jCw jm173 ∈ lw_tbl := jTb3 _ (List.mem_of_getElem? (i := 106) rfl)
theorem jMw174 : jCw jm174 ∈ lw_tbl := jTb3 _ (List.mem_of_getElem? (i := 114) rfl)
theorem jMw175 : jCw jm175 ∈ lw_tbl := jTb4 _ (List.mem_of_getElem? (i := 125) rfl)
theorem jMw176 : jCw jm176 ∈ lw_tbl := jTb4 _ (List.mem_of_getElem? (i := 129) rfl)
theorem jMw177 : jCw jm177 ∈ lw_tbl := jTb3 _ (List.mem_of_getElem? (i := 126) rfl)
theorem jMw178 : jCw jm178 ∈ lw_tbl := jTb3 _ (List.mem_of_getElem? (i := 134) rfl)
theorem jMw179 : jCw jm179 ∈ lw_tbl := jTb3 _ (List.mem_of_getElem? (i := 138) rfl)
theorem jMw180 : jCw jm180 ∈ lw_tbl := jTb4 _ (List.mem_of_getElem? (i := 0) rfl)
theorem jMw181 : jCw jm181 ∈ lw_tbl := jTb4 _ (List.mem_of_getElem? (i := 92) rfl)
theorem jMw182 : jCw jm182 ∈ lw_tbl := jTb4 _ (List.mem_of_getElem? (i := 104) rfl)
theorem jMw183 : jCw jm183 ∈ lw_tbl := jTb4 _ (List.mem_of_getElem? (i := 100) rfl)
theorem jMw184 : jCw jm184 ∈ lw_tbl := jTb4 _ (List.mem_of_getElem? (i := 108) rfl)
theorem jMw185 : jCw jm185 ∈ lw_tbl := jTb4 _ (List.mem_of_getElem? (i := 96) rfl)
theorem jMw186 : jCw jm186 ∈ lw_tbl := jTb4 _ (List.mem_of_getElem? (i := 84) rfl)
theorem jMw187 : jCw jm187 ∈ lw_tbl := jTb4 _ (List.mem_of_getElem? (i := 113) rfl)
theorem jMw188 : jCw jm188 ∈ lw_tbl := jTb4 _ (List.mem_of_getElem? (i := 117) rfl)
theorem jMw189 : jCw jm189 ∈ lw_tbl := jTb4 _ (List.mem_of_getElem? (i := 121) rfl)
theorem jMw190 : jCw jm190 ∈ lw_tbl := jTb4 _ (List.mem_of_getElem? (i := 4) rfl)
theorem jMw191 : jCw jm191 ∈ lw_tbl := jTb4 _ (List.mem_of_getElem? (i := 72) rfl)
theorem jMw192 : jCw jm192 ∈ lw_tbl := jTb4 _ (List.mem_of_getElem? (i := 76) rfl)
theorem jMw193 : jCw jm193 ∈ lw_tbl := jTb4 _ (List.mem_of_getElem? (i := 20) rfl)
theorem jMw194 : jCw jm194 ∈ lw_tbl := jTb4 _ (List.mem_of_getElem? (i := 56) rfl)
theorem jMw195 : jCw jm195 ∈ lw_tbl := jTb4 _ (List.mem_of_getElem? (i := 8) rfl)
theorem jMw196 : jCw jm196 ∈ lw_tbl := jTb4 _ (List.mem_of_getElem? (i := 52) rfl)
theorem jMw197 : jCw jm197 ∈ lw_tbl := jTb4 _ (List.mem_of_getElem? (i := 88) rfl)
theorem jMw198 : jCw jm198 ∈ lw_tbl := jTb4 _ (List.mem_of_getElem? (i := 28) rfl)
theorem jMw199 : jCw jm199 ∈ lw_tbl := jTb4 _ (List.mem_of_getElem? (i := 60) rfl)
theorem jMw200 : jCw jm200 ∈ lw_tbl := jTb4 _ (List.mem_of_getElem? (i := 32) rfl)
theorem jMw201 : jCw jm201 ∈ lw_tbl := jTb4 _ (List.mem_of_getElem? (i := 64) rfl)
theorem jMw202 : jCw jm202 ∈ lw_tbl := jTb4 _ (List.mem_of_getElem? (i := 36) rfl)
theorem jMw203 : jCw jm203 ∈ lw_tbl := jTb4 _ (List.mem_of_getElem? (i := 40) rfl)
theorem jMw204 : jCw jm204 ∈ lw_tbl := jTb1 _ (List.mem_of_getElem? (i := 69) rfl)
theorem jMw205 : jCw jm205 ∈ lw_tbl := jTb5 _ (List.mem_of_getElem? (i := 2) rfl)
theorem jMw206 : jCw jm206 ∈ lw_tbl := jTb1 _ (List.mem_of_getElem? (i := 137) rfl)
theorem jMw207 : jCw jm207 ∈ lw_tbl := jTb3 _ (List.mem_of_getElem? (i := 22) rfl)
theorem jMw208 : jCw jm208 ∈ lw_tbl := jTb3 _ (List.mem_of_getElem? (i := 10) rfl)
theorem jMw209 : jCw jm209 ∈ lw_tbl := jTb3 _ (List.mem_of_getElem? (i := 14) rfl)
theorem jMw210 : jCw jm210 ∈ lw_tbl := jTb4 _ (List.mem_of_getElem? (i := 68) rfl)
theorem jMw211 : jCw jm211 ∈ lw_tbl := jTb1 _ (List.mem_of_getElem? (i := 212) rfl)
theorem jMw212 : jCw jm212 ∈ lw_tbl := jTb1 _ (List.mem_of_getElem? (i := 216) rfl)
theorem jMw213 : jCw jm213 ∈ lw_tbl := jTb1 _ (List.mem_of_getElem? (i := 220) rfl)
theorem jMw214 : jCw jm214 ∈ lw_tbl := jTb1 _ (List.mem_of_getElem? (i := 224) rfl)
theorem jMw215 : jCw jm215 ∈ lw_tbl := jTb2 _ (List.mem_of_getElem? (i := 82) rfl)
theorem jMw216 : jCw jm216 ∈ lw_tbl := jTb1 _ (List.mem_of_getElem? (i := 228) rfl)
theorem jMw217 : jCw jm217 ∈ lw_tbl := jTb2 _ (List.mem_of_getElem? (i := 85) rfl)
theorem jMw218 : jCw jm218 ∈ lw_tbl := jTb2 _ (List.mem_of_getElem? (i := 118) rfl)
theorem jMw219 : jCw jm219 ∈ lw_tbl := jTb1 _ (List.mem_of_getElem? (i := 232) rfl)
theorem jMw220 : jCw jm220 ∈ lw_tbl := jTb2 _ (List.mem_of_getElem? (i := 165) rfl)
theorem jMw221 : jCw jm221 ∈ lw_tbl := jTb2 _ (List.mem_of_getElem? (i := 89) rfl)
theorem jMw222 : jCw jm222 ∈ lw_tbl := jTb2 _ (List.mem_of_getElem? (i := 115) rfl)
theorem jMw223 : jCw jm223 ∈ lw_tbl := jTb2 _ (List.mem_of_getElem? (i := 122) rfl)
theorem jMw224 : jCw jm224 ∈ lw_tbl := jTb2 _ (List.mem_of_getElem? (i := 129) rfl)
theorem jMw225 : jCw jm225 ∈ lw_tbl := jTb5 _ (List.mem_of_getElem? (i := 7) rfl)
theorem jMw226 : jCw jm226 ∈ lw_tbl := jTb5 _ (List.mem_of_getElem? (i := 30) rfl)
theorem jMw227 : jCw jm227 ∈ lw_tbl := jTb5 _ (List.mem_of_getElem? (i := 54) rfl)
theorem jMw228 : jCw jm228 ∈ lw_tbl := jTb5 _ (List.mem_of_getElem? (i := 34) rfl)
theorem jMw229 : jCw jm229 ∈ lw_tbl := jTb5 _ (List.mem_of_getElem? (i := 91) rfl)
theorem jMw230 : jCw jm230 ∈ lw_tbl := jTb5 _ (List.mem_of_getElem? (i := 38) rfl)
theorem jMw231 : jCw jm231 ∈ lw_tbl := jTb5 _ (List.mem_of_getElem? (i := 42) rfl)
theorem jMw232 : jCw jm232 ∈ lw_tbl := jTb5 _ (List.mem_of_getElem? (i := 45) rfl)
theorem jMw233 : jCw jm233 ∈ lw_tbl := jTb5 _ (List.mem_of_getElem? (i := 50) rfl)
theorem jMw234 : jCw jm234 ∈ lw_tbl := jTb5 _ (List.mem_of_getElem? (i := 59) rfl)
theorem jMw235 : jCw jm235 ∈ lw_tbl := jTb5 _ (List.mem_of_getElem? (i := 63) rfl)
theorem jMw236 : jCw jm236 ∈ lw_tbl := jTb5 _ (List.mem_of_getElem? (i := 76) rfl)
theorem jMw237 : jCw jm237 ∈ lw_tbl := jTb5 _ (List.mem_of_getElem? (i := 80) rfl)
theorem jMw238 : jCw jm238 ∈ lw_tbl := jTb5 _ (List.mem_of_getElem? (i := 84) rfl)
theorem jMw239 : jCw jm239 ∈ lw_tbl := jTb5 _ (List.mem_of_getElem? (i := 87) rfl)
theorem jMw240 : jCw jm240 ∈ lw_tbl := jTb5 _ (List.mem_of_getElem? (i := 66) rfl)
theorem jMw241 : jCw jm241 ∈ lw_tbl := jTb5 _ (List.mem_of_getElem? (i := 69) rfl)
theorem jMw242 : jCw jm242 ∈ lw_tbl := jTb5 _ (List.mem_of_getElem? (i := 72) rfl)
theorem jMw243 : jCw jm243 ∈ lw_tbl := jTb8 _ (List.mem_of_getElem? (i := 166) rfl)
theorem jMw244 : jCw jm244 ∈ lw_tbl := jTb10 _ (List.mem_of_getElem? (i := 61) rfl)
theorem jMw245 : jCw jm245 ∈ lw_tbl := jTb10 _ (List.mem_of_getElem? (i := 75) rfl)
theorem jMw246 : jCw jm246 ∈ lw_tbl := jTb10 _ (List.mem_of_getElem? (i := 71) rfl)
theorem jMw247 : jCw jm247 ∈ lw_tbl := jTb10 _ (List.mem_of_getElem? (i := 68) rfl)
theorem jMw248 : jCw jm248 ∈ lw_tbl := jTb10 _ (List.mem_of_getElem? (i := 65) rfl)
theorem jMw249 : jCw jm249 ∈ lw_tbl := jTb10 _ (List.mem_of_getElem? (i := 79) rfl)
theorem jMw250 : jCw jm250 ∈ lw_tbl := jTb10 _ (List.mem_of_getElem? (i := 130) rfl)
theorem jMw251 : jCw jm251 ∈ lw_tbl := jTb10 _ (List.mem_of_getElem? (i := 126) rfl)
theorem jMw252 : jCw jm252 ∈ lw_tbl := jTb10 _ (List.mem_of_getElem? (i := 87) rfl)
theorem jMw253 : jCw jm253 ∈ lw_tbl := jTb10 _ (List.mem_of_getElem? (i := 142) rfl)
theorem jMw254 : jCw jm254 ∈ lw_tbl := jTb10 _ (List.mem_of_getElem? (i := 104) rfl)
theorem jMw255 : jCw jm255 ∈ lw_tbl := jTb10 _ (List.mem_of_getElem? (i := 149) rfl)
theorem jMw256 : jCw jm256 ∈ lw_tbl := jTb10 _ (List.mem_of_getElem? (i := 107) rfl)
theorem jMw257 : jCw jm257 ∈ lw_tbl := jTb10 _ (List.mem_of_getElem? (i := 101) rfl)
theorem jMw258 : jCw jm258 ∈ lw_tbl := jTb10 _ (List.mem_of_getElem? (i := 134) rfl)
theorem jMw259 : jCw jm259 ∈ lw_tbl := jTb10 _ (List.mem_of_getElem? (i := 138) rfl)
theorem jMw260 : jCw jm260 ∈ lw_tbl := jTb10 _ (List.mem_of_getElem? (i := 146) rfl)
theorem jMw261 : jCw jm261 ∈ lw_tbl := jTb10 _ (List.mem_of_getElem? (i := 95) rfl)
theorem jMw262 : jCw jm262 ∈ lw_tbl := jTb10 _ (List.mem_of_getElem? (i := 153) rfl)
theorem jMw263 : jCw jm263 ∈ lw_tbl := jTb10 _ (List.mem_of_getElem? (i := 158) rfl)
theorem jMw264 : jCw jm264 ∈ lw_tbl := jTb10 _ (List.mem_of_getElem? (i := 163) rfl)
theorem jMw265 : jCw jm265 ∈ lw_tbl := jTb10 _ (List.mem_of_getElem? (i := 173) rfl)
theorem jMw266 : jCw jm266 ∈ lw_tbl := jTb10 _ (List.mem_of_getElem? (i := 170) rfl)
theorem jMw267 : jCw jm267 ∈ lw_tbl := jTb10 _ (List.mem_of_getElem? (i := 179) rfl)
theorem jMw268 : jCw jm268 ∈ lw_tbl := jTb10 _ (List.mem_of_getElem? (i := 199) rfl)
theorem jMw269 : jCw jm269 ∈ lw_tbl := jTb10 _ (List.mem_of_getElem? (i := 195) rfl)
theorem jMw270 : jCw jm270 ∈ lw_tbl := jTb10 _ (List.mem_of_getElem? (i := 211) rfl)
theorem jMw271 : jCw jm271 ∈ lw_tbl := jTb11 _ (List.mem_of_getElem? (i := 7) rfl)
theorem jMw272 : jCw jm272 ∈ lw_tbl := jTb10 _ (List.mem_of_getElem? (i := 122) rfl)
theorem jMw273 : jCw jm273 ∈ lw_tbl := jTb11 _ (List.mem_of_getElem? (i := 68) rfl)
theorem jMw274 : jCw jm274 ∈ lw_tbl := jTb10 _ (List.mem_of_getElem? (i := 235) rfl)
theorem jMw275 : jCw jm275 ∈ lw_tbl := jTb10 _ (List.mem_of_getElem? (i := 118) rfl)
theorem jMw276 : jCw jm276 ∈ lw_tbl := jTb10 _ (List.mem_of_getElem? (i := 191) rfl)
theorem jMw277 : jCw jm277 ∈ lw_tbl := jTb10 _ (List.mem_of_getElem? (i := 113) rfl)
theorem jMw278 : jCw jm278 ∈ lw_tbl := jTb11 _ (List.mem_of_getElem? (i := 3) rfl)
theorem jMw279 : jCw jm279 ∈ lw_tbl := jTb10 _ (List.mem_of_getElem? (i := 231) rfl)
theorem jMw280 : jCw jm280 ∈ lw_tbl := jTb11 _ (List.mem_of_getElem? (i := 33) rfl)
theorem jMw281 : jCw jm281 ∈ lw_tbl := jTb11 _ (List.mem_of_getElem? (i := 51) rfl)
theorem jMw282 : jCw jm282 ∈ lw_tbl := jTb11 _ (List.mem_of_getElem? (i := 26) rfl)
theorem jMw283 : jCw jm283 ∈ lw_tbl := jTb11 _ (List.mem_of_getElem? (i := 48) rfl)
theorem jMw284 : jCw jm284 ∈ lw_tbl := jTb11 _ (List.mem_of_getElem? (i := 30) rfl)
theorem jMw285 : jCw jm285 ∈ lw_tbl := jTb11 _ (List.mem_of_getElem? (i := 41) rfl)
theorem jMw286 : jCw jm286 ∈ lw_tbl := jTb11 _ (List.mem_of_getElem? (i := 15) rfl)
theorem jMw287 : jCw jm287 ∈ lw_tbl := jTb11 _ (List.mem_of_getElem? (i := 37) rfl)
theorem jMw288 : jCw jm288 ∈ lw_tbl := jTb11 _ (List.mem_of_getElem? (i := 19) rfl)
theorem jMw289 : jCw jm289 ∈ lw_tbl := jTb11 _ (List.mem_of_getElem? (i := 23) rfl)
theorem jMw290 : jCw jm290 ∈ lw_tbl := jTb11 _ (List.mem_of_getElem? (i := 55) rfl)
theorem jMw291 : jCw jm291 ∈ lw_tbl := jTb11 _ (List.mem_of_getElem? (i := 45) rfl)
theorem jMw292 : jCw jm292 ∈ lw_tbl := jTb10 _ (List.mem_of_getElem? (i := 215) rfl)
theorem jMw293 : jCw jm293 ∈ lw_tbl := jTb10 _ (List.mem_of_getElem? (i := 207) rfl)
theorem jMw294 : jCw jm294 ∈ lw_tbl := jTb10 _ (List.mem_of_getElem? (i := 219) rfl)
theorem jMw295 : jCw jm295 ∈ lw_tbl := jTb10 _ (List.mem_of_getElem? (i := 223) rfl)
theorem jMw296 : jCw jm296 ∈ lw_tbl := jTb11 _ (List.mem_of_getElem? (i := 64) rfl)
theorem jMw297 : jCw jm297 ∈ lw_tbl := jTb11 _ (List.mem_of_getElem? (i := 59) rfl)
theorem jMw298 : jCw jm298 ∈ lw_tbl := jTb11 _ (List.mem_of_getElem? (i := 72) rfl)
theorem jMw299 : jCw jm299 ∈ lw_tbl := jTb11 _ (List.mem_of_getElem? (i := 76) rfl)
theorem jMw300 : jCw jm300 ∈ lw_tbl := jTb11 _ (List.mem_of_getElem? (i := 85) rfl)
theorem jMw301 : jCw jm301 ∈ lw_tbl := jTb11 _ (List.mem_of_getElem? (i := 81) rfl)
theorem jMw302 : jCw jm302 ∈ lw_tbl := jTb11 _ (List.mem_of_getElem? (i := 89) rfl)
theorem jMw303 : jCw jm303 ∈ lw_tbl := jTb11 _ (List.mem_of_getElem? (i := 93) rfl)
theorem jMw304 : jCw jm304 ∈ lw_tbl := jTb10 _ (List.mem_of_getElem? (i := 227) rfl)
theorem jMw305 : jCw jm305 ∈ lw_tbl := jTb10 _ (List.mem_of_getElem? (i := 239) rfl)
theorem jMw306 : jCw jm306 ∈ lw_tbl := jTb11 _ (List.mem_of_getElem? (i := 11) rfl)
theorem jMw307 : jCw jm307 ∈ lw_tbl := jTb10 _ (List.mem_of_getElem? (i := 187) rfl)
theorem jMw308 : jCw jm308 ∈ lw_tbl := jTb10 _ (List.mem_of_getElem? (i := 183) rfl)
theorem jMw309 : jCw jm309 ∈ lw_tbl := jTb10 _ (List.mem_of_getElem? (i := 203) rfl)
theorem jMw310 : jCw jm310 ∈ lw_tbl := jTb11 _ (List.mem_of_getElem? (i := 97) rfl)
theorem jMw311 : jCw jm311 ∈ lw_tbl := jTb11 _ (List.mem_of_getElem? (i := 101) rfl)
theorem jMw312 : jCw jm312 ∈ lw_tbl := jTb10 _ (List.mem_of_getElem? (i := 91) rfl)
theorem jMw313 : jCw jm313 ∈ lw_tbl := jTb11 _ (List.mem_of_getElem? (i := 109) rfl)
theorem jMw314 : jCw jm314 ∈ lw_tbl := jTb11 _ (List.mem_of_getElem? (i := 128) rfl)
theorem jMw315 : jCw jm315 ∈ lw_tbl := jTb11 _ (List.mem_of_getElem? (i := 125) rfl)
theorem jMw316 : jCw jm316 ∈ lw_tbl := jTb11 _ (List.mem_of_getElem? (i := 121) rfl)
theorem jMw317 : jCw jm317 ∈ lw_tbl := jTb11 _ (List.mem_of_getElem? (i := 117) rfl)
theorem jMw318 : jCw jm318 ∈ lw_tbl := jTb11 _ (List.mem_of_getElem? (i := 132) rfl)
theorem jMw319 : jCw jm319 ∈ lw_tbl := jTb11 _ (List.mem_of_getElem? (i := 140) rfl)
theorem jMw320 : jCw jm320 ∈ lw_tbl := jTb11 _ (List.mem_of_getElem? (i := 113) rfl)
theorem jMw321 : jCw jm321 ∈ lw_tbl := jTb11 _ (List.mem_of_getElem? (i := 144) rfl)
theorem jMw322 : jCw jm322 ∈ lw_tbl := jTb11 _ (List.mem_of_getElem? (i := 105) rfl)
theorem jMw323 : jCw jm323 ∈ lw_tbl := jTb11 _ (List.mem_of_getElem? (i := 164) rfl)
theorem jMw324 : jCw jm324 ∈ lw_tbl := jTb11 _ (List.mem_of_getElem? (i := 172) rfl)
theorem jMw325 : jCw jm325 ∈ lw_tbl := jTb11 _ (List.mem_of_getElem? (i := 168) rfl)
theorem jMw326 : jCw jm326 ∈ lw_tbl := jTb11 _ (List.mem_of_getElem? (i := 176) rfl)
theorem jMw327 : jCw jm327 ∈ lw_tbl := jTb11 _ (List.mem_of_getElem? (i := 160) rfl)
theorem jMw328 : jCw jm328 ∈ lw_tbl := jTb11 _ (List.mem_of_getElem? (i := 156) rfl)
theorem jMw329 : jCw jm329 ∈ lw_tbl := jTb11 _ (List.mem_of_getElem? (i := 152) rfl)
theorem jMw330 : jCw jm330 ∈ lw_tbl := jTb11 _ (List.mem_of_getElem? (i := 184) rfl)
theorem jMw331 : jCw jm331 ∈ lw_tbl := jTb11 _ (List.mem_of_getElem? (i := 180) rfl)
theorem jMw332 : jCw jm332 ∈ lw_tbl := jTb11 _ (List.mem_of_getElem? (i := 207) rfl)
theorem jMw333 : jCw jm333 ∈ lw_tbl := jTb11 _ (List.mem_of_getElem? (i := 196) rfl)
theorem jMw334 : jCw jm334 ∈ lw_tbl := jTb11 _ (List.mem_of_getElem? (i := 211) rfl)
theorem jMw335 : jCw jm335 ∈ lw_tbl := jTb11 _ (List.mem_of_getElem? (i := 215) rfl)
theorem jMw336 : jCw jm336 ∈ lw_tbl := jTb11 _ (List.mem_of_getElem? (i := 192) rfl)
theorem jMw337 : jCw jm337 ∈ lw_tbl := jTb11 _ (List.mem_of_getElem? (i := 200) rfl)
theorem jMw338 : jCw jm338 ∈ lw_tbl := jTb11 _ (List.mem_of_getElem? (i := 204) rfl)
theorem jMw339 : jCw jm339 ∈ lw_tbl := jTb11 _ (List.mem_of_getElem? (i := 188) rfl)
theorem jMw340 : jCw jm340 ∈ lw_tbl := jTb11 _ (List.mem_of_getElem? (i := 219) rfl)
theorem jMw341 : jCw jm341 ∈ lw_tbl := jTb11 _ (List.mem_of_getElem? (i := 148) rfl)
theorem jMw342 : jCw jm342 ∈ lw_tbl := jTb11 _ (List.mem_of_getElem? (i := 235) rfl)
theorem jMw343 : jCw jm343 ∈ lw_tbl := jTb12 _ (List.mem_of_getElem? (i := 7) rfl)
theorem jMw344 : jCw jm344 ∈ lw_tbl := jTb11 _ (List.mem_of_getElem? (i := 227) rfl)
theorem jMw345 : jCw jm345 ∈ lw_tbl := jTb11 _ (List.mem_of_getElem? (i := 231) rfl)
theorem jMw346 : jCw jm346 ∈ lw_tbl := jTb12 _ (List.mem_of_getElem? (i := 23) rfl)
theorem jMw347 : jCw jm347 ∈ lw_tbl := jTb12 _ (List.mem_of_getElem? (i := 47) rfl)
theorem jMw348 : jCw jm348 ∈ lw_tbl := jTb12 _ (List.mem_of_getElem? (i := 3) rfl)
theorem jMw349 : jCw jm349 ∈ lw_tbl := jTb12 _ (List.mem_of_getElem? (i := 15) rfl)
theorem jMw350 : jCw jm350 ∈ lw_tbl := jTb12 _ (List.mem_of_getElem? (i := 11) rfl)
theorem jMw351 : jCw jm351 ∈ lw_tbl := jTb12 _ (List.mem_of_getElem? (i := 19) rfl)
theorem jMw352 : jCw jm352 ∈ lw_tbl := jTb12 _ (List.mem_of_getElem? (i := 27) rfl)
theorem jMw353 : jCw jm353 ∈ lw_tbl := jTb11 _ (List.mem_of_getElem? (i := 239) rfl)
theorem jMw354 : jCw jm354 ∈ lw_tbl := jTb12 _ (List.mem_of_getElem? (i := 31) rfl)
theorem jMw355 : jCw jm355 ∈ lw_tbl := jTb12 _ (List.mem_of_getElem? (i := 35) rfl)
theorem jMw356 : jCw jm356 ∈ lw_tbl := jTb12 _ (List.mem_of_getElem? (i := 39) rfl)
theorem jMw357 : jCw jm357 ∈ lw_tbl := jTb12 _ (List.mem_of_getElem? (i := 51) rfl)
theorem jMw358 : jCw jm358 ∈ lw_tbl := jTb12 _ (List.mem_of_getElem? (i := 43) rfl)
theorem jMw359 : jCw jm359 ∈ lw_tbl := jTb12 _ (List.mem_of_getElem? (i := 55) rfl)
theorem jMw360 : jCw jm360 ∈ lw_tbl := jTb12 _ (List.mem_of_getElem? (i := 62) rfl)
theorem jMw361 : jCw jm361 ∈ lw_tbl := jTb12 _ (List.mem_of_getElem? (i := 66) rfl)
theorem jMw362 : jCw jm362 ∈ lw_tbl := jTb12 _ (List.mem_of_getElem? (i := 70) rfl)
theorem jMw363 : jCw jm363 ∈ lw_tbl := jTb12 _ (List.mem_of_getElem? (i := 59) rfl)
theorem jMw364 : jCw jm364 ∈ lw_tbl := jTb12 _ (List.mem_of_getElem? (i := 74) rfl)
theorem jMw365 : jCw jm365 ∈ lw_tbl := jTb11 _ (List.mem_of_getElem? (i := 223) rfl)
theorem jMw366 : jCw jm366 ∈ lw_tbl := jTb10 _ (List.mem_of_getElem? (i := 83) rfl)
theorem jMw367 : jCw jm367 ∈ lw_tbl := jTb12 _ (List.mem_of_getElem? (i := 82) rfl)
theorem jMw368 : jCw jm368 ∈ lw_tbl := jTb12 _ (List.mem_of_getElem? (i := 78) rfl)
theorem jMw369 : jCw jm369 ∈ lw_tbl := jTb12 _ (List.mem_of_getElem? (i := 94) rfl)
theorem jMw370 : jCw jm370 ∈ lw_tbl := jTb12 _ (List.mem_of_getElem? (i := 102) rfl)
theorem jMw371 : jCw jm371 ∈ lw_tbl := jTb12 _ (List.mem_of_getElem? (i := 106) rfl)
theorem jMw372 : jCw jm372 ∈ lw_tbl := jTb12 _ (List.mem_of_getElem? (i := 110) rfl)
theorem jMw373 : jCw jm373 ∈ lw_tbl := jTb12 _ (List.mem_of_getElem? (i := 114) rfl)
theorem jMw374 : jCw jm374 ∈ lw_tbl := jTb12 _ (List.mem_of_getElem? (i := 174) rfl)
theorem jMw375 : jCw jm375 ∈ lw_tbl := jTb12 _ (List.mem_of_getElem? (i := 150) rfl)
theorem jMw376 : jCw jm376 ∈ lw_tbl := jTb12 _ (List.mem_of_getElem? (i := 146) rfl)
theorem jMw377 : jCw jm377 ∈ lw_tbl := jTb12 _ (List.mem_of_getElem? (i := 138) rfl)
theorem jMw378 : jCw jm378 ∈ lw_tbl := jTb12 _ (List.mem_of_getElem? (i := 142) rfl)
theorem jMw379 : jCw jm379 ∈ lw_tbl := jTb12 _ (List.mem_of_getElem? (i := 126) rfl)
theorem jMw380 : jCw jm380 ∈ lw_tbl := jTb12 _ (List.mem_of_getElem? (i := 194) rfl)
theorem jMw381 : jCw jm381 ∈ lw_tbl := jTb12 _ (List.mem_of_getElem? (i := 134) rfl)
theorem jMw382 : jCw jm382 ∈ lw_tbl := jTb12 _ (List.mem_of_getElem? (i := 130) rfl)
theorem jMw383 : jCw jm383 ∈ lw_tbl := jTb12 _ (List.mem_of_getElem? (i := 154) rfl)
theorem jMw384 : jCw jm384 ∈ lw_tbl := jTb12 _ (List.mem_of_getElem? (i := 158) rfl)
theorem jMw385 : jCw jm385 ∈ lw_tbl := jTb12 _ (List.mem_of_getElem? (i := 166) rfl)
theorem jMw386 : jCw jm386 ∈ lw_tbl := jTb12 _ (List.mem_of_getElem? (i := 182) rfl)
theorem jMw387 : jCw jm387 ∈ lw_tbl := jTb12 _ (List.mem_of_getElem? (i := 170) rfl)
theorem jMw388 : jCw jm388 ∈ lw_tbl := jTb12 _ (List.mem_of_getElem? (i := 186) rfl)
theorem jMw389 : jCw jm389 ∈ lw_tbl := jTb12 _ (List.mem_of_getElem? (i := 190) rfl)
theorem jMw390 : jCw jm390 ∈ lw_tbl := jTb12 _ (List.mem_of_getElem? (i := 98) rfl)
theorem jMw391 : jCw jm391 ∈ lw_tbl := jTb12 _ (List.mem_of_getElem? (i := 162) rfl)
theorem jMw392 : jCw jm392 ∈ lw_tbl := jTb12 _ (List.mem_of_getElem? (i := 178) rfl)
theorem jMw393 : jCw jm393 ∈ lw_tbl := jTb12 _ (List.mem_of_getElem? (i := 206) rfl)
theorem jMw394 : jCw jm394 ∈ lw_tbl := jTb12 _ (List.mem_of_getElem? (i := 202) rfl)
theorem jMw395 : jCw jm395 ∈ lw_tbl := jTb12 _ (List.mem_of_getElem? (i := 214) rfl)
theorem jMw396 : jCw jm396 ∈ lw_tbl := jTb12 _ (List.mem_of_getElem? (i := 86) rfl)
theorem jMw397 : jCw jm397 ∈ lw_tbl := jTb12 _ (List.mem_of_getElem? (i := 90) rfl)
theorem jMw398 : jCw jm398 ∈ lw_tbl := jTb12 _ (List.mem_of_getElem? (i := 122) rfl)
theorem jMw399 : jCw jm399 ∈ lw_tbl := jTb12 _ (List.mem_of_getElem? (i := 118) rfl)
theorem jMw400 : jCw jm400 ∈ lw_tbl := jTb12 _ (List.mem_of_getElem? (i := 198) rfl)
theorem jMw401 : jCw jm401 ∈ lw_tbl := jTb12 _ (List.mem_of_getElem? (i := 210) rfl)
theorem jMw402 : jCw jm402 ∈ lw_tbl := jTb12 _ (List.mem_of_getElem? (i := 218) rfl)
theorem jMw403 : jCw jm403 ∈ lw_tbl := jTb12 _ (List.mem_of_getElem? (i := 222) rfl)
theorem jMw404 : jCw jm404 ∈ lw_tbl := jTb12 _ (List.mem_of_getElem? (i := 230) rfl)
theorem jMw405 : jCw jm405 ∈ lw_tbl := jTb12 _ (List.mem_of_getElem? (i := 226) rfl)
theorem jMw406 : jCw jm406 ∈ lw_tbl := jTb12 _ (List.mem_of_getElem? (i := 234) rfl)
theorem jMw407 : jCw jm407 ∈ lw_tbl := jTb12 _ (List.mem_of_getElem? (i := 238) rfl)
theorem jMw408 : jCw jm408 ∈ lw_tbl := jTb13 _ (List.mem_of_getElem? (i := 2) rfl)
theorem jMw409 : jCw jm409 ∈ lw_tbl := jTb13 _ (List.mem_of_getElem? (i := 6) rfl)
theorem jMw410 : jCw jm410 ∈ lw_tbl := jTb13 _ (List.mem_of_getElem? (i := 10) rfl)
theorem jMw411 : jCw jm411 ∈ lw_tbl := jTb13 _ (List.mem_of_getElem? (i := 14) rfl)
theorem jMw412 : jCw jm412 ∈ lw_tbl := jTb13 _ (List.mem_of_getElem? (i := 18) rfl)
theorem jMw413 : jCw jm413 ∈ lw_tbl := jTb1 _ (List.mem_of_getElem? (i := 141) rfl)
theorem jMw414 : jCw jm414 ∈ lw_tbl := jTb2 _ (List.mem_of_getElem? (i := 25) rfl)
theorem jMw415 : jCw jm415 ∈ lw_tbl := jTb6 _ (List.mem_of_getElem? (i := 193) rfl)
theorem jMw_c0 : ∀ e ∈ jMs0, ¬ e.1.name = "law" → jCw e ∈ lw_tbl := List.forall_mem_cons.mpr ⟨fun _ => jMw0, List.forall_mem_cons.mpr ⟨fun _ => jMw1, List.forall_mem_cons.mpr ⟨fun _ => jMw2, List.forall_mem_cons.mpr ⟨fun _ => jMw3, List.forall_mem_cons.mpr ⟨fun _ => jMw4, List.forall_mem_cons.mpr ⟨fun _ => jMw5, List.forall_mem_cons.mpr ⟨fun _ => jMw6, List.forall_mem_cons.mpr ⟨fun _ => jMw7, List.forall_mem_cons.mpr ⟨fun _ => jMw8, List.forall_mem_cons.mpr ⟨fun _ => jMw9, List.forall_mem_cons.mpr ⟨fun _ => jMw10, List.forall_mem_cons.mpr ⟨fun _ => jMw11, List.forall_mem_cons.mpr ⟨fun _ => jMw12, List.forall_mem_cons.mpr ⟨fun _ => jMw13, List.forall_mem_cons.mpr ⟨fun _ => jMw14, List.forall_mem_cons.mpr ⟨fun _ => jMw15, List.forall_mem_cons.mpr ⟨fun _ => jMw16, List.forall_mem_cons.mpr ⟨fun _ => jMw17, List.forall_mem_cons.mpr ⟨fun h => absurd rfl h, List.forall_mem_cons.mpr ⟨fun _ => jMw19, List.forall_mem_cons.mpr ⟨fun _ => jMw20, List.forall_mem_cons.mpr ⟨fun _ => jMw21, List.forall_mem_cons.mpr ⟨fun _ => jMw22, List.forall_mem_cons.mpr ⟨fun _ => jMw23, List.forall_mem_cons.mpr ⟨fun _ => jMw24, List.forall_mem_cons.mpr ⟨fun _ => jMw25, List.forall_mem_cons.mpr ⟨fun _ => jMw26, List.forall_mem_cons.mpr ⟨fun _ => jMw27, List.forall_mem_cons.mpr ⟨fun _ => jMw28, List.forall_mem_cons.mpr ⟨fun _ => jMw29, fun _ h => absurd h List.not_mem_nil⟩⟩⟩⟩⟩⟩⟩⟩⟩⟩⟩⟩⟩⟩⟩⟩⟩⟩⟩⟩⟩⟩⟩⟩⟩⟩⟩⟩⟩⟩
theorem jMw_c1 : ∀ e ∈ jMs1, ¬ e.1.name = "law" → jCw e ∈ lw_tbl := List.forall_mem_cons.mpr ⟨fun _ => jMw30, List.forall_mem_cons.mpr ⟨fun _ => jMw31, List.forall_mem_cons.mpr ⟨fun _ => jMw32, List.forall_mem_cons.mpr ⟨fun _ => jMw33, List.forall_mem_cons.mpr ⟨fun _ => jMw34, List.forall_mem_cons.mpr ⟨fun _ => jMw35, List.forall_mem_cons.mpr ⟨fun _ => jMw36, List.forall_mem_cons.mpr ⟨fun _ => jMw37, List.forall_mem_cons.mpr ⟨fun _ => jMw38, List.forall_mem_cons.mpr ⟨fun _ => jMw39, List.forall_mem_cons.mpr ⟨fun _ => jMw40, List.forall_mem_cons.mpr ⟨fun _ => jMw41, List.forall_mem_cons.mpr ⟨fun _ => jMw42, List.forall_mem_cons.mpr ⟨fun _ => jMw43, List.forall_mem_cons.mpr ⟨fun _ => jMw44, List.forall_mem_cons.mpr ⟨fun _ => jMw45, List.forall_mem_cons.mpr ⟨fun _ => jMw46, List.forall_mem_cons.mpr ⟨fun _ => jMw47, List.forall_mem_cons.mpr ⟨fun _ => jMw48, List.forall_mem_cons.mpr ⟨fun _ => jMw49, List.forall_mem_cons.mpr ⟨fun _ => jMw50, List.forall_mem_cons.mpr ⟨fun _ => jMw51, List.forall_mem_cons.mpr ⟨fun _ => jMw52, List.forall_mem_cons.mpr ⟨fun _ => jMw53, List.forall_mem_cons.mpr ⟨fun _ => jMw54, List.forall_mem_cons.mpr ⟨fun _ => jMw55, List.forall_mem_cons.mpr ⟨fun _ => jMw56, List.forall_mem_cons.mpr ⟨fun _ => jMw57, List.forall_mem_cons.mpr ⟨fun _ => jMw58, List.forall_mem_cons.mpr ⟨fun _ => jMw59, fun _ h => absurd h List.not_mem_nil⟩⟩⟩⟩⟩⟩⟩⟩⟩⟩⟩⟩⟩⟩⟩⟩⟩⟩⟩⟩⟩⟩⟩⟩⟩⟩⟩⟩⟩⟩
theorem jMw_c2 : ∀ e ∈ jMs2, ¬ e.1.name = "law" → jCw e ∈ lw_tbl := List.forall_mem_cons.mpr ⟨fun _ => jMw60, List.forall_mem_cons.mpr ⟨fun _ => jMw61, List.forall_mem_cons.mpr ⟨fun _ => jMw62, List.forall_mem_cons.mpr ⟨fun _ => jMw63, List.forall_mem_cons.mpr ⟨fun _ => jMw64, List.forall_mem_cons.mpr ⟨fun _ => jMw65, List.forall_mem_cons.mpr ⟨fun _ => jMw66, List.forall_mem_cons.mpr ⟨fun _ => jMw67, List.forall_mem_cons.mpr ⟨fun _ => jMw68, List.forall_mem_cons.mpr ⟨fun _ => jMw69, List.forall_mem_cons.mpr ⟨fun _ => jMw70, List.forall_mem_cons.mpr ⟨fun _ => jMw71, List.forall_mem_cons.mpr ⟨fun _ => jMw72, List.forall_mem_cons.mpr ⟨fun _ => jMw73, List.forall_mem_cons.mpr ⟨fun _ => jMw74, List.forall_mem_cons.mpr ⟨fun _ => jMw75, List.forall_mem_cons.mpr ⟨fun _ => jMw76, List.forall_mem_cons.mpr ⟨fun _ => jMw77, List.forall_mem_cons.mpr ⟨fun _ => jMw78, List.forall_mem_cons.mpr ⟨fun _ => jMw79, List.forall_mem_cons.mpr ⟨fun _ => jMw80, List.forall_mem_cons.mpr ⟨fun _ => jMw81, List.forall_mem_cons.mpr ⟨fun _ => jMw82, List.forall_mem_cons.mpr ⟨fun _ => jMw83, List.forall_mem_cons.mpr ⟨fun _ => jMw84, List.forall_mem_cons.mpr ⟨fun _ => jMw85, List.forall_mem_cons.mpr ⟨fun _ => jMw86, List.forall_mem_cons.mpr ⟨fun _ => jMw87, List.forall_mem_cons.mpr ⟨fun _ => jMw88, List.forall_mem_cons.mpr ⟨fun _ => jMw89, fun _ h => absurd h List.not_mem_nil⟩⟩⟩⟩⟩⟩⟩⟩⟩⟩⟩⟩⟩⟩⟩⟩⟩⟩⟩⟩⟩⟩⟩⟩⟩⟩⟩⟩⟩⟩
theorem jMw_c3 : ∀ e ∈ jMs3, ¬ e.1.name = "law" → jCw e ∈ lw_tbl := List.forall_mem_cons.mpr ⟨fun _ => jMw90, List.forall_mem_cons.mpr ⟨fun _ => jMw91, List.forall_mem_cons.mpr ⟨fun _ => jMw92, List.forall_mem_cons.mpr ⟨fun _ => jMw93, List.forall_mem_cons.mpr ⟨fun _ => jMw94, List.forall_mem_cons.mpr ⟨fun _ => jMw95, List.forall_mem_cons.mpr ⟨fun _ => jMw96, List.forall_mem_cons.mpr ⟨fun _ => jMw97, List.forall_mem_cons.mpr ⟨fun _ => jMw98, List.forall_mem_cons.mpr ⟨fun _ => jMw99, List.forall_mem_cons.mpr ⟨fun _ => jMw100, List.forall_mem_cons.mpr ⟨fun _ => jMw101, List.forall_mem_cons.mpr ⟨fun _ => jMw102, List.forall_mem_cons.mpr ⟨fun _ => jMw103, List.forall_mem_cons.mpr ⟨fun _ => jMw104, List.forall_mem_cons.mpr ⟨fun _ => jMw105, List.forall_mem_cons.mpr ⟨fun _ => jMw106, List.forall_mem_cons.mpr ⟨fun _ => jMw107, List.forall_mem_cons.mpr ⟨fun _ => jMw108, List.forall_mem_cons.mpr ⟨fun _ => jMw109, List.forall_mem_cons.mpr ⟨fun _ => jMw110, List.forall_mem_cons.mpr ⟨fun _ => jMw111, List.forall_mem_cons.mpr ⟨fun _ => jMw112, List.forall_mem_cons.mpr ⟨fun _ => jMw113, List.forall_mem_cons.mpr ⟨fun _ => jMw114, List.forall_mem_cons.mpr ⟨fun _ => jMw115, List.forall_mem_cons.mpr ⟨fun _ => jMw116, List.forall_mem_cons.mpr ⟨fun _ => jMw117, List.forall_mem_cons.mpr ⟨fun _ => jMw118, List.forall_mem_cons.mpr ⟨fun _ => jMw119, fun _ h => absurd h List.not_mem_nil⟩⟩⟩⟩⟩⟩⟩⟩⟩⟩⟩⟩⟩⟩⟩⟩⟩⟩⟩⟩⟩⟩⟩⟩⟩⟩⟩⟩⟩⟩
theorem jMw_c4 : ∀ e ∈ jMs4, ¬ e.1.name = "law" → jCw e ∈ lw_tbl := List.forall_mem_cons.mpr ⟨fun _ => jMw120, List.forall_mem_cons.mpr ⟨fun _ => jMw121, List.forall_mem_cons.mpr ⟨fun _ => jMw122, List.forall_mem_cons.mpr ⟨fun _ => jMw123, List.forall_mem_cons.mpr ⟨fun _ => jMw124, List.forall_mem_cons.mpr ⟨fun _ => jMw125, List.forall_mem_cons.mpr ⟨fun _ => jMw126, List.forall_mem_cons.mpr ⟨fun _ => jMw127, List.forall_mem_cons.mpr ⟨fun _ => jMw128, List.forall_mem_cons.mpr ⟨fun _ => jMw129, List.forall_mem_cons.mpr ⟨fun _ => jMw130, List.forall_mem_cons.mpr ⟨fun _ => jMw131, List.forall_mem_cons.mpr ⟨fun _ => jMw132, List.forall_mem_cons.mpr ⟨fun _ => jMw133, List.forall_mem_cons.mpr ⟨fun _ => jMw134, List.forall_mem_cons.mpr ⟨fun _ => jMw135, List.forall_mem_cons.mpr ⟨fun _ => jMw136, List.forall_mem_cons.mpr ⟨fun _ => jMw137, List.forall_mem_cons.mpr ⟨fun _ => jMw138, List.forall_mem_cons.mpr ⟨fun _ => jMw139, List.forall_mem_cons.mpr ⟨fun _ => jMw140, List.forall_mem_cons.mpr ⟨fun _ => jMw141, List.forall_mem_cons.mpr ⟨fun _ => jMw142, List.forall_mem_cons.mpr ⟨fun _ => jMw143, List.forall_mem_cons.mpr ⟨fun _ => jMw144, List.forall_mem_cons.mpr ⟨fun _ => jMw145, List.forall_mem_cons.mpr ⟨fun _ => jMw146, List.forall_mem_cons.mpr ⟨fun _ => jMw147, List.forall_mem_cons.mpr ⟨fun _ => jMw148, List.forall_mem_cons.mpr ⟨fun _ => jMw149, fun _ h => absurd h List.not_mem_nil⟩⟩⟩⟩⟩⟩⟩⟩⟩⟩⟩⟩⟩⟩⟩⟩⟩⟩⟩⟩⟩⟩⟩⟩⟩⟩⟩⟩⟩⟩
theorem jMw_c5 : ∀ e ∈ jMs5, ¬ e.1.name = "law" → jCw e ∈ lw_tbl := List.forall_mem_cons.mpr ⟨fun _ => jMw150, List.forall_mem_cons.mpr ⟨fun _ => jMw151, List.forall_mem_cons.mpr ⟨fun _ => jMw152, List.forall_mem_cons.mpr ⟨fun _ => jMw153, List.forall_mem_cons.mpr ⟨fun _ => jMw154, List.forall_mem_cons.mpr ⟨fun _ => jMw155, List.forall_mem_cons.mpr ⟨fun _ => jMw156, List.forall_mem_cons.mpr ⟨fun _ => jMw157, List.forall_mem_cons.mpr ⟨fun _ => jMw158, List.forall_mem_cons.mpr ⟨fun _ => jMw159, List.forall_mem_cons.mpr ⟨fun _ => jMw160, List.forall_mem_cons.mpr ⟨fun _ => jMw161, List.forall_mem_cons.mpr ⟨fun _ => jMw162, List.forall_mem_cons.mpr ⟨fun _ => jMw163, List.forall_mem_cons.mpr ⟨fun _ => jMw164, List.forall_mem_cons.mpr ⟨fun _ => jMw165, List.forall_mem_cons.mpr ⟨fun _ => jMw166, List.forall_mem_cons.mpr ⟨fun _ => jMw167, List.forall_mem_cons.mpr ⟨fun _ => jMw168, List.forall_mem_cons.mpr ⟨fun _ => jMw169, List.forall_mem_cons.mpr ⟨fun _ => jMw170, List.forall_mem_cons.mpr ⟨fun _ => jMw171, List.forall_mem_cons.mpr ⟨fun _ => jMw172, List.forall_mem_cons.mpr ⟨fun _ => jMw173, List.forall_mem_cons.mpr ⟨fun _ => jMw174, List.forall_mem_cons.mpr ⟨fun _ => jMw175, List.forall_mem_cons.mpr ⟨fun _ => jMw176, List.forall_mem_cons.mpr ⟨fun _ => jMw177, List.forall_mem_cons.mpr ⟨fun _ => jMw178, List.forall_mem_cons.mpr ⟨fun _ => jMw179, fun _ h => absurd h List.not_mem_nil⟩⟩⟩⟩⟩⟩⟩⟩⟩⟩⟩⟩⟩⟩⟩⟩⟩⟩⟩⟩⟩⟩⟩⟩⟩⟩⟩⟩⟩⟩
theorem jMw_c6 : ∀ e ∈ jMs6, ¬ e.1.name = "law" → jCw e ∈ lw_tbl := List.forall_mem_cons.mpr ⟨fun _ => jMw180, List.forall_mem_cons.mpr ⟨fun _ => jMw181, List.forall_mem_cons.mpr ⟨fun _ => jMw182, List.forall_mem_cons.mpr ⟨fun _ => jMw183, List.forall_mem_cons.mpr ⟨fun _ => jMw184, List.forall_mem_cons.mpr ⟨fun _ => jMw185, List.forall_mem_cons.mpr ⟨fun _ => jMw186, List.forall_mem_cons.mpr ⟨fun _ => jMw187, List.forall_mem_cons.mpr ⟨fun _ => jMw188, List.forall_mem_cons.mpr ⟨fun _ => jMw189, List.forall_mem_cons.mpr ⟨fun _ => jMw190, List.forall_mem_cons.mpr ⟨fun _ => jMw191, List.forall_mem_cons.mpr ⟨fun _ => jMw192, List.forall_mem_cons.mpr ⟨fun _ => jMw193, List.forall_mem_cons.mpr ⟨fun _ => jMw194, List.forall_mem_cons.mpr ⟨fun _ => jMw195, List.forall_mem_cons.mpr ⟨fun _ => jMw196, List.forall_mem_cons.mpr ⟨fun _ => jMw197, List.forall_mem_cons.mpr ⟨fun _ => jMw198, List.forall_mem_cons.mpr ⟨fun _ => jMw199, List.forall_mem_cons.mpr ⟨fun _ => jMw200, List.forall_mem_cons.mpr ⟨fun _ => jMw201, List.forall_mem_cons.mpr ⟨fun _ => jMw202, List.forall_mem_cons.mpr ⟨fun _ => jMw203, List.forall_mem_cons.mpr ⟨fun _ => jMw204, List.forall_mem_cons.mpr ⟨fun _ => jMw205, List.forall_mem_cons.mpr ⟨fun _ => jMw206, List.forall_mem_cons.mpr ⟨fun _ => jMw207, List.forall_mem_cons.mpr ⟨fun _ => jMw208, List.forall_mem_cons.mpr ⟨fun _ => jMw209, fun _ h => absurd h List.not_mem_nil⟩⟩⟩⟩⟩⟩⟩⟩⟩⟩⟩⟩⟩⟩⟩⟩⟩⟩⟩⟩⟩⟩⟩⟩⟩⟩⟩⟩⟩⟩
theorem jMw_c7 : ∀ e ∈ jMs7, ¬ e.1.name = "law" → jCw e ∈ lw_tbl := List.forall_mem_cons.mpr ⟨fun _ => jMw210, List.forall_mem_cons.mpr ⟨fun _ => jMw211, List.forall_mem_cons.mpr ⟨fun _ => jMw212, List.forall_mem_cons.mpr ⟨fun _ => jMw213, List.forall_mem_cons.mpr ⟨fun _ => jMw214, List.forall_mem_cons.mpr ⟨fun _ => jMw215, List.forall_mem_cons.mpr ⟨fun _ => jMw216, List.forall_mem_cons.mpr ⟨fun _ => jMw217, List.forall_mem_cons.mpr ⟨fun _ => jMw218, List.forall_mem_cons.mpr ⟨fun _ => jMw219, List.forall_mem_cons.mpr ⟨fun _ => jMw220, List.forall_mem_cons.mpr ⟨fun _ => jMw221, List.forall_mem_cons.mpr ⟨fun _ => jMw222, List.forall_mem_cons.mpr ⟨fun _ => jMw223, List.forall_mem_cons.mpr ⟨fun _ => jMw224, List.forall_mem_cons.mpr ⟨fun _ => jMw225, List.forall_mem_cons.mpr ⟨fun _ => jMw226, List.forall_mem_cons.mpr ⟨fun _ => jMw227, List.forall_mem_cons.mpr ⟨fun _ => jMw228, List.forall_mem_cons.mpr ⟨fun _ => jMw229, List.forall_mem_cons.mpr ⟨fun _ => jMw230, List.forall_mem_cons.mpr ⟨fun _ => jMw231, List.forall_mem_cons.mpr ⟨fun _ => jMw232, List.forall_mem_cons.mpr ⟨fun _ => jMw233, List.forall_mem_cons.mpr ⟨fun _ => jMw234, List.forall_mem_cons.mpr ⟨fun _ => jMw235, List.forall_mem_cons.mpr ⟨fun _ => jMw236, List.forall_mem_cons.mpr ⟨fun _ => jMw237, List.forall_mem_cons.mpr ⟨fun _ => jMw238, List.forall_mem_cons.mpr ⟨fun _ => jMw239, fun _ h => absurd h List.not_mem_nil⟩⟩⟩⟩⟩⟩⟩⟩⟩⟩⟩⟩⟩⟩⟩⟩⟩⟩⟩⟩⟩⟩⟩⟩⟩⟩⟩⟩⟩⟩
theorem jMw_c8 : ∀ e ∈ jMs8, ¬ e.1.name = "law" → jCw e ∈ lw_tbl := List.forall_mem_cons.mpr ⟨fun _ => jMw240, List.forall_mem_cons.mpr ⟨fun _ => jMw241, List.forall_mem_cons.mpr ⟨fun _ => jMw242, List.forall_mem_cons.mpr ⟨fun _ => jMw243, List.forall_mem_cons.mpr ⟨fun _ => jMw244, List.forall_mem_cons.mpr ⟨fun _ => jMw245, List.forall_mem_cons.mpr ⟨fun _ => jMw246, List.forall_mem_cons.mpr ⟨fun _ => jMw247, List.forall_mem_cons.mpr ⟨fun _ => jMw248, List.forall_mem_cons.mpr ⟨fun _ => jMw249, List.forall_mem_cons.mpr ⟨fun _ => jMw250, List.forall_mem_cons.mpr ⟨fun _ => jMw251, List.forall_mem_cons.mpr ⟨fun _ => jMw252, List.forall_mem_cons.mpr ⟨fun _ => jMw253, List.forall_mem_cons.mpr ⟨fun _ => jMw254, List.forall_mem_cons.mpr ⟨fun _ => jMw255, List.forall_mem_cons.mpr ⟨fun _ => jMw256, List.forall_mem_cons.mpr ⟨fun _ => jMw257, List.forall_mem_cons.mpr ⟨fun _ => jMw258, List.forall_mem_cons.mpr ⟨fun _ => jMw259, List.forall_mem_cons.mpr ⟨fun _ => jMw260, List.forall_mem_cons.mpr ⟨fun _ => jMw261, List.forall_mem_cons.mpr ⟨fun _ => jMw262, List.forall_mem_cons.mpr ⟨fun _ => jMw263, List.forall_mem_cons.mpr ⟨fun _ => jMw264, List.forall_mem_cons.mpr ⟨fun _ => jMw265, List.forall_mem_cons.mpr ⟨fun _ => jMw266, List.forall_mem_cons.mpr ⟨fun _ => jMw267, List.forall_mem_cons.mpr ⟨fun _ => jMw268, List.forall_mem_cons.mpr ⟨fun _ => jMw269, fun _ h => absurd h List.not_mem_nil⟩⟩⟩⟩⟩⟩⟩⟩⟩⟩⟩⟩⟩⟩⟩⟩⟩⟩⟩⟩⟩⟩⟩⟩⟩⟩⟩⟩⟩⟩
theorem jMw_c9 : ∀ e ∈ jMs9, ¬ e.1.name = "law" → jCw e ∈ lw_tbl := List.forall_mem_cons.mpr ⟨fun _ => jMw270, List.forall_mem_cons.mpr ⟨fun _ => jMw271, List.forall_mem_cons.mpr ⟨fun _ => jMw272, List.forall_mem_cons.mpr ⟨fun _ => jMw273, List.forall_mem_cons.mpr ⟨fun _ => jMw274, List.forall_mem_cons.mpr ⟨fun _ => jMw275, List.forall_mem_cons.mpr ⟨fun _ => jMw276, List.forall_mem_cons.mpr ⟨fun _ => jMw277, List.forall_mem_cons.mpr ⟨fun _ => jMw278, List.forall_mem_cons.mpr ⟨fun _ => jMw279, List.forall_mem_cons.mpr ⟨fun _ => jMw280, List.forall_mem_cons.mpr ⟨fun _ => jMw281, List.forall_mem_cons.mpr ⟨fun _ => jMw282, List.forall_mem_cons.mpr ⟨fun _ => jMw283, List.forall_mem_cons.mpr ⟨fun _ => jMw284, List.forall_mem_cons.mpr ⟨fun _ => jMw285, List.forall_mem_cons.mpr ⟨fun _ => jMw286, List.forall_mem_cons.mpr ⟨fun _ => jMw287, List.forall_mem_cons.mpr ⟨fun _ => jMw288, List.forall_mem_cons.mpr ⟨fun _ => jMw289, List.forall_mem_cons.mpr ⟨fun _ => jMw290, List.forall_mem_cons.mpr ⟨fun _ => jMw291, List.forall_mem_cons.mpr ⟨fun _ => jMw292, List.forall_mem_cons.mpr ⟨fun _ => jMw293, List.forall_mem_cons.mpr ⟨fun _ => jMw294, List.forall_mem_cons.mpr ⟨fun _ => jMw295, List.forall_mem_cons.mpr ⟨fun _ => jMw296, List.forall_mem_cons.mpr ⟨fun _ => jMw297, List.forall_mem_cons.mpr ⟨fun _ => jMw298, List.forall_mem_cons.mpr ⟨fun _ => jMw299, fun _ h => absurd h List.not_mem_nil⟩⟩⟩⟩⟩⟩⟩⟩⟩⟩⟩⟩⟩⟩⟩⟩⟩⟩⟩⟩⟩⟩⟩⟩⟩⟩⟩⟩⟩⟩
theorem jMw_c10 : ∀ e ∈ jMs10, ¬ e.1.name = "law" → jCw e ∈ lw_tbl := List.forall_mem_cons.mpr ⟨fun _ => jMw300, List.forall_mem_cons.mpr ⟨fun _ => jMw301, List.forall_mem_cons.mpr ⟨fun _ => jMw302, List.forall_mem_cons.mpr ⟨fun _ => jMw303, List.forall_mem_cons.mpr ⟨fun _ => jMw304, List.forall_mem_cons.mpr ⟨fun _ => jMw305, List.forall_mem_cons.mpr ⟨fun _ => jMw306, List.forall_mem_cons.mpr ⟨fun _ => jMw307, List.forall_mem_cons.mpr ⟨fun _ => jMw308, List.forall_mem_cons.mpr ⟨fun _ => jMw309, List.forall_mem_cons.mpr ⟨fun _ => jMw310, List.forall_mem_cons.mpr ⟨fun _ => jMw311, List.forall_mem_cons.mpr ⟨fun _ => jMw312, List.forall_mem_cons.mpr ⟨fun _ => jMw313, List.forall_mem_cons.mpr ⟨fun _ => jMw314, List.forall_mem_cons.mpr ⟨fun _ => jMw315, List.forall_mem_cons.mpr ⟨fun _ => jMw316, List.forall_mem_cons.mpr ⟨fun _ => jMw317, List.forall_mem_cons.mpr ⟨fun _ => jMw318, List.forall_mem_cons.mpr ⟨fun _ => jMw319, List.forall_mem_cons.mpr ⟨fun _ => jMw320, List.forall_mem_cons.mpr ⟨fun _ => jMw321, List.forall_mem_cons.mpr ⟨fun _ => jMw322, List.forall_mem_cons.mpr ⟨fun _ => jMw323, List.forall_mem_cons.mpr ⟨fun _ => jMw324, List.forall_mem_cons.mpr ⟨fun _ => jMw325, List.forall_mem_cons.mpr ⟨fun _ => jMw326, List.forall_mem_cons.mpr ⟨fun _ => jMw327, List.forall_mem_cons.mpr ⟨fun _ => jMw328, List.forall_mem_cons.mpr ⟨fun _ => jMw329, fun _ h => absurd h List.not_mem_nil⟩⟩⟩⟩⟩⟩⟩⟩⟩⟩⟩⟩⟩⟩⟩⟩⟩⟩⟩⟩⟩⟩⟩⟩⟩⟩⟩⟩⟩⟩
theorem jMw_c11 : ∀ e ∈ jMs11, ¬ e.1.name = "law" → jCw e ∈ lw_tbl := List.forall_mem_cons.mpr ⟨fun _ => jMw330, List.forall_mem_cons.mpr ⟨fun _ => jMw331, List.forall_mem_cons.mpr ⟨fun _ => jMw332, List.forall_mem_cons.mpr ⟨fun _ => jMw333, List.forall_mem_cons.mpr ⟨fun _ => jMw334, List.forall_mem_cons.mpr ⟨fun _ => jMw335, List.forall_mem_cons.mpr ⟨fun _ => jMw336, List.forall_mem_cons.mpr ⟨fun _ => jMw337, List.forall_mem_cons.mpr ⟨fun _ => jMw338, List.forall_mem_cons.mpr ⟨fun _ => jMw339, List.forall_mem_cons.mpr ⟨fun _ => jMw340, List.forall_mem_cons.mpr ⟨fun _ => jMw341, List.forall_mem_cons.mpr ⟨fun _ => jMw342, List.forall_mem_cons.mpr ⟨fun _ => jMw343, List.forall_mem_cons.mpr ⟨fun _ => jMw344, List.forall_mem_cons.mpr ⟨fun _ => jMw345, List.forall_mem_cons.mpr ⟨fun _ => jMw346, List.forall_mem_cons.mpr ⟨fun _ => jMw347, List.forall_mem_cons.mpr ⟨fun _ => jMw348, List.forall_mem_cons.mpr ⟨fun _ => jMw349, List.forall_mem_cons.mpr ⟨fun _ => jMw350, List.forall_mem_cons.mpr ⟨fun _ => jMw351, List.forall_mem_cons.mpr ⟨fun _ => jMw352, List.forall_mem_cons.mpr ⟨fun _ => jMw353, List.forall_mem_cons.mpr ⟨fun _ => jMw354, List.forall_mem_cons.mpr ⟨fun _ => jMw355, List.forall_mem_cons.mpr ⟨fun _ => jMw356, List.forall_mem_cons.mpr ⟨fun _ => jMw357, List.forall_mem_cons.mpr ⟨fun _ => jMw358, List.forall_mem_cons.mpr ⟨fun _ => jMw359, fun _ h => absurd h List.not_mem_nil⟩⟩⟩⟩⟩⟩⟩⟩⟩⟩⟩⟩⟩⟩⟩⟩⟩⟩⟩⟩⟩⟩⟩⟩⟩⟩⟩⟩⟩⟩
theorem jMw_c12 : ∀ e ∈ jMs12, ¬ e.1.name = "law" → jCw e ∈ lw_tbl := List.forall_mem_cons.mpr ⟨fun _ => jMw360, List.forall_mem_cons.mpr ⟨fun _ => jMw361, List.forall_mem_cons.mpr ⟨fun _ => jMw362, List.forall_mem_cons.mpr ⟨fun _ => jMw363, List.forall_mem_cons.mpr ⟨fun _ => jMw364, List.forall_mem_cons.mpr ⟨fun _ => jMw365, List.forall_mem_cons.mpr ⟨fun _ => jMw366, List.forall_mem_cons.mpr ⟨fun _ => jMw367, List.forall_mem_cons.mpr ⟨fun _ => jMw368, List.forall_mem_cons.mpr ⟨fun _ => jMw369, List.forall_mem_cons.mpr ⟨fun _ => jMw370, List.forall_mem_cons.mpr ⟨fun _ => jMw371, List.forall_mem_cons.mpr ⟨fun _ => jMw372, List.forall_mem_cons.mpr ⟨fun _ => jMw373, List.forall_mem_cons.mpr ⟨fun _ => jMw374, List.forall_mem_cons.mpr ⟨fun _ => jMw375, List.forall_mem_cons.mpr ⟨fun _ => jMw376, List.forall_mem_cons.mpr ⟨fun _ => jMw377, List.forall_mem_cons.mpr ⟨fun _ => jMw378, List.forall_mem_cons.mpr ⟨fun _ => jMw379, List.forall_mem_cons.mpr ⟨fun _ => jMw380, List.forall_mem_cons.mpr ⟨fun _ => jMw381, List.forall_mem_cons.mpr ⟨fun _ => jMw382, List.forall_mem_cons.mpr ⟨fun _ => jMw383, List.forall_mem_cons.mpr ⟨fun _ => jMw384, List.forall_mem_cons.mpr ⟨fun _ => jMw385, List.forall_mem_cons.mpr ⟨fun _ => jMw386, List.forall_mem_cons.mpr ⟨fun _ => jMw387, List.forall_mem_cons.mpr ⟨fun _ => jMw388, List.forall_mem_cons.mpr ⟨fun _ => jMw389, fun _ h => absurd h List.not_mem_nil⟩⟩⟩⟩⟩⟩⟩⟩⟩⟩⟩⟩⟩⟩⟩⟩⟩⟩⟩⟩⟩⟩⟩⟩⟩⟩⟩⟩⟩⟩
theorem jMw_c13 : ∀ e ∈ jMs13, ¬ e.1.name = "law" → jCw e ∈ lw_tbl := List.forall_mem_cons.mpr ⟨fun _ => jMw390, List.forall_mem_cons.mpr ⟨fun _ => jMw391, List.forall_mem_cons.mpr ⟨fun _ => jMw392, List.forall_mem_cons.mpr ⟨fun _ => jMw393, List.forall_mem_cons.mpr ⟨fun _ => jMw394, List.forall_mem_cons.mpr ⟨fun _ => jMw395, List.forall_mem_cons.mpr ⟨fun _ => jMw396, List.forall_mem_cons.mpr ⟨fun _ => jMw397, List.forall_mem_cons.mpr ⟨fun _ => jMw398, List.forall_mem_cons.mpr ⟨fun _ => jMw399, List.forall_mem_cons.mpr ⟨fun _ => jMw400, List.forall_mem_cons.mpr ⟨fun _ => jMw401, List.forall_mem_cons.mpr ⟨fun _ => jMw402, List.forall_mem_cons.mpr ⟨fun _ => jMw403, List.forall_mem_cons.mpr ⟨fun _ => jMw404, List.forall_mem_cons.mpr ⟨fun _ => jMw405, List.forall_mem_cons.mpr ⟨fun _ => jMw406, List.forall_mem_cons.mpr ⟨fun _ => jMw407, List.forall_mem_cons.mpr ⟨fun _ => jMw408, List.forall_mem_cons.mpr ⟨fun _ => jMw409, List.forall_mem_cons.mpr ⟨fun _ => jMw410, List.forall_mem_cons.mpr ⟨fun _ => jMw411, List.forall_mem_cons.mpr ⟨fun _ => jMw412, List.forall_mem_cons.mpr ⟨fun _ => jMw413, List.forall_mem_cons.mpr ⟨fun _ => jMw414, List.forall_mem_cons.mpr ⟨fun _ => jMw415, fun _ h => absurd h List.not_mem_nil⟩⟩⟩⟩⟩⟩⟩⟩⟩⟩⟩⟩⟩⟩⟩⟩⟩⟩⟩⟩⟩⟩⟩⟩⟩⟩
theorem jMw_ok : ∀ e ∈ jMs, ¬ e.1.name = "law" → jCw e ∈ lw_tbl := fun e h => by
  simp only [jMs, List.mem_append] at h
  rcases h with h | h | h | h | h | h | h | h | h | h | h | h | h | h
  · exact jMw_c0 e h
  · exact jMw_c1 e h
  · exact jMw_c2 e h
  · exact jMw_c3 e h
  · exact jMw_c4 e h
  · exact jMw_c5 e h
  · exact jMw_c6 e h
  · exact jMw_c7 e h
  · exact jMw_c8 e h
  · exact jMw_c9 e h
  · exact jMw_c10 e h
  · exact jMw_c11 e h
  · exact jMw_c12 e h
  · exact jMw_c13 e h
def jWn (e : jM) (st : Bool) : List Cond := if st then [.initialized e.1.cls, .static e.1] else if e.1.name = "<init>" then [.initialized e.1.cls, .instanceMethod e.1] else [.initialized e.1.cls, .instanceMethod e.1, .selects e.1.cls e.1 e.1]
def jSs : List Nat := [0, 1, 2, 3, 4, 5, 6, 7, 8, 9, 10, 11, 12, 13, 14, 15, 16, 17, 52, 56, 57, 58, 101, 124, 186, 217, 218, 220, 232, 236, 239, 240, 241, 242, 246, 247, 254, 255, 256, 257, 261, 265, 280, 281, 282, 283, 314, 318, 332, 360, 413, 414, 415]
set_option maxRecDepth 100000 in
theorem jWn0 : [0, 1, 2, 3, 4, 5, 6, 7, 8, 9, 10, 11, 12, 13, 14, 15, 16, 17, 19, 20, 21, 22, 23, 24, 25, 26, 27, 28, 29].flatMap (fun t => jWn (jMs.getD t jm0) (jSs.contains t)) = jTp [(1, 0), (6, 207), (1, 0), (7, 8), (1, 0), (7, 16), (1, 0), (7, 24), (1, 0), (7, 65), (1, 0), (7, 89), (1, 0), (7, 101), (1, 0), (7, 111), (1, 0), (7, 118), (1, 0), (7, 176), (1, 0), (8, 67), (1, 0), (8, 90), (1, 0), (8, 108), (1, 0), (8, 115), (1, 0), (8, 131), (1, 0), (8, 139), (1, 0), (8, 147), (1, 0), (8, 155), (1, 1), (1, 33), (1, 1), (6, 212), (6, 213), (1, 1), (7, 11), (7, 12), (1, 1), (1, 62), (1, 63), (1, 1), (7, 19), (7, 20), (1, 1), (7, 29), (7, 30), (1, 1), (7, 69), (7, 70), (1, 1), (7, 92), (7, 93), (1, 1), (7, 104), (7, 105), (1, 1), (7, 114), (7, 115), (1, 1), (7, 121), (7, 122)] := by decide +kernel
set_option maxRecDepth 100000 in
theorem jWn1 : [30, 31, 32, 33, 34, 35, 36, 37, 38, 39, 40, 41, 42, 43, 44, 45, 46, 47, 48, 49, 50, 51, 52, 53, 54, 55, 56, 57, 58, 59].flatMap (fun t => jWn (jMs.getD t jm0) (jSs.contains t)) = jTp [(1, 1), (7, 179), (7, 180), (1, 1), (8, 70), (8, 71), (1, 1), (8, 93), (8, 94), (1, 1), (8, 111), (8, 112), (1, 1), (8, 118), (8, 119), (1, 1), (8, 134), (8, 135), (1, 1), (8, 142), (8, 143), (1, 1), (8, 150), (8, 151), (1, 1), (8, 158), (8, 159), (1, 1), (7, 38), (0, 107), (1, 1), (7, 34), (0, 106), (1, 1), (5, 95), (0, 73), (1, 22), (5, 100), (1, 22), (5, 187), (5, 188), (1, 22), (6, 89), (6, 90), (1, 22), (6, 77), (6, 78), (1, 22), (5, 200), (0, 76), (1, 22), (5, 213), (0, 79), (1, 22), (6, 5), (0, 87), (1, 22), (5, 192), (0, 74), (1, 22), (5, 196), (0, 75), (1, 22), (6, 66), (0, 101), (1, 22), (6, 57), (1, 22), (6, 62), (0, 100), (1, 22), (6, 70), (0, 102), (1, 22), (6, 83), (0, 103), (1, 22), (6, 86), (1, 22), (4, 212), (1, 22), (4, 209), (1, 22), (5, 221), (0, 81)] := by decide +kernel
set_option maxRecDepth 100000 in
theorem jWn2 : [60, 61, 62, 63, 64, 65, 66, 67, 68, 69, 70, 71, 72, 73, 74, 75, 76, 77, 78, 79, 80, 81, 82, 83, 84, 85, 86, 87, 88, 89].flatMap (fun t => jWn (jMs.getD t jm0) (jSs.contains t)) = jTp [(1, 22), (5, 225), (0, 82), (1, 22), (5, 233), (0, 84), (1, 22), (5, 229), (0, 83), (1, 22), (5, 237), (0, 85), (1, 22), (6, 1), (0, 86), (1, 22), (6, 10), (0, 88), (1, 22), (5, 204), (0, 77), (1, 22), (5, 208), (0, 78), (1, 22), (5, 217), (0, 80), (1, 22), (6, 14), (0, 89), (1, 22), (6, 18), (0, 90), (1, 22), (6, 22), (0, 91), (1, 22), (6, 26), (0, 92), (1, 22), (6, 30), (0, 93), (1, 22), (6, 34), (0, 94), (1, 22), (6, 38), (0, 95), (1, 22), (6, 42), (0, 96), (1, 22), (6, 46), (0, 97), (1, 22), (6, 50), (0, 98), (1, 22), (6, 54), (0, 99), (1, 25), (6, 93), (1, 25), (6, 188), (6, 189), (1, 25), (6, 200), (0, 105), (1, 25), (8, 123), (8, 124), (1, 25), (8, 127), (8, 128), (1, 25), (7, 97), (7, 98), (1, 25), (7, 135), (0, 108), (1, 25), (6, 196), (0, 104), (1, 25), (7, 206), (0, 119), (1, 25), (7, 210), (0, 120)] := by decide +kernel
set_option maxRecDepth 100000 in
theorem jWn3 : [90, 91, 92, 93, 94, 95, 96, 97, 98, 99, 100, 101, 102, 103, 104, 105, 106, 107, 108, 109, 110, 111, 112, 113, 114, 115, 116, 117, 118, 119].flatMap (fun t => jWn (jMs.getD t jm0) (jSs.contains t)) = jTp [(1, 25), (7, 214), (0, 121), (1, 25), (7, 222), (0, 123), (1, 25), (7, 165), (0, 112), (1, 25), (7, 150), (0, 111), (1, 25), (7, 146), (0, 110), (1, 25), (7, 169), (0, 113), (1, 25), (7, 173), (0, 114), (1, 25), (7, 160), (7, 161), (1, 25), (7, 189), (0, 115), (1, 25), (7, 202), (0, 118), (1, 25), (8, 51), (0, 136), (1, 25), (7, 138), (1, 25), (7, 142), (0, 109), (1, 25), (7, 130), (7, 131), (1, 25), (7, 156), (7, 157), (1, 25), (7, 184), (7, 185), (1, 25), (7, 194), (0, 116), (1, 25), (7, 198), (0, 117), (1, 25), (7, 218), (0, 122), (1, 25), (7, 226), (0, 124), (1, 25), (8, 19), (0, 130), (1, 25), (8, 23), (0, 131), (1, 25), (8, 27), (0, 132), (1, 25), (8, 31), (0, 133), (1, 25), (8, 35), (0, 134), (1, 25), (8, 39), (0, 135), (1, 25), (8, 55), (0, 137), (1, 25), (7, 238), (0, 127), (1, 25), (7, 230), (0, 125), (1, 25), (7, 234), (0, 126)] := by decide +kernel
set_option maxRecDepth 100000 in
theorem jWn4 : [120, 121, 122, 123, 124, 125, 126, 127, 128, 129, 130, 131, 132, 133, 134, 135, 136, 137, 138, 139, 140, 141, 142, 143, 144, 145, 146, 147, 148, 149].flatMap (fun t => jWn (jMs.getD t jm0) (jSs.contains t)) = jTp [(1, 25), (8, 11), (0, 128), (1, 25), (8, 15), (0, 129), (1, 21), (4, 180), (1, 21), (4, 188), (4, 189), (1, 21), (4, 237), (1, 21), (4, 193), (0, 54), (1, 21), (4, 201), (0, 56), (1, 21), (4, 197), (0, 55), (1, 21), (4, 222), (0, 59), (1, 21), (4, 234), (0, 62), (1, 21), (4, 218), (0, 58), (1, 21), (4, 226), (0, 60), (1, 21), (4, 230), (0, 61), (1, 21), (4, 206), (0, 57), (1, 20), (4, 133), (1, 20), (6, 184), (6, 185), (1, 20), (8, 62), (8, 63), (1, 20), (8, 79), (8, 80), (1, 20), (8, 6), (8, 7), (1, 20), (8, 46), (8, 47), (1, 24), (5, 144), (1, 24), (6, 176), (6, 177), (1, 24), (6, 203), (6, 204), (1, 24), (7, 44), (7, 45), (1, 24), (6, 180), (6, 181), (1, 24), (8, 2), (8, 3), (1, 24), (8, 42), (8, 43), (1, 24), (7, 126), (7, 127), (1, 24), (8, 58), (8, 59), (1, 24), (8, 102), (8, 103)] := by decide +kernel
set_option maxRecDepth 100000 in
theorem jWn5 : [150, 151, 152, 153, 154, 155, 156, 157, 158, 159, 160, 161, 162, 163, 164, 165, 166, 167, 168, 169, 170, 171, 172, 173, 174, 175, 176, 177, 178, 179].flatMap (fun t => jWn (jMs.getD t jm0) (jSs.contains t)) = jTp [(1, 24), (8, 75), (8, 76), (1, 24), (8, 84), (0, 138), (1, 24), (8, 98), (8, 99), (1, 17), (2, 167), (1, 17), (4, 22), (4, 23), (1, 17), (4, 78), (4, 79), (1, 17), (4, 46), (4, 47), (1, 17), (4, 42), (4, 43), (1, 19), (3, 143), (1, 16), (2, 135), (1, 16), (2, 152), (2, 153), (1, 16), (2, 159), (0, 10), (1, 16), (3, 33), (0, 16), (1, 16), (3, 29), (0, 15), (1, 16), (3, 109), (0, 19), (1, 16), (3, 129), (0, 24), (1, 16), (3, 121), (0, 22), (1, 16), (3, 117), (0, 21), (1, 16), (3, 4), (0, 11), (1, 16), (4, 15), (0, 31), (1, 16), (4, 11), (0, 30), (1, 16), (3, 25), (0, 14), (1, 16), (3, 17), (0, 13), (1, 16), (3, 105), (0, 18), (1, 16), (3, 113), (0, 20), (1, 16), (4, 124), (0, 52), (1, 16), (4, 128), (0, 53), (1, 16), (3, 125), (0, 23), (1, 16), (3, 133), (0, 25), (1, 16), (3, 137), (0, 26)] := by decide +kernel
set_option maxRecDepth 100000 in
theorem jWn6 : [180, 181, 182, 183, 184, 185, 186, 187, 188, 189, 190, 191, 192, 193, 194, 195, 196, 197, 198, 199, 200, 201, 202, 203, 204, 205, 206, 207, 208, 209].flatMap (fun t => jWn (jMs.getD t jm0) (jSs.contains t)) = jTp [(1, 16), (3, 239), (0, 27), (1, 16), (4, 91), (0, 44), (1, 16), (4, 103), (0, 47), (1, 16), (4, 99), (0, 46), (1, 16), (4, 107), (0, 48), (1, 16), (4, 95), (0, 45), (1, 16), (4, 83), (1, 16), (4, 112), (0, 49), (1, 16), (4, 116), (0, 50), (1, 16), (4, 120), (0, 51), (1, 16), (4, 3), (0, 28), (1, 16), (4, 71), (0, 41), (1, 16), (4, 75), (0, 42), (1, 16), (4, 19), (0, 32), (1, 16), (4, 55), (0, 38), (1, 16), (4, 7), (0, 29), (1, 16), (4, 51), (0, 37), (1, 16), (4, 87), (0, 43), (1, 16), (4, 27), (0, 33), (1, 16), (4, 59), (0, 39), (1, 16), (4, 31), (0, 34), (1, 16), (4, 63), (0, 40), (1, 16), (4, 35), (0, 35), (1, 16), (4, 39), (0, 36), (1, 8), (1, 68), (1, 8), (5, 0), (5, 1), (1, 9), (1, 136), (1, 9), (3, 20), (3, 21), (1, 9), (3, 8), (3, 9), (1, 9), (3, 13), (0, 12)] := by decide +kernel
set_option maxRecDepth 100000 in
theorem jWn7 : [210, 211, 212, 213, 214, 215, 216, 217, 218, 219, 220, 221, 222, 223, 224, 225, 226, 227, 228, 229, 230, 231, 232, 233, 234, 235, 236, 237, 238, 239].flatMap (fun t => jWn (jMs.getD t jm0) (jSs.contains t)) = jTp [(1, 9), (4, 66), (4, 67), (1, 9), (1, 210), (1, 211), (1, 9), (1, 215), (0, 0), (1, 9), (1, 219), (0, 1), (1, 9), (1, 223), (0, 2), (1, 9), (2, 81), (0, 5), (1, 9), (1, 227), (0, 3), (1, 9), (2, 84), (1, 9), (2, 117), (1, 9), (1, 231), (0, 4), (1, 9), (2, 164), (1, 9), (2, 88), (0, 6), (1, 9), (2, 114), (0, 7), (1, 9), (2, 121), (0, 8), (1, 9), (2, 128), (0, 9), (1, 23), (5, 6), (1, 23), (5, 28), (5, 29), (1, 23), (5, 53), (0, 67), (1, 23), (5, 33), (0, 63), (1, 23), (5, 90), (0, 72), (1, 23), (5, 37), (0, 64), (1, 23), (5, 41), (0, 65), (1, 23), (5, 44), (1, 23), (5, 49), (0, 66), (1, 23), (5, 58), (0, 68), (1, 23), (5, 62), (0, 69), (1, 23), (5, 75), (1, 23), (5, 79), (0, 70), (1, 23), (5, 83), (0, 71), (1, 23), (5, 86)] := by decide +kernel
set_option maxRecDepth 100000 in
theorem jWn8 : [240, 241, 242, 243, 244, 245, 246, 247, 248, 249, 250, 251, 252, 253, 254, 255, 256, 257, 258, 259, 260, 261, 262, 263, 264, 265, 266, 267, 268, 269].flatMap (fun t => jWn (jMs.getD t jm0) (jSs.contains t)) = jTp [(1, 23), (5, 65), (1, 23), (5, 68), (1, 23), (5, 71), (1, 2), (8, 165), (1, 2), (10, 59), (10, 60), (1, 2), (10, 74), (0, 139), (1, 2), (10, 70), (1, 2), (10, 67), (1, 2), (10, 63), (10, 64), (1, 2), (10, 77), (10, 78), (1, 2), (10, 129), (0, 146), (1, 2), (10, 125), (0, 145), (1, 2), (10, 86), (0, 140), (1, 2), (10, 141), (0, 149), (1, 2), (10, 103), (1, 2), (10, 148), (1, 2), (10, 106), (1, 2), (10, 100), (1, 2), (10, 133), (0, 147), (1, 2), (10, 137), (0, 148), (1, 2), (10, 145), (0, 150), (1, 2), (10, 94), (1, 2), (10, 152), (0, 151), (1, 2), (10, 157), (0, 152), (1, 2), (10, 162), (0, 153), (1, 2), (10, 172), (1, 2), (10, 169), (0, 154), (1, 2), (10, 178), (0, 155), (1, 2), (10, 198), (0, 160), (1, 2), (10, 194), (0, 159)] := by decide +kernel
set_option maxRecDepth 100000 in
theorem jWn9 : [270, 271, 272, 273, 274, 275, 276, 277, 278, 279, 280, 281, 282, 283, 284, 285, 286, 287, 288, 289, 290, 291, 292, 293, 294, 295, 296, 297, 298, 299].flatMap (fun t => jWn (jMs.getD t jm0) (jSs.contains t)) = jTp [(1, 2), (10, 210), (0, 163), (1, 2), (11, 6), (0, 172), (1, 2), (10, 121), (0, 144), (1, 2), (11, 67), (0, 184), (1, 2), (10, 234), (0, 169), (1, 2), (10, 117), (0, 143), (1, 2), (10, 190), (0, 158), (1, 2), (10, 112), (0, 142), (1, 2), (11, 2), (0, 171), (1, 2), (10, 230), (0, 168), (1, 2), (11, 32), (1, 2), (11, 50), (1, 2), (11, 25), (1, 2), (11, 47), (1, 2), (11, 29), (0, 177), (1, 2), (11, 40), (0, 179), (1, 2), (11, 14), (0, 174), (1, 2), (11, 36), (0, 178), (1, 2), (11, 18), (0, 175), (1, 2), (11, 22), (0, 176), (1, 2), (11, 54), (0, 181), (1, 2), (11, 44), (0, 180), (1, 2), (10, 214), (0, 164), (1, 2), (10, 206), (0, 162), (1, 2), (10, 218), (0, 165), (1, 2), (10, 222), (0, 166), (1, 2), (11, 63), (0, 183), (1, 2), (11, 58), (0, 182), (1, 2), (11, 71), (0, 185), (1, 2), (11, 75), (0, 186)] := by decide +kernel
set_option maxRecDepth 100000 in
theorem jWn10 : [300, 301, 302, 303, 304, 305, 306, 307, 308, 309, 310, 311, 312, 313, 314, 315, 316, 317, 318, 319, 320, 321, 322, 323, 324, 325, 326, 327, 328, 329].flatMap (fun t => jWn (jMs.getD t jm0) (jSs.contains t)) = jTp [(1, 2), (11, 84), (0, 188), (1, 2), (11, 80), (0, 187), (1, 2), (11, 88), (0, 189), (1, 2), (11, 92), (0, 190), (1, 2), (10, 226), (0, 167), (1, 2), (10, 238), (0, 170), (1, 2), (11, 10), (0, 173), (1, 2), (10, 186), (0, 157), (1, 2), (10, 182), (0, 156), (1, 2), (10, 202), (0, 161), (1, 2), (11, 96), (0, 191), (1, 2), (11, 100), (0, 192), (1, 2), (10, 90), (0, 141), (1, 2), (11, 108), (0, 194), (1, 2), (11, 127), (1, 2), (11, 124), (0, 198), (1, 2), (11, 120), (0, 197), (1, 2), (11, 116), (0, 196), (1, 2), (11, 131), (1, 2), (11, 139), (0, 199), (1, 2), (11, 112), (0, 195), (1, 2), (11, 143), (0, 200), (1, 2), (11, 104), (0, 193), (1, 2), (11, 163), (0, 205), (1, 2), (11, 171), (0, 207), (1, 2), (11, 167), (0, 206), (1, 2), (11, 175), (0, 208), (1, 2), (11, 159), (0, 204), (1, 2), (11, 155), (0, 203), (1, 2), (11, 151), (0, 202)] := by decide +kernel
set_option maxRecDepth 100000 in
theorem jWn11 : [330, 331, 332, 333, 334, 335, 336, 337, 338, 339, 340, 341, 342, 343, 344, 345, 346, 347, 348, 349, 350, 351, 352, 353, 354, 355, 356, 357, 358, 359].flatMap (fun t => jWn (jMs.getD t jm0) (jSs.contains t)) = jTp [(1, 2), (11, 183), (0, 210), (1, 2), (11, 179), (0, 209), (1, 2), (11, 206), (1, 2), (11, 195), (0, 213), (1, 2), (11, 210), (0, 216), (1, 2), (11, 214), (0, 217), (1, 2), (11, 191), (0, 212), (1, 2), (11, 199), (0, 214), (1, 2), (11, 203), (0, 215), (1, 2), (11, 187), (0, 211), (1, 2), (11, 218), (0, 218), (1, 2), (11, 147), (0, 201), (1, 2), (11, 234), (0, 222), (1, 2), (12, 6), (0, 225), (1, 2), (11, 226), (0, 220), (1, 2), (11, 230), (0, 221), (1, 2), (12, 22), (0, 229), (1, 2), (12, 46), (0, 235), (1, 2), (12, 2), (0, 224), (1, 2), (12, 14), (0, 227), (1, 2), (12, 10), (0, 226), (1, 2), (12, 18), (0, 228), (1, 2), (12, 26), (0, 230), (1, 2), (11, 238), (0, 223), (1, 2), (12, 30), (0, 231), (1, 2), (12, 34), (0, 232), (1, 2), (12, 38), (0, 233), (1, 2), (12, 50), (0, 236), (1, 2), (12, 42), (0, 234), (1, 2), (12, 54), (0, 237)] := by decide +kernel
set_option maxRecDepth 100000 in
theorem jWn12 : [360, 361, 362, 363, 364, 365, 366, 367, 368, 369, 370, 371, 372, 373, 374, 375, 376, 377, 378, 379, 380, 381, 382, 383, 384, 385, 386, 387, 388, 389].flatMap (fun t => jWn (jMs.getD t jm0) (jSs.contains t)) = jTp [(1, 2), (12, 61), (1, 2), (12, 65), (0, 239), (1, 2), (12, 69), (0, 240), (1, 2), (12, 58), (0, 238), (1, 2), (12, 73), (0, 241), (1, 2), (11, 222), (0, 219), (1, 2), (10, 81), (10, 82), (1, 2), (12, 80), (12, 81), (1, 2), (12, 77), (0, 242), (1, 2), (12, 93), (0, 243), (1, 2), (12, 101), (0, 245), (1, 2), (12, 105), (0, 246), (1, 2), (12, 109), (0, 247), (1, 2), (12, 113), (0, 248), (1, 2), (12, 173), (0, 262), (1, 2), (12, 149), (0, 256), (1, 2), (12, 145), (0, 255), (1, 2), (12, 137), (0, 253), (1, 2), (12, 141), (0, 254), (1, 2), (12, 125), (0, 250), (1, 2), (12, 193), (0, 267), (1, 2), (12, 133), (0, 252), (1, 2), (12, 129), (0, 251), (1, 2), (12, 153), (0, 257), (1, 2), (12, 157), (0, 258), (1, 2), (12, 165), (0, 260), (1, 2), (12, 181), (0, 264), (1, 2), (12, 169), (0, 261), (1, 2), (12, 185), (0, 265), (1, 2), (12, 189), (0, 266)] := by decide +kernel
set_option maxRecDepth 100000 in
theorem jWn13 : [390, 391, 392, 393, 394, 395, 396, 397, 398, 399, 400, 401, 402, 403, 404, 405, 406, 407, 408, 409, 410, 411, 412, 413, 414, 415].flatMap (fun t => jWn (jMs.getD t jm0) (jSs.contains t)) = jTp [(1, 2), (12, 97), (0, 244), (1, 2), (12, 161), (0, 259), (1, 2), (12, 177), (0, 263), (1, 2), (12, 205), (0, 269), (1, 2), (12, 201), (0, 268), (1, 2), (12, 213), (0, 270), (1, 2), (12, 84), (12, 85), (1, 2), (12, 88), (12, 89), (1, 2), (12, 121), (0, 249), (1, 2), (12, 116), (12, 117), (1, 2), (12, 196), (12, 197), (1, 2), (12, 208), (12, 209), (1, 2), (12, 216), (12, 217), (1, 2), (12, 220), (12, 221), (1, 2), (12, 229), (0, 271), (1, 2), (12, 224), (12, 225), (1, 2), (12, 232), (12, 233), (1, 2), (12, 236), (12, 237), (1, 2), (13, 0), (13, 1), (1, 2), (13, 4), (13, 5), (1, 2), (13, 8), (13, 9), (1, 2), (13, 12), (13, 13), (1, 2), (13, 16), (13, 17), (1, 10), (1, 140), (1, 10), (2, 24), (1, 26), (6, 192)] := by decide +kernel
theorem jFlB : jFl.all (fun l => l.all (fun q => decide (q.2.1 < 13) && decide (q.2.2 < jN q.2.1))) = true := by decide +kernel
theorem jFl_lt {o i : Nat} {q : Nat × Nat} (h : jFind jFl o i = some q) : q.1 < 13 ∧ q.2 < jN q.1 := by
  have h1 := jFind_mem h
  have h2 : jFl.getD o [] ∈ jFl := by
    by_cases ho : o < jFl.length
    · rw [List.getD_eq_getElem?_getD, List.getElem?_eq_getElem ho]
      exact List.getElem_mem ho
    · rw [List.getD_eq_getElem?_getD, List.getElem?_eq_none (by omega)] at h1
      cases h1
  have h3 := List.all_eq_true.mp (List.all_eq_true.mp jFlB _ h2) _ h1
  simpa using h3
theorem jT1B : (List.range 13).all (fun c => (List.range (jN c)).all (fun k => decide ((jT c k).1 = jnm c))) = true := by decide +kernel
theorem jT1 {c k : Nat} (h : c < 13) (hk : k < jN c) : (jT c k).1 = jnm c := by
  have h1 := List.all_eq_true.mp (List.all_eq_true.mp jT1B c (List.mem_range.mpr h)) k (List.mem_range.mpr hk)
  simpa using h1
theorem jTyL : (List.range 13).all (fun c => decide ((jTys.getD c []).length = jN c)) = true := by decide +kernel
theorem jTy_len {c : Nat} (h : c < 13) : (jTys.getD c []).length = jN c := by
  simpa using List.all_eq_true.mp jTyL c (List.mem_range.mpr h)
set_option maxRecDepth 100000 in
theorem jWa_ok : ([.arrayClass .byte, .arrayClass .int, .arrayClass .long, .arrayClass .boolean, .arrayOver (.object "LinkedCores$Node"), .arrayOver (.object "LinkedCores$Name"), .arrayOver (.object "LinkedCores$Link"), .arrayOver (.object "LinkedCores$Core")] : List Cond) = jTp [(1, 60), (1, 207), (1, 208), (10, 57), (1, 72), (1, 74), (1, 76), (5, 148)] := by decide +kernel
