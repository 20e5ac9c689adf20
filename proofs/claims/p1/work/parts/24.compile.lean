set_option maxHeartbeats 4000000 in
set_option maxRecDepth 100000 in
theorem jzl193 (xs : Nat → Int32) : jLoop (jRun ((0, xs) : jX) 2000 39) ((0, xs) : jX) jm18 1000 ((23, [(4, .int 0), (3, .ref 153), (2, .ref 66), (1, .ref 64), (0, .ref 63)], [], jzv181) : jS) = some (.inl (some (.int 1)), jzv181) := by
  refine jl_s (S' := ((25, [(4, .int 0), (3, .ref 153), (2, .ref 66), (1, .ref 64), (0, .ref 63)], [.int 0], jzv181) : jS)) rfl ?_
  refine jl_s (S' := ((26, [(4, .int 0), (3, .ref 153), (2, .ref 66), (1, .ref 64), (0, .ref 63)], [.ref 63, .int 0], jzv181) : jS)) rfl ?_
  refine jl_s (S' := ((27, [(4, .int 0), (3, .ref 153), (2, .ref 66), (1, .ref 64), (0, .ref 63)], [.int 0, .int 0], jzv181) : jS)) rfl ?_
  refine jl_s (S' := ((28, [(4, .int 0), (3, .ref 153), (2, .ref 66), (1, .ref 64), (0, .ref 63)], [.int 4, .int 0, .int 0], jzv181) : jS)) rfl ?_
  refine jl_s (S' := ((29, [(4, .int 0), (3, .ref 153), (2, .ref 66), (1, .ref 64), (0, .ref 63)], [.int (-4), .int 0], jzv181) : jS)) rfl ?_
  refine jl_s (S' := ((1199, [(4, .int 0), (3, .ref 153), (2, .ref 66), (1, .ref 64), (0, .ref 63)], [], jzv181) : jS)) rfl ?_
  refine jl_s (S' := ((1200, [(4, .int 0), (3, .ref 153), (2, .ref 66), (1, .ref 64), (0, .ref 63)], [.int 1], jzv181) : jS)) rfl ?_
  exact jl_r (r := (.inl (some (.int 1)), jzv181)) rfl
set_option maxHeartbeats 4000000 in
set_option maxRecDepth 100000 in
theorem jzl194 (xs : Nat → Int32) : jLoop (jRun ((1, xs) : jX) 2000 39) ((1, xs) : jX) jm18 1000 ((23, [(4, .int 0), (3, .ref 153), (2, .ref 66), (1, .ref 64), (0, .ref 63)], [], jzv181) : jS) = some (.inl (some (.int 1)), jzv181) := by
  refine jl_s (S' := ((25, [(4, .int 0), (3, .ref 153), (2, .ref 66), (1, .ref 64), (0, .ref 63)], [.int 0], jzv181) : jS)) rfl ?_
  refine jl_s (S' := ((26, [(4, .int 0), (3, .ref 153), (2, .ref 66), (1, .ref 64), (0, .ref 63)], [.ref 63, .int 0], jzv181) : jS)) rfl ?_
  refine jl_s (S' := ((27, [(4, .int 0), (3, .ref 153), (2, .ref 66), (1, .ref 64), (0, .ref 63)], [.int 1, .int 0], jzv181) : jS)) rfl ?_
  refine jl_s (S' := ((28, [(4, .int 0), (3, .ref 153), (2, .ref 66), (1, .ref 64), (0, .ref 63)], [.int 4, .int 1, .int 0], jzv181) : jS)) rfl ?_
  refine jl_s (S' := ((29, [(4, .int 0), (3, .ref 153), (2, .ref 66), (1, .ref 64), (0, .ref 63)], [.int (-3), .int 0], jzv181) : jS)) rfl ?_
  refine jl_s (S' := ((1199, [(4, .int 0), (3, .ref 153), (2, .ref 66), (1, .ref 64), (0, .ref 63)], [], jzv181) : jS)) rfl ?_
  refine jl_s (S' := ((1200, [(4, .int 0), (3, .ref 153), (2, .ref 66), (1, .ref 64), (0, .ref 63)], [.int 1], jzv181) : jS)) rfl ?_
  exact jl_r (r := (.inl (some (.int 1)), jzv181)) rfl
set_option maxHeartbeats 4000000 in
set_option maxRecDepth 100000 in
theorem jzl195 (xs : Nat → Int32) : jLoop (jRun ((2, xs) : jX) 2000 39) ((2, xs) : jX) jm18 1000 ((23, [(4, .int 0), (3, .ref 153), (2, .ref 66), (1, .ref 64), (0, .ref 63)], [], jzv181) : jS) = some (.inl (some (.int 1)), jzv181) := by
  refine jl_s (S' := ((25, [(4, .int 0), (3, .ref 153), (2, .ref 66), (1, .ref 64), (0, .ref 63)], [.int 0], jzv181) : jS)) rfl ?_
  refine jl_s (S' := ((26, [(4, .int 0), (3, .ref 153), (2, .ref 66), (1, .ref 64), (0, .ref 63)], [.ref 63, .int 0], jzv181) : jS)) rfl ?_
  refine jl_s (S' := ((27, [(4, .int 0), (3, .ref 153), (2, .ref 66), (1, .ref 64), (0, .ref 63)], [.int 2, .int 0], jzv181) : jS)) rfl ?_
  refine jl_s (S' := ((28, [(4, .int 0), (3, .ref 153), (2, .ref 66), (1, .ref 64), (0, .ref 63)], [.int 4, .int 2, .int 0], jzv181) : jS)) rfl ?_
  refine jl_s (S' := ((29, [(4, .int 0), (3, .ref 153), (2, .ref 66), (1, .ref 64), (0, .ref 63)], [.int (-2), .int 0], jzv181) : jS)) rfl ?_
  refine jl_s (S' := ((1199, [(4, .int 0), (3, .ref 153), (2, .ref 66), (1, .ref 64), (0, .ref 63)], [], jzv181) : jS)) rfl ?_
  refine jl_s (S' := ((1200, [(4, .int 0), (3, .ref 153), (2, .ref 66), (1, .ref 64), (0, .ref 63)], [.int 1], jzv181) : jS)) rfl ?_
  exact jl_r (r := (.inl (some (.int 1)), jzv181)) rfl
set_option maxHeartbeats 4000000 in
set_option maxRecDepth 100000 in
theorem jzl196 (xs : Nat → Int32) : jLoop (jRun ((3, xs) : jX) 2000 39) ((3, xs) : jX) jm18 1000 ((23, [(4, .int 0), (3, .ref 153), (2, .ref 66), (1, .ref 64), (0, .ref 63)], [], jzv181) : jS) = some (.inl (some (.int 1)), jzv181) := by
  refine jl_s (S' := ((25, [(4, .int 0), (3, .ref 153), (2, .ref 66), (1, .ref 64), (0, .ref 63)], [.int 0], jzv181) : jS)) rfl ?_
  refine jl_s (S' := ((26, [(4, .int 0), (3, .ref 153), (2, .ref 66), (1, .ref 64), (0, .ref 63)], [.ref 63, .int 0], jzv181) : jS)) rfl ?_
  refine jl_s (S' := ((27, [(4, .int 0), (3, .ref 153), (2, .ref 66), (1, .ref 64), (0, .ref 63)], [.int 3, .int 0], jzv181) : jS)) rfl ?_
  refine jl_s (S' := ((28, [(4, .int 0), (3, .ref 153), (2, .ref 66), (1, .ref 64), (0, .ref 63)], [.int 4, .int 3, .int 0], jzv181) : jS)) rfl ?_
  refine jl_s (S' := ((29, [(4, .int 0), (3, .ref 153), (2, .ref 66), (1, .ref 64), (0, .ref 63)], [.int (-1), .int 0], jzv181) : jS)) rfl ?_
  refine jl_s (S' := ((1199, [(4, .int 0), (3, .ref 153), (2, .ref 66), (1, .ref 64), (0, .ref 63)], [], jzv181) : jS)) rfl ?_
  refine jl_s (S' := ((1200, [(4, .int 0), (3, .ref 153), (2, .ref 66), (1, .ref 64), (0, .ref 63)], [.int 1], jzv181) : jS)) rfl ?_
  exact jl_r (r := (.inl (some (.int 1)), jzv181)) rfl
def jzc124 : jC := .inr (9, [.int 0, .int 0, .int 0, .null, .null, .int 0, .null, .int 0, .int 0, .int 0])
def jzv188 : jH := [jzc5, jzc2, jzc117, jzc7, jzc9, jzc9, jzc9, jzc9, jzc9, jzc17, jzc19, jzc19, jzc19, jzc19, jzc19, jzc19, jzc19, jzc19, jzc28, jzc28, jzc28, jzc28, jzc28, jzc28, jzc28, jzc28, jzc28, jzc28, jzc28, jzc28, jzc28, jzc28, jzc43, jzc43, jzc43, jzc43, jzc43, jzc49, jzc49, jzc52, jzc52, jzc52, jzc56, jzc56, jzc59, jzc56, jzc62, jzc28, jzc28, jzc28, jzc28, jzc28, jzc69, jzc71, jzc73, jzc43, jzc76, jzc52, jzc52, jzc80, jzc80, jzc80, jzc84, jzc52, jzc52, jzc52, jzc52, jzc52, jzc52, jzc52, jzc93, jzc93, jzc52, jzc52, jzc98, jzc100, jzc93, jzc52, jzc52, jzc52, jzc52, jzc107, jzc109, jzc111, jzc100, jzc100, jzc100, jzc111, jzc111, jzc118, jzc124]
def jzc125 : jC := .inr (9, [.int 0, .int (-1), .int 0, .null, .null, .int 0, .null, .int 0, .int 0, .int 0])
def jzv189 : jH := [jzc5, jzc2, jzc117, jzc7, jzc9, jzc9, jzc9, jzc9, jzc9, jzc17, jzc19, jzc19, jzc19, jzc19, jzc19, jzc19, jzc19, jzc19, jzc28, jzc28, jzc28, jzc28, jzc28, jzc28, jzc28, jzc28, jzc28, jzc28, jzc28, jzc28, jzc28, jzc28, jzc43, jzc43, jzc43, jzc43, jzc43, jzc49, jzc49, jzc52, jzc52, jzc52, jzc56, jzc56, jzc59, jzc56, jzc62, jzc28, jzc28, jzc28, jzc28, jzc28, jzc69, jzc71, jzc73, jzc43, jzc76, jzc52, jzc52, jzc80, jzc80, jzc80, jzc84, jzc52, jzc52, jzc52, jzc52, jzc52, jzc52, jzc52, jzc93, jzc93, jzc52, jzc52, jzc98, jzc100, jzc93, jzc52, jzc52, jzc52, jzc52, jzc107, jzc109, jzc111, jzc100, jzc100, jzc100, jzc111, jzc111, jzc118, jzc125]
def jzc126 : jC := .inr (9, [.int 0, .int (-1), .int (-1), .null, .null, .int 0, .null, .int 0, .int 0, .int 0])
def jzv190 : jH := [jzc5, jzc2, jzc117, jzc7, jzc9, jzc9, jzc9, jzc9, jzc9, jzc17, jzc19, jzc19, jzc19, jzc19, jzc19, jzc19, jzc19, jzc19, jzc28, jzc28, jzc28, jzc28, jzc28, jzc28, jzc28, jzc28, jzc28, jzc28, jzc28, jzc28, jzc28, jzc28, jzc43, jzc43, jzc43, jzc43, jzc43, jzc49, jzc49, jzc52, jzc52, jzc52, jzc56, jzc56, jzc59, jzc56, jzc62, jzc28, jzc28, jzc28, jzc28, jzc28, jzc69, jzc71, jzc73, jzc43, jzc76, jzc52, jzc52, jzc80, jzc80, jzc80, jzc84, jzc52, jzc52, jzc52, jzc52, jzc52, jzc52, jzc52, jzc93, jzc93, jzc52, jzc52, jzc98, jzc100, jzc93, jzc52, jzc52, jzc52, jzc52, jzc107, jzc109, jzc111, jzc100, jzc100, jzc100, jzc111, jzc111, jzc118, jzc126]
def jzc127 : jC := .inl (4, 6, .inr (.inr (.inr (.inr (fun _ => none)))))
def jzv191 : jH := [jzc5, jzc2, jzc117, jzc7, jzc9, jzc9, jzc9, jzc9, jzc9, jzc17, jzc19, jzc19, jzc19, jzc19, jzc19, jzc19, jzc19, jzc19, jzc28, jzc28, jzc28, jzc28, jzc28, jzc28, jzc28, jzc28, jzc28, jzc28, jzc28, jzc28, jzc28, jzc28, jzc43, jzc43, jzc43, jzc43, jzc43, jzc49, jzc49, jzc52, jzc52, jzc52, jzc56, jzc56, jzc59, jzc56, jzc62, jzc28, jzc28, jzc28, jzc28, jzc28, jzc69, jzc71, jzc73, jzc43, jzc76, jzc52, jzc52, jzc80, jzc80, jzc80, jzc84, jzc52, jzc52, jzc52, jzc52, jzc52, jzc52, jzc52, jzc93, jzc93, jzc52, jzc52, jzc98, jzc100, jzc93, jzc52, jzc52, jzc52, jzc52, jzc107, jzc109, jzc111, jzc100, jzc100, jzc100, jzc111, jzc111, jzc118, jzc126, jzc127]
def jzc128 : jC := .inr (9, [.int 0, .int (-1), .int (-1), .ref 155, .null, .int 0, .null, .int 0, .int 0, .int 0])
def jzv192 : jH := [jzc5, jzc2, jzc117, jzc7, jzc9, jzc9, jzc9, jzc9, jzc9, jzc17, jzc19, jzc19, jzc19, jzc19, jzc19, jzc19, jzc19, jzc19, jzc28, jzc28, jzc28, jzc28, jzc28, jzc28, jzc28, jzc28, jzc28, jzc28, jzc28, jzc28, jzc28, jzc28, jzc43, jzc43, jzc43, jzc43, jzc43, jzc49, jzc49, jzc52, jzc52, jzc52, jzc56, jzc56, jzc59, jzc56, jzc62, jzc28, jzc28, jzc28, jzc28, jzc28, jzc69, jzc71, jzc73, jzc43, jzc76, jzc52, jzc52, jzc80, jzc80, jzc80, jzc84, jzc52, jzc52, jzc52, jzc52, jzc52, jzc52, jzc52, jzc93, jzc93, jzc52, jzc52, jzc98, jzc100, jzc93, jzc52, jzc52, jzc52, jzc52, jzc107, jzc109, jzc111, jzc100, jzc100, jzc100, jzc111, jzc111, jzc118, jzc128, jzc127]
def jzc129 : jC := .inl (5, 24, .inr (.inr (.inr (.inr (fun _ => none)))))
def jzv193 : jH := [jzc5, jzc2, jzc117, jzc7, jzc9, jzc9, jzc9, jzc9, jzc9, jzc17, jzc19, jzc19, jzc19, jzc19, jzc19, jzc19, jzc19, jzc19, jzc28, jzc28, jzc28, jzc28, jzc28, jzc28, jzc28, jzc28, jzc28, jzc28, jzc28, jzc28, jzc28, jzc28, jzc43, jzc43, jzc43, jzc43, jzc43, jzc49, jzc49, jzc52, jzc52, jzc52, jzc56, jzc56, jzc59, jzc56, jzc62, jzc28, jzc28, jzc28, jzc28, jzc28, jzc69, jzc71, jzc73, jzc43, jzc76, jzc52, jzc52, jzc80, jzc80, jzc80, jzc84, jzc52, jzc52, jzc52, jzc52, jzc52, jzc52, jzc52, jzc93, jzc93, jzc52, jzc52, jzc98, jzc100, jzc93, jzc52, jzc52, jzc52, jzc52, jzc107, jzc109, jzc111, jzc100, jzc100, jzc100, jzc111, jzc111, jzc118, jzc128, jzc127, jzc129]
def jzc130 : jC := .inr (9, [.int 0, .int (-1), .int (-1), .ref 155, .ref 156, .int 0, .null, .int 0, .int 0, .int 0])
def jzv194 : jH := [jzc5, jzc2, jzc117, jzc7, jzc9, jzc9, jzc9, jzc9, jzc9, jzc17, jzc19, jzc19, jzc19, jzc19, jzc19, jzc19, jzc19, jzc19, jzc28, jzc28, jzc28, jzc28, jzc28, jzc28, jzc28, jzc28, jzc28, jzc28, jzc28, jzc28, jzc28, jzc28, jzc43, jzc43, jzc43, jzc43, jzc43, jzc49, jzc49, jzc52, jzc52, jzc52, jzc56, jzc56, jzc59, jzc56, jzc62, jzc28, jzc28, jzc28, jzc28, jzc28, jzc69, jzc71, jzc73, jzc43, jzc76, jzc52, jzc52, jzc80, jzc80, jzc80, jzc84, jzc52, jzc52, jzc52, jzc52, jzc52, jzc52, jzc52, jzc93, jzc93, jzc52, jzc52, jzc98, jzc100, jzc93, jzc52, jzc52, jzc52, jzc52, jzc107, jzc109, jzc111, jzc100, jzc100, jzc100, jzc111, jzc111, jzc118, jzc130, jzc127, jzc129]
def jzc131 : jC := .inl (6, 12, .inr (.inr (.inr (.inr (fun _ => none)))))
def jzv195 : jH := [jzc5, jzc2, jzc117, jzc7, jzc9, jzc9, jzc9, jzc9, jzc9, jzc17, jzc19, jzc19, jzc19, jzc19, jzc19, jzc19, jzc19, jzc19, jzc28, jzc28, jzc28, jzc28, jzc28, jzc28, jzc28, jzc28, jzc28, jzc28, jzc28, jzc28, jzc28, jzc28, jzc43, jzc43, jzc43, jzc43, jzc43, jzc49, jzc49, jzc52, jzc52, jzc52, jzc56, jzc56, jzc59, jzc56, jzc62, jzc28, jzc28, jzc28, jzc28, jzc28, jzc69, jzc71, jzc73, jzc43, jzc76, jzc52, jzc52, jzc80, jzc80, jzc80, jzc84, jzc52, jzc52, jzc52, jzc52, jzc52, jzc52, jzc52, jzc93, jzc93, jzc52, jzc52, jzc98, jzc100, jzc93, jzc52, jzc52, jzc52, jzc52, jzc107, jzc109, jzc111, jzc100, jzc100, jzc100, jzc111, jzc111, jzc118, jzc130, jzc127, jzc129, jzc131]
def jzc132 : jC := .inr (9, [.int 0, .int (-1), .int (-1), .ref 155, .ref 156, .int 0, .ref 157, .int 0, .int 0, .int 0])
def jzv196 : jH := [jzc5, jzc2, jzc117, jzc7, jzc9, jzc9, jzc9, jzc9, jzc9, jzc17, jzc19, jzc19, jzc19, jzc19, jzc19, jzc19, jzc19, jzc19, jzc28, jzc28, jzc28, jzc28, jzc28, jzc28, jzc28, jzc28, jzc28, jzc28, jzc28, jzc28, jzc28, jzc28, jzc43, jzc43, jzc43, jzc43, jzc43, jzc49, jzc49, jzc52, jzc52, jzc52, jzc56, jzc56, jzc59, jzc56, jzc62, jzc28, jzc28, jzc28, jzc28, jzc28, jzc69, jzc71, jzc73, jzc43, jzc76, jzc52, jzc52, jzc80, jzc80, jzc80, jzc84, jzc52, jzc52, jzc52, jzc52, jzc52, jzc52, jzc52, jzc93, jzc93, jzc52, jzc52, jzc98, jzc100, jzc93, jzc52, jzc52, jzc52, jzc52, jzc107, jzc109, jzc111, jzc100, jzc100, jzc100, jzc111, jzc111, jzc118, jzc132, jzc127, jzc129, jzc131]
set_option maxHeartbeats 4000000 in
set_option maxRecDepth 100000 in
theorem jzl197 (xs : Nat → Int32) (hop : xs 0 &&& 31 = 2)  : jRun ((4, xs) : jX) 2000 38 204 [.ref 154] jzv188 = some (.inl none, jzv196) := by
  refine jr_run (e := jm204) rfl (Nat.le_of_ble_eq_true rfl) ?_
  refine jl_s (S' := ((1, [(0, .ref 154)], [.ref 154], jzv188) : jS)) rfl ?_
  refine jl_s (S' := ((4, [(0, .ref 154)], [], jzv188) : jS)) rfl ?_
  refine jl_s (S' := ((5, [(0, .ref 154)], [.ref 154], jzv188) : jS)) rfl ?_
  refine jl_s (S' := ((6, [(0, .ref 154)], [.int (-1), .ref 154], jzv188) : jS)) rfl ?_
  refine jl_s (S' := ((9, [(0, .ref 154)], [], jzv189) : jS)) rfl ?_
  refine jl_s (S' := ((10, [(0, .ref 154)], [.ref 154], jzv189) : jS)) rfl ?_
  refine jl_s (S' := ((11, [(0, .ref 154)], [.int (-1), .ref 154], jzv189) : jS)) rfl ?_
  refine jl_s (S' := ((14, [(0, .ref 154)], [], jzv190) : jS)) rfl ?_
  refine jl_s (S' := ((15, [(0, .ref 154)], [.ref 154], jzv190) : jS)) rfl ?_
  refine jl_s (S' := ((17, [(0, .ref 154)], [.int 6, .ref 154], jzv190) : jS)) rfl ?_
  refine jl_s (S' := ((20, [(0, .ref 154)], [.ref 155, .ref 154], jzv191) : jS)) rfl ?_
  refine jl_s (S' := ((23, [(0, .ref 154)], [], jzv192) : jS)) rfl ?_
  refine jl_s (S' := ((24, [(0, .ref 154)], [.ref 154], jzv192) : jS)) rfl ?_
  refine jl_s (S' := ((26, [(0, .ref 154)], [.int 24, .ref 154], jzv192) : jS)) rfl ?_
  refine jl_s (S' := ((29, [(0, .ref 154)], [.ref 156, .ref 154], jzv193) : jS)) rfl ?_
  refine jl_s (S' := ((32, [(0, .ref 154)], [], jzv194) : jS)) rfl ?_
  refine jl_s (S' := ((33, [(0, .ref 154)], [.ref 154], jzv194) : jS)) rfl ?_
  refine jl_s (S' := ((35, [(0, .ref 154)], [.int 12, .ref 154], jzv194) : jS)) rfl ?_
  refine jl_s (S' := ((38, [(0, .ref 154)], [.ref 157, .ref 154], jzv195) : jS)) rfl ?_
  refine jl_s (S' := ((41, [(0, .ref 154)], [], jzv196) : jS)) rfl ?_
  exact jl_r (r := (.inl none, jzv196)) rfl
def jzc133 : jC := .inr (10, [.null, .int 0, .null, .null, .null, .null, .null, .int 0, .int 0, .int 0, .int 0, .int 0, .int 0, .int 0, .int 0, .int 0, .int 0, .int 0, .long 0])
def jzv197 : jH := [jzc5, jzc2, jzc117, jzc7, jzc9, jzc9, jzc9, jzc9, jzc9, jzc17, jzc19, jzc19, jzc19, jzc19, jzc19, jzc19, jzc19, jzc19, jzc28, jzc28, jzc28, jzc28, jzc28, jzc28, jzc28, jzc28, jzc28, jzc28, jzc28, jzc28, jzc28, jzc28, jzc43, jzc43, jzc43, jzc43, jzc43, jzc49, jzc49, jzc52, jzc52, jzc52, jzc56, jzc56, jzc59, jzc56, jzc62, jzc28, jzc28, jzc28, jzc28, jzc28, jzc69, jzc71, jzc73, jzc43, jzc76, jzc52, jzc52, jzc80, jzc80, jzc80, jzc84, jzc52, jzc52, jzc52, jzc52, jzc52, jzc52, jzc52, jzc93, jzc93, jzc52, jzc52, jzc98, jzc100, jzc93, jzc52, jzc52, jzc52, jzc52, jzc107, jzc109, jzc111, jzc100, jzc100, jzc100, jzc111, jzc111, jzc118, jzc132, jzc127, jzc129, jzc131, jzc133]
def jzc134 : jC := .inr (10, [.null, .int 0, .null, .null, .null, .null, .null, .int 0, .int (-1), .int 0, .int 0, .int 0, .int 0, .int 0, .int 0, .int 0, .int 0, .int 0, .long 0])
def jzv198 : jH := [jzc5, jzc2, jzc117, jzc7, jzc9, jzc9, jzc9, jzc9, jzc9, jzc17, jzc19, jzc19, jzc19, jzc19, jzc19, jzc19, jzc19, jzc19, jzc28, jzc28, jzc28, jzc28, jzc28, jzc28, jzc28, jzc28, jzc28, jzc28, jzc28, jzc28, jzc28, jzc28, jzc43, jzc43, jzc43, jzc43, jzc43, jzc49, jzc49, jzc52, jzc52, jzc52, jzc56, jzc56, jzc59, jzc56, jzc62, jzc28, jzc28, jzc28, jzc28, jzc28, jzc69, jzc71, jzc73, jzc43, jzc76, jzc52, jzc52, jzc80, jzc80, jzc80, jzc84, jzc52, jzc52, jzc52, jzc52, jzc52, jzc52, jzc52, jzc93, jzc93, jzc52, jzc52, jzc98, jzc100, jzc93, jzc52, jzc52, jzc52, jzc52, jzc107, jzc109, jzc111, jzc100, jzc100, jzc100, jzc111, jzc111, jzc118, jzc132, jzc127, jzc129, jzc131, jzc134]
set_option maxHeartbeats 4000000 in
set_option maxRecDepth 100000 in
theorem jzl198 (xs : Nat → Int32) (hop : xs 0 &&& 31 = 2)  : jRun ((4, xs) : jX) 2000 37 413 [.int 0, .int 0] jzv198 = some (.inl (some (.int 0)), jzv198) := by
  refine jr_run (e := jm413) rfl (Nat.le_of_ble_eq_true rfl) ?_
  refine jl_s (S' := ((1, [(0, .int 0), (1, .int 0)], [.int 0], jzv198) : jS)) rfl ?_
  refine jl_s (S' := ((2, [(0, .int 0), (1, .int 0)], [.int 0, .int 0], jzv198) : jS)) rfl ?_
  refine jl_s (S' := ((5, [(0, .int 0), (1, .int 0)], [], jzv198) : jS)) rfl ?_
  refine jl_s (S' := ((6, [(0, .int 0), (1, .int 0)], [.int 0], jzv198) : jS)) rfl ?_
  refine jl_s (S' := ((10, [(0, .int 0), (1, .int 0)], [.int 0], jzv198) : jS)) rfl ?_
  exact jl_r (r := (.inl (some (.int 0)), jzv198)) rfl
def jzc135 : jC := .inr (10, [.ref 65, .int 0, .null, .null, .null, .null, .null, .int 0, .int (-1), .int 0, .int 0, .int 0, .int 0, .int 0, .int 0, .int 0, .int 0, .int 0, .long 0])
def jzv199 : jH := [jzc5, jzc2, jzc117, jzc7, jzc9, jzc9, jzc9, jzc9, jzc9, jzc17, jzc19, jzc19, jzc19, jzc19, jzc19, jzc19, jzc19, jzc19, jzc28, jzc28, jzc28, jzc28, jzc28, jzc28, jzc28, jzc28, jzc28, jzc28, jzc28, jzc28, jzc28, jzc28, jzc43, jzc43, jzc43, jzc43, jzc43, jzc49, jzc49, jzc52, jzc52, jzc52, jzc56, jzc56, jzc59, jzc56, jzc62, jzc28, jzc28, jzc28, jzc28, jzc28, jzc69, jzc71, jzc73, jzc43, jzc76, jzc52, jzc52, jzc80, jzc80, jzc80, jzc84, jzc52, jzc52, jzc52, jzc52, jzc52, jzc52, jzc52, jzc93, jzc93, jzc52, jzc52, jzc98, jzc100, jzc93, jzc52, jzc52, jzc52, jzc52, jzc107, jzc109, jzc111, jzc100, jzc100, jzc100, jzc111, jzc111, jzc118, jzc132, jzc127, jzc129, jzc131, jzc135]
def jzc136 : jC := .inl (0, 1, .inl (fun _ => 0))
def jzv200 : jH := [jzc5, jzc2, jzc117, jzc7, jzc9, jzc9, jzc9, jzc9, jzc9, jzc17, jzc19, jzc19, jzc19, jzc19, jzc19, jzc19, jzc19, jzc19, jzc28, jzc28, jzc28, jzc28, jzc28, jzc28, jzc28, jzc28, jzc28, jzc28, jzc28, jzc28, jzc28, jzc28, jzc43, jzc43, jzc43, jzc43, jzc43, jzc49, jzc49, jzc52, jzc52, jzc52, jzc56, jzc56, jzc59, jzc56, jzc62, jzc28, jzc28, jzc28, jzc28, jzc28, jzc69, jzc71, jzc73, jzc43, jzc76, jzc52, jzc52, jzc80, jzc80, jzc80, jzc84, jzc52, jzc52, jzc52, jzc52, jzc52, jzc52, jzc52, jzc93, jzc93, jzc52, jzc52, jzc98, jzc100, jzc93, jzc52, jzc52, jzc52, jzc52, jzc107, jzc109, jzc111, jzc100, jzc100, jzc100, jzc111, jzc111, jzc118, jzc132, jzc127, jzc129, jzc131, jzc135, jzc136]
def jzc137 : jC := .inr (10, [.ref 65, .int 0, .ref 159, .null, .null, .null, .null, .int 0, .int (-1), .int 0, .int 0, .int 0, .int 0, .int 0, .int 0, .int 0, .int 0, .int 0, .long 0])
def jzv201 : jH := [jzc5, jzc2, jzc117, jzc7, jzc9, jzc9, jzc9, jzc9, jzc9, jzc17, jzc19, jzc19, jzc19, jzc19, jzc19, jzc19, jzc19, jzc19, jzc28, jzc28, jzc28, jzc28, jzc28, jzc28, jzc28, jzc28, jzc28, jzc28, jzc28, jzc28, jzc28, jzc28, jzc43, jzc43, jzc43, jzc43, jzc43, jzc49, jzc49, jzc52, jzc52, jzc52, jzc56, jzc56, jzc59, jzc56, jzc62, jzc28, jzc28, jzc28, jzc28, jzc28, jzc69, jzc71, jzc73, jzc43, jzc76, jzc52, jzc52, jzc80, jzc80, jzc80, jzc84, jzc52, jzc52, jzc52, jzc52, jzc52, jzc52, jzc52, jzc93, jzc93, jzc52, jzc52, jzc98, jzc100, jzc93, jzc52, jzc52, jzc52, jzc52, jzc107, jzc109, jzc111, jzc100, jzc100, jzc100, jzc111, jzc111, jzc118, jzc132, jzc127, jzc129, jzc131, jzc137, jzc136]
def jzc138 : jC := .inl (1, 1, .inl (fun _ => 0))
def jzv202 : jH := [jzc5, jzc2, jzc117, jzc7, jzc9, jzc9, jzc9, jzc9, jzc9, jzc17, jzc19, jzc19, jzc19, jzc19, jzc19, jzc19, jzc19, jzc19, jzc28, jzc28, jzc28, jzc28, jzc28, jzc28, jzc28, jzc28, jzc28, jzc28, jzc28, jzc28, jzc28, jzc28, jzc43, jzc43, jzc43, jzc43, jzc43, jzc49, jzc49, jzc52, jzc52, jzc52, jzc56, jzc56, jzc59, jzc56, jzc62, jzc28, jzc28, jzc28, jzc28, jzc28, jzc69, jzc71, jzc73, jzc43, jzc76, jzc52, jzc52, jzc80, jzc80, jzc80, jzc84, jzc52, jzc52, jzc52, jzc52, jzc52, jzc52, jzc52, jzc93, jzc93, jzc52, jzc52, jzc98, jzc100, jzc93, jzc52, jzc52, jzc52, jzc52, jzc107, jzc109, jzc111, jzc100, jzc100, jzc100, jzc111, jzc111, jzc118, jzc132, jzc127, jzc129, jzc131, jzc137, jzc136, jzc138]
def jzc139 : jC := .inr (10, [.ref 65, .int 0, .ref 159, .ref 160, .null, .null, .null, .int 0, .int (-1), .int 0, .int 0, .int 0, .int 0, .int 0, .int 0, .int 0, .int 0, .int 0, .long 0])
def jzv203 : jH := [jzc5, jzc2, jzc117, jzc7, jzc9, jzc9, jzc9, jzc9, jzc9, jzc17, jzc19, jzc19, jzc19, jzc19, jzc19, jzc19, jzc19, jzc19, jzc28, jzc28, jzc28, jzc28, jzc28, jzc28, jzc28, jzc28, jzc28, jzc28, jzc28, jzc28, jzc28, jzc28, jzc43, jzc43, jzc43, jzc43, jzc43, jzc49, jzc49, jzc52, jzc52, jzc52, jzc56, jzc56, jzc59, jzc56, jzc62, jzc28, jzc28, jzc28, jzc28, jzc28, jzc69, jzc71, jzc73, jzc43, jzc76, jzc52, jzc52, jzc80, jzc80, jzc80, jzc84, jzc52, jzc52, jzc52, jzc52, jzc52, jzc52, jzc52, jzc93, jzc93, jzc52, jzc52, jzc98, jzc100, jzc93, jzc52, jzc52, jzc52, jzc52, jzc107, jzc109, jzc111, jzc100, jzc100, jzc100, jzc111, jzc111, jzc118, jzc132, jzc127, jzc129, jzc131, jzc139, jzc136, jzc138]
def jzv204 : jH := [jzc5, jzc2, jzc117, jzc7, jzc9, jzc9, jzc9, jzc9, jzc9, jzc17, jzc19, jzc19, jzc19, jzc19, jzc19, jzc19, jzc19, jzc19, jzc28, jzc28, jzc28, jzc28, jzc28, jzc28, jzc28, jzc28, jzc28, jzc28, jzc28, jzc28, jzc28, jzc28, jzc43, jzc43, jzc43, jzc43, jzc43, jzc49, jzc49, jzc52, jzc52, jzc52, jzc56, jzc56, jzc59, jzc56, jzc62, jzc28, jzc28, jzc28, jzc28, jzc28, jzc69, jzc71, jzc73, jzc43, jzc76, jzc52, jzc52, jzc80, jzc80, jzc80, jzc84, jzc52, jzc52, jzc52, jzc52, jzc52, jzc52, jzc52, jzc93, jzc93, jzc52, jzc52, jzc98, jzc100, jzc93, jzc52, jzc52, jzc52, jzc52, jzc107, jzc109, jzc111, jzc100, jzc100, jzc100, jzc111, jzc111, jzc118, jzc132, jzc127, jzc129, jzc131, jzc139, jzc136, jzc138, jzc118]
def jzc140 : jC := .inr (10, [.ref 65, .int 0, .ref 159, .ref 160, .ref 161, .null, .null, .int 0, .int (-1), .int 0, .int 0, .int 0, .int 0, .int 0, .int 0, .int 0, .int 0, .int 0, .long 0])
def jzv205 : jH := [jzc5, jzc2, jzc117, jzc7, jzc9, jzc9, jzc9, jzc9, jzc9, jzc17, jzc19, jzc19, jzc19, jzc19, jzc19, jzc19, jzc19, jzc19, jzc28, jzc28, jzc28, jzc28, jzc28, jzc28, jzc28, jzc28, jzc28, jzc28, jzc28, jzc28, jzc28, jzc28, jzc43, jzc43, jzc43, jzc43, jzc43, jzc49, jzc49, jzc52, jzc52, jzc52, jzc56, jzc56, jzc59, jzc56, jzc62, jzc28, jzc28, jzc28, jzc28, jzc28, jzc69, jzc71, jzc73, jzc43, jzc76, jzc52, jzc52, jzc80, jzc80, jzc80, jzc84, jzc52, jzc52, jzc52, jzc52, jzc52, jzc52, jzc52, jzc93, jzc93, jzc52, jzc52, jzc98, jzc100, jzc93, jzc52, jzc52, jzc52, jzc52, jzc107, jzc109, jzc111, jzc100, jzc100, jzc100, jzc111, jzc111, jzc118, jzc132, jzc127, jzc129, jzc131, jzc140, jzc136, jzc138, jzc118]
def jzv206 : jH := [jzc5, jzc2, jzc117, jzc7, jzc9, jzc9, jzc9, jzc9, jzc9, jzc17, jzc19, jzc19, jzc19, jzc19, jzc19, jzc19, jzc19, jzc19, jzc28, jzc28, jzc28, jzc28, jzc28, jzc28, jzc28, jzc28, jzc28, jzc28, jzc28, jzc28, jzc28, jzc28, jzc43, jzc43, jzc43, jzc43, jzc43, jzc49, jzc49, jzc52, jzc52, jzc52, jzc56, jzc56, jzc59, jzc56, jzc62, jzc28, jzc28, jzc28, jzc28, jzc28, jzc69, jzc71, jzc73, jzc43, jzc76, jzc52, jzc52, jzc80, jzc80, jzc80, jzc84, jzc52, jzc52, jzc52, jzc52, jzc52, jzc52, jzc52, jzc93, jzc93, jzc52, jzc52, jzc98, jzc100, jzc93, jzc52, jzc52, jzc52, jzc52, jzc107, jzc109, jzc111, jzc100, jzc100, jzc100, jzc111, jzc111, jzc118, jzc132, jzc127, jzc129, jzc131, jzc140, jzc136, jzc138, jzc118, jzc138]
def jzc141 : jC := .inr (10, [.ref 65, .int 0, .ref 159, .ref 160, .ref 161, .ref 162, .null, .int 0, .int (-1), .int 0, .int 0, .int 0, .int 0, .int 0, .int 0, .int 0, .int 0, .int 0, .long 0])
def jzv207 : jH := [jzc5, jzc2, jzc117, jzc7, jzc9, jzc9, jzc9, jzc9, jzc9, jzc17, jzc19, jzc19, jzc19, jzc19, jzc19, jzc19, jzc19, jzc19, jzc28, jzc28, jzc28, jzc28, jzc28, jzc28, jzc28, jzc28, jzc28, jzc28, jzc28, jzc28, jzc28, jzc28, jzc43, jzc43, jzc43, jzc43, jzc43, jzc49, jzc49, jzc52, jzc52, jzc52, jzc56, jzc56, jzc59, jzc56, jzc62, jzc28, jzc28, jzc28, jzc28, jzc28, jzc69, jzc71, jzc73, jzc43, jzc76, jzc52, jzc52, jzc80, jzc80, jzc80, jzc84, jzc52, jzc52, jzc52, jzc52, jzc52, jzc52, jzc52, jzc93, jzc93, jzc52, jzc52, jzc98, jzc100, jzc93, jzc52, jzc52, jzc52, jzc52, jzc107, jzc109, jzc111, jzc100, jzc100, jzc100, jzc111, jzc111, jzc118, jzc132, jzc127, jzc129, jzc131, jzc141, jzc136, jzc138, jzc118, jzc138]
def jzv208 : jH := [jzc5, jzc2, jzc117, jzc7, jzc9, jzc9, jzc9, jzc9, jzc9, jzc17, jzc19, jzc19, jzc19, jzc19, jzc19, jzc19, jzc19, jzc19, jzc28, jzc28, jzc28, jzc28, jzc28, jzc28, jzc28, jzc28, jzc28, jzc28, jzc28, jzc28, jzc28, jzc28, jzc43, jzc43, jzc43, jzc43, jzc43, jzc49, jzc49, jzc52, jzc52, jzc52, jzc56, jzc56, jzc59, jzc56, jzc62, jzc28, jzc28, jzc28, jzc28, jzc28, jzc69, jzc71, jzc73, jzc43, jzc76, jzc52, jzc52, jzc80, jzc80, jzc80, jzc84, jzc52, jzc52, jzc52, jzc52, jzc52, jzc52, jzc52, jzc93, jzc93, jzc52, jzc52, jzc98, jzc100, jzc93, jzc52, jzc52, jzc52, jzc52, jzc107, jzc109, jzc111, jzc100, jzc100, jzc100, jzc111, jzc111, jzc118, jzc132, jzc127, jzc129, jzc131, jzc141, jzc136, jzc138, jzc118, jzc138, jzc136]
def jzc142 : jC := .inr (10, [.ref 65, .int 0, .ref 159, .ref 160, .ref 161, .ref 162, .ref 163, .int 0, .int (-1), .int 0, .int 0, .int 0, .int 0, .int 0, .int 0, .int 0, .int 0, .int 0, .long 0])
def jzv209 : jH := [jzc5, jzc2, jzc117, jzc7, jzc9, jzc9, jzc9, jzc9, jzc9, jzc17, jzc19, jzc19, jzc19, jzc19, jzc19, jzc19, jzc19, jzc19, jzc28, jzc28, jzc28, jzc28, jzc28, jzc28, jzc28, jzc28, jzc28, jzc28, jzc28, jzc28, jzc28, jzc28, jzc43, jzc43, jzc43, jzc43, jzc43, jzc49, jzc49, jzc52, jzc52, jzc52, jzc56, jzc56, jzc59, jzc56, jzc62, jzc28, jzc28, jzc28, jzc28, jzc28, jzc69, jzc71, jzc73, jzc43, jzc76, jzc52, jzc52, jzc80, jzc80, jzc80, jzc84, jzc52, jzc52, jzc52, jzc52, jzc52, jzc52, jzc52, jzc93, jzc93, jzc52, jzc52, jzc98, jzc100, jzc93, jzc52, jzc52, jzc52, jzc52, jzc107, jzc109, jzc111, jzc100, jzc100, jzc100, jzc111, jzc111, jzc118, jzc132, jzc127, jzc129, jzc131, jzc142, jzc136, jzc138, jzc118, jzc138, jzc136]
set_option maxHeartbeats 4000000 in
set_option maxRecDepth 100000 in
theorem jzl199 (xs : Nat → Int32) (hop : xs 0 &&& 31 = 2)  : jRun ((4, xs) : jX) 2000 38 206 [.ref 158, .ref 65, .int 0] jzv197 = some (.inl none, jzv209) := by
  refine jr_run (e := jm206) rfl (Nat.le_of_ble_eq_true rfl) ?_
  refine jl_s (S' := ((1, [(0, .ref 158), (1, .ref 65), (2, .int 0)], [.ref 158], jzv197) : jS)) rfl ?_
  refine jl_s (S' := ((4, [(0, .ref 158), (1, .ref 65), (2, .int 0)], [], jzv197) : jS)) rfl ?_
  refine jl_s (S' := ((5, [(0, .ref 158), (1, .ref 65), (2, .int 0)], [.ref 158], jzv197) : jS)) rfl ?_
  refine jl_s (S' := ((6, [(0, .ref 158), (1, .ref 65), (2, .int 0)], [.int (-1), .ref 158], jzv197) : jS)) rfl ?_
  refine jl_s (S' := ((9, [(0, .ref 158), (1, .ref 65), (2, .int 0)], [], jzv198) : jS)) rfl ?_
  refine jl_s (S' := ((10, [(0, .ref 158), (1, .ref 65), (2, .int 0)], [.int 0], jzv198) : jS)) rfl ?_
  refine jl_s (S' := ((11, [(0, .ref 158), (1, .ref 65), (2, .int 0)], [.int 0, .int 0], jzv198) : jS)) rfl ?_
  refine jl_c (t := 413) (as := [.int 0, .int 0]) (V := jzv198) (r := (.inl (some (.int 0)), jzv198)) (S' := ((14, [(0, .ref 158), (1, .ref 65), (2, .int 0)], [.int 0], jzv198) : jS)) rfl (jzl198 xs hop ) rfl ?_
  refine jl_s (S' := ((15, [(0, .ref 158), (1, .ref 65), (2, .int 0)], [.int 1, .int 0], jzv198) : jS)) rfl ?_
  refine jl_s (S' := ((16, [(0, .ref 158), (1, .ref 65), (2, .int 0)], [.int 1], jzv198) : jS)) rfl ?_
  refine jl_s (S' := ((17, [(3, .int 1), (0, .ref 158), (1, .ref 65), (2, .int 0)], [], jzv198) : jS)) rfl ?_
  refine jl_s (S' := ((18, [(3, .int 1), (0, .ref 158), (1, .ref 65), (2, .int 0)], [.ref 158], jzv198) : jS)) rfl ?_
  refine jl_s (S' := ((19, [(3, .int 1), (0, .ref 158), (1, .ref 65), (2, .int 0)], [.ref 65, .ref 158], jzv198) : jS)) rfl ?_
  refine jl_s (S' := ((22, [(3, .int 1), (0, .ref 158), (1, .ref 65), (2, .int 0)], [], jzv199) : jS)) rfl ?_
  refine jl_s (S' := ((23, [(3, .int 1), (0, .ref 158), (1, .ref 65), (2, .int 0)], [.ref 158], jzv199) : jS)) rfl ?_
  refine jl_s (S' := ((24, [(3, .int 1), (0, .ref 158), (1, .ref 65), (2, .int 0)], [.int 0, .ref 158], jzv199) : jS)) rfl ?_
  refine jl_s (S' := ((27, [(3, .int 1), (0, .ref 158), (1, .ref 65), (2, .int 0)], [], jzv199) : jS)) rfl ?_
  refine jl_s (S' := ((28, [(3, .int 1), (0, .ref 158), (1, .ref 65), (2, .int 0)], [.ref 158], jzv199) : jS)) rfl ?_
  refine jl_s (S' := ((29, [(3, .int 1), (0, .ref 158), (1, .ref 65), (2, .int 0)], [.int 1, .ref 158], jzv199) : jS)) rfl ?_
  refine jl_s (S' := ((31, [(3, .int 1), (0, .ref 158), (1, .ref 65), (2, .int 0)], [.ref 159, .ref 158], jzv200) : jS)) rfl ?_
  refine jl_s (S' := ((34, [(3, .int 1), (0, .ref 158), (1, .ref 65), (2, .int 0)], [], jzv201) : jS)) rfl ?_
  refine jl_s (S' := ((35, [(3, .int 1), (0, .ref 158), (1, .ref 65), (2, .int 0)], [.ref 158], jzv201) : jS)) rfl ?_
  refine jl_s (S' := ((36, [(3, .int 1), (0, .ref 158), (1, .ref 65), (2, .int 0)], [.int 1, .ref 158], jzv201) : jS)) rfl ?_
  refine jl_s (S' := ((38, [(3, .int 1), (0, .ref 158), (1, .ref 65), (2, .int 0)], [.ref 160, .ref 158], jzv202) : jS)) rfl ?_
  refine jl_s (S' := ((41, [(3, .int 1), (0, .ref 158), (1, .ref 65), (2, .int 0)], [], jzv203) : jS)) rfl ?_
  refine jl_s (S' := ((42, [(3, .int 1), (0, .ref 158), (1, .ref 65), (2, .int 0)], [.ref 158], jzv203) : jS)) rfl ?_
  refine jl_s (S' := ((43, [(3, .int 1), (0, .ref 158), (1, .ref 65), (2, .int 0)], [.int 1, .ref 158], jzv203) : jS)) rfl ?_
  refine jl_s (S' := ((45, [(3, .int 1), (0, .ref 158), (1, .ref 65), (2, .int 0)], [.ref 161, .ref 158], jzv204) : jS)) rfl ?_
  refine jl_s (S' := ((48, [(3, .int 1), (0, .ref 158), (1, .ref 65), (2, .int 0)], [], jzv205) : jS)) rfl ?_
  refine jl_s (S' := ((49, [(3, .int 1), (0, .ref 158), (1, .ref 65), (2, .int 0)], [.ref 158], jzv205) : jS)) rfl ?_
  refine jl_s (S' := ((50, [(3, .int 1), (0, .ref 158), (1, .ref 65), (2, .int 0)], [.int 1, .ref 158], jzv205) : jS)) rfl ?_
  refine jl_s (S' := ((52, [(3, .int 1), (0, .ref 158), (1, .ref 65), (2, .int 0)], [.ref 162, .ref 158], jzv206) : jS)) rfl ?_
  refine jl_s (S' := ((55, [(3, .int 1), (0, .ref 158), (1, .ref 65), (2, .int 0)], [], jzv207) : jS)) rfl ?_
  refine jl_s (S' := ((56, [(3, .int 1), (0, .ref 158), (1, .ref 65), (2, .int 0)], [.ref 158], jzv207) : jS)) rfl ?_
  refine jl_s (S' := ((57, [(3, .int 1), (0, .ref 158), (1, .ref 65), (2, .int 0)], [.int 1, .ref 158], jzv207) : jS)) rfl ?_
  refine jl_s (S' := ((59, [(3, .int 1), (0, .ref 158), (1, .ref 65), (2, .int 0)], [.ref 163, .ref 158], jzv208) : jS)) rfl ?_
  refine jl_s (S' := ((62, [(3, .int 1), (0, .ref 158), (1, .ref 65), (2, .int 0)], [], jzv209) : jS)) rfl ?_
  exact jl_r (r := (.inl none, jzv209)) rfl
set_option maxHeartbeats 4000000 in
set_option maxRecDepth 100000 in
theorem jzl200 (xs : Nat → Int32) (hop : xs 0 &&& 31 = 2)  : jRun ((4, xs) : jX) 2000 36 214 [.ref 158] jzv209 = some (.inl none, jzv209) := by
  refine jr_run (e := jm214) rfl (Nat.le_of_ble_eq_true rfl) ?_
  refine jl_s (S' := ((1, [(0, .ref 158)], [.ref 158], jzv209) : jS)) rfl ?_
  refine jl_s (S' := ((4, [(0, .ref 158)], [.int 0], jzv209) : jS)) rfl ?_
  refine jl_s (S' := ((5, [(0, .ref 158)], [.ref 158, .int 0], jzv209) : jS)) rfl ?_
  refine jl_s (S' := ((8, [(0, .ref 158)], [.int 0, .int 0], jzv209) : jS)) rfl ?_
  refine jl_s (S' := ((37, [(0, .ref 158)], [], jzv209) : jS)) rfl ?_
  exact jl_r (r := (.inl none, jzv209)) rfl
set_option maxHeartbeats 4000000 in
set_option maxRecDepth 100000 in
theorem jzl201 (xs : Nat → Int32) (hop : xs 0 &&& 31 = 2)  : jRun ((4, xs) : jX) 2000 37 212 [.ref 158, .int 0] jzv209 = some (.inl (some (.int 1)), jzv209) := by
  refine jr_run (e := jm212) rfl (Nat.le_of_ble_eq_true rfl) ?_
  refine jl_s (S' := ((1, [(0, .ref 158), (1, .int 0)], [.ref 158], jzv209) : jS)) rfl ?_
  refine jl_s (S' := ((2, [(0, .ref 158), (1, .int 0)], [.int 0, .ref 158], jzv209) : jS)) rfl ?_
  refine jl_s (S' := ((5, [(0, .ref 158), (1, .int 0)], [], jzv209) : jS)) rfl ?_
  refine jl_s (S' := ((6, [(0, .ref 158), (1, .int 0)], [.ref 158], jzv209) : jS)) rfl ?_
  refine jl_s (S' := ((7, [(0, .ref 158), (1, .int 0)], [.int 0, .ref 158], jzv209) : jS)) rfl ?_
  refine jl_s (S' := ((10, [(0, .ref 158), (1, .int 0)], [], jzv209) : jS)) rfl ?_
  refine jl_s (S' := ((11, [(0, .ref 158), (1, .int 0)], [.ref 158], jzv209) : jS)) rfl ?_
  refine jl_s (S' := ((14, [(0, .ref 158), (1, .int 0)], [.int 0], jzv209) : jS)) rfl ?_
  refine jl_s (S' := ((15, [(0, .ref 158), (1, .int 0)], [.ref 158, .int 0], jzv209) : jS)) rfl ?_
  refine jl_s (S' := ((18, [(0, .ref 158), (1, .int 0)], [.int 0, .int 0], jzv209) : jS)) rfl ?_
  refine jl_s (S' := ((75, [(0, .ref 158), (1, .int 0)], [], jzv209) : jS)) rfl ?_
  refine jl_s (S' := ((76, [(0, .ref 158), (1, .int 0)], [.ref 158], jzv209) : jS)) rfl ?_
  refine jl_s (S' := ((79, [(0, .ref 158), (1, .int 0)], [.int 0], jzv209) : jS)) rfl ?_
  refine jl_s (S' := ((80, [(2, .int 0), (0, .ref 158), (1, .int 0)], [], jzv209) : jS)) rfl ?_
  refine jl_s (S' := ((81, [(2, .int 0), (0, .ref 158), (1, .int 0)], [.int 0], jzv209) : jS)) rfl ?_
  refine jl_s (S' := ((82, [(2, .int 0), (0, .ref 158), (1, .int 0)], [.ref 158, .int 0], jzv209) : jS)) rfl ?_
  refine jl_s (S' := ((85, [(2, .int 0), (0, .ref 158), (1, .int 0)], [.int 0, .int 0], jzv209) : jS)) rfl ?_
  refine jl_s (S' := ((104, [(2, .int 0), (0, .ref 158), (1, .int 0)], [], jzv209) : jS)) rfl ?_
  refine jl_s (S' := ((105, [(2, .int 0), (0, .ref 158), (1, .int 0)], [.ref 158], jzv209) : jS)) rfl ?_
  refine jl_s (S' := ((106, [(2, .int 0), (0, .ref 158), (1, .int 0)], [.ref 158, .ref 158], jzv209) : jS)) rfl ?_
  refine jl_s (S' := ((109, [(2, .int 0), (0, .ref 158), (1, .int 0)], [.int 0, .ref 158], jzv209) : jS)) rfl ?_
  refine jl_s (S' := ((112, [(2, .int 0), (0, .ref 158), (1, .int 0)], [], jzv209) : jS)) rfl ?_
  refine jl_s (S' := ((113, [(2, .int 0), (0, .ref 158), (1, .int 0)], [.ref 158], jzv209) : jS)) rfl ?_
  refine jl_c (t := 214) (as := [.ref 158]) (V := jzv209) (r := (.inl none, jzv209)) (S' := ((116, [(2, .int 0), (0, .ref 158), (1, .int 0)], [], jzv209) : jS)) rfl (jzl200 xs hop ) rfl ?_
  refine jl_s (S' := ((117, [(2, .int 0), (0, .ref 158), (1, .int 0)], [.ref 158], jzv209) : jS)) rfl ?_
  refine jl_s (S' := ((120, [(2, .int 0), (0, .ref 158), (1, .int 0)], [.int 0], jzv209) : jS)) rfl ?_
  refine jl_s (S' := ((121, [(2, .int 0), (0, .ref 158), (1, .int 0)], [.ref 158, .int 0], jzv209) : jS)) rfl ?_
  refine jl_s (S' := ((124, [(2, .int 0), (0, .ref 158), (1, .int 0)], [.int 0, .int 0], jzv209) : jS)) rfl ?_
  refine jl_s (S' := ((125, [(2, .int 0), (0, .ref 158), (1, .int 0)], [.int 0], jzv209) : jS)) rfl ?_
  refine jl_s (S' := ((126, [(3, .int 0), (2, .int 0), (0, .ref 158), (1, .int 0)], [], jzv209) : jS)) rfl ?_
  refine jl_s (S' := ((127, [(3, .int 0), (2, .int 0), (0, .ref 158), (1, .int 0)], [.ref 158], jzv209) : jS)) rfl ?_
  refine jl_s (S' := ((130, [(3, .int 0), (2, .int 0), (0, .ref 158), (1, .int 0)], [.int 0], jzv209) : jS)) rfl ?_
  refine jl_s (S' := ((131, [(3, .int 0), (2, .int 0), (0, .ref 158), (1, .int 0)], [.ref 158, .int 0], jzv209) : jS)) rfl ?_
  refine jl_s (S' := ((134, [(3, .int 0), (2, .int 0), (0, .ref 158), (1, .int 0)], [.int 0, .int 0], jzv209) : jS)) rfl ?_
  refine jl_s (S' := ((141, [(3, .int 0), (2, .int 0), (0, .ref 158), (1, .int 0)], [], jzv209) : jS)) rfl ?_
  refine jl_s (S' := ((142, [(3, .int 0), (2, .int 0), (0, .ref 158), (1, .int 0)], [.int 0], jzv209) : jS)) rfl ?_
  refine jl_s (S' := ((144, [(4, .int 0), (3, .int 0), (2, .int 0), (0, .ref 158), (1, .int 0)], [], jzv209) : jS)) rfl ?_
  refine jl_s (S' := ((145, [(4, .int 0), (3, .int 0), (2, .int 0), (0, .ref 158), (1, .int 0)], [.ref 158], jzv209) : jS)) rfl ?_
  refine jl_s (S' := ((146, [(4, .int 0), (3, .int 0), (2, .int 0), (0, .ref 158), (1, .int 0)], [.int 0, .ref 158], jzv209) : jS)) rfl ?_
  refine jl_s (S' := ((147, [(4, .int 0), (3, .int 0), (2, .int 0), (0, .ref 158), (1, .int 0)], [.int 2, .int 0, .ref 158], jzv209) : jS)) rfl ?_
  refine jl_s (S' := ((148, [(4, .int 0), (3, .int 0), (2, .int 0), (0, .ref 158), (1, .int 0)], [.int 0, .ref 158], jzv209) : jS)) rfl ?_
  refine jl_s (S' := ((151, [(4, .int 0), (3, .int 0), (2, .int 0), (0, .ref 158), (1, .int 0)], [.ref 158], jzv209) : jS)) rfl ?_
  refine jl_s (S' := ((152, [(4, .int 0), (3, .int 0), (2, .int 0), (0, .ref 158), (1, .int 0)], [.int 0, .ref 158], jzv209) : jS)) rfl ?_
  refine jl_s (S' := ((153, [(4, .int 0), (3, .int 0), (2, .int 0), (0, .ref 158), (1, .int 0)], [.int 2, .int 0, .ref 158], jzv209) : jS)) rfl ?_
  refine jl_s (S' := ((154, [(4, .int 0), (3, .int 0), (2, .int 0), (0, .ref 158), (1, .int 0)], [.int 0, .ref 158], jzv209) : jS)) rfl ?_
  refine jl_s (S' := ((156, [(4, .int 0), (3, .int 0), (2, .int 0), (0, .ref 158), (1, .int 0)], [.int 15, .int 0, .ref 158], jzv209) : jS)) rfl ?_
  refine jl_s (S' := ((159, [(4, .int 0), (3, .int 0), (2, .int 0), (0, .ref 158), (1, .int 0)], [.ref 158], jzv209) : jS)) rfl ?_
  refine jl_s (S' := ((160, [(4, .int 0), (3, .int 0), (2, .int 0), (0, .ref 158), (1, .int 0)], [.int 0, .ref 158], jzv209) : jS)) rfl ?_
  refine jl_s (S' := ((161, [(4, .int 0), (3, .int 0), (2, .int 0), (0, .ref 158), (1, .int 0)], [.int 2, .int 0, .ref 158], jzv209) : jS)) rfl ?_
  refine jl_s (S' := ((162, [(4, .int 0), (3, .int 0), (2, .int 0), (0, .ref 158), (1, .int 0)], [.int 0, .ref 158], jzv209) : jS)) rfl ?_
  refine jl_s (S' := ((167, [(4, .int 0), (3, .int 0), (2, .int 0), (0, .ref 158), (1, .int 0)], [.int 0, .ref 158], jzv209) : jS)) rfl ?_
  refine jl_s (S' := ((170, [(4, .int 0), (3, .int 0), (2, .int 0), (0, .ref 158), (1, .int 0)], [], jzv209) : jS)) rfl ?_
  refine jl_s (S' := ((171, [(4, .int 0), (3, .int 0), (2, .int 0), (0, .ref 158), (1, .int 0)], [.ref 158], jzv209) : jS)) rfl ?_
  refine jl_s (S' := ((174, [(4, .int 0), (3, .int 0), (2, .int 0), (0, .ref 158), (1, .int 0)], [.int 0], jzv209) : jS)) rfl ?_
  refine jl_s (S' := ((176, [(5, .int 0), (4, .int 0), (3, .int 0), (2, .int 0), (0, .ref 158), (1, .int 0)], [], jzv209) : jS)) rfl ?_
  refine jl_s (S' := ((178, [(5, .int 0), (4, .int 0), (3, .int 0), (2, .int 0), (0, .ref 158), (1, .int 0)], [.int 0], jzv209) : jS)) rfl ?_
  refine jl_s (S' := ((179, [(5, .int 0), (4, .int 0), (3, .int 0), (2, .int 0), (0, .ref 158), (1, .int 0)], [.ref 158, .int 0], jzv209) : jS)) rfl ?_
  refine jl_s (S' := ((182, [(5, .int 0), (4, .int 0), (3, .int 0), (2, .int 0), (0, .ref 158), (1, .int 0)], [.int 0, .int 0], jzv209) : jS)) rfl ?_
  refine jl_s (S' := ((210, [(5, .int 0), (4, .int 0), (3, .int 0), (2, .int 0), (0, .ref 158), (1, .int 0)], [], jzv209) : jS)) rfl ?_
  refine jl_s (S' := ((212, [(5, .int 0), (4, .int 0), (3, .int 0), (2, .int 0), (0, .ref 158), (1, .int 0)], [.int 0], jzv209) : jS)) rfl ?_
  refine jl_s (S' := ((225, [(5, .int 0), (4, .int 0), (3, .int 0), (2, .int 0), (0, .ref 158), (1, .int 0)], [], jzv209) : jS)) rfl ?_
  refine jl_s (S' := ((226, [(5, .int 0), (4, .int 0), (3, .int 0), (2, .int 0), (0, .ref 158), (1, .int 0)], [.int 0], jzv209) : jS)) rfl ?_
  refine jl_s (S' := ((227, [(5, .int 0), (4, .int 0), (3, .int 0), (2, .int 0), (0, .ref 158), (1, .int 0)], [.int 1, .int 0], jzv209) : jS)) rfl ?_
  refine jl_s (S' := ((228, [(5, .int 0), (4, .int 0), (3, .int 0), (2, .int 0), (0, .ref 158), (1, .int 0)], [.int 1], jzv209) : jS)) rfl ?_
  exact jl_r (r := (.inl (some (.int 1)), jzv209)) rfl
set_option maxHeartbeats 4000000 in
set_option maxRecDepth 100000 in
theorem jzl202 (xs : Nat → Int32) (hop : xs 0 &&& 31 = 2)  : jRun ((4, xs) : jX) 2000 38 211 [.ref 158] jzv209 = some (.inl none, jzv209) := by
  refine jr_run (e := jm211) rfl (Nat.le_of_ble_eq_true rfl) ?_
  refine jl_s (S' := ((1, [(0, .ref 158)], [.int 0], jzv209) : jS)) rfl ?_
  refine jl_s (S' := ((2, [(1, .int 0), (0, .ref 158)], [], jzv209) : jS)) rfl ?_
  refine jl_s (S' := ((3, [(1, .int 0), (0, .ref 158)], [.int 0], jzv209) : jS)) rfl ?_
  refine jl_s (S' := ((4, [(2, .int 0), (1, .int 0), (0, .ref 158)], [], jzv209) : jS)) rfl ?_
  refine jl_s (S' := ((5, [(2, .int 0), (1, .int 0), (0, .ref 158)], [.int 0], jzv209) : jS)) rfl ?_
  refine jl_s (S' := ((6, [(2, .int 0), (1, .int 0), (0, .ref 158)], [.ref 158, .int 0], jzv209) : jS)) rfl ?_
  refine jl_s (S' := ((9, [(2, .int 0), (1, .int 0), (0, .ref 158)], [.int 0, .int 0], jzv209) : jS)) rfl ?_
  refine jl_s (S' := ((12, [(2, .int 0), (1, .int 0), (0, .ref 158)], [], jzv209) : jS)) rfl ?_
  refine jl_s (S' := ((13, [(2, .int 0), (1, .int 0), (0, .ref 158)], [.int 0], jzv209) : jS)) rfl ?_
  refine jl_s (S' := ((14, [(2, .int 0), (1, .int 0), (0, .ref 158)], [.ref 158, .int 0], jzv209) : jS)) rfl ?_
  refine jl_s (S' := ((17, [(2, .int 0), (1, .int 0), (0, .ref 158)], [.int 0, .int 0], jzv209) : jS)) rfl ?_
  refine jl_s (S' := ((20, [(2, .int 0), (1, .int 0), (0, .ref 158)], [], jzv209) : jS)) rfl ?_
  refine jl_s (S' := ((21, [(2, .int 0), (1, .int 0), (0, .ref 158)], [.ref 158], jzv209) : jS)) rfl ?_
  refine jl_s (S' := ((22, [(2, .int 0), (1, .int 0), (0, .ref 158)], [.int 0, .ref 158], jzv209) : jS)) rfl ?_
  refine jl_s (S' := ((25, [(2, .int 0), (1, .int 0), (0, .ref 158)], [], jzv209) : jS)) rfl ?_
  refine jl_s (S' := ((26, [(2, .int 0), (1, .int 0), (0, .ref 158)], [.ref 158], jzv209) : jS)) rfl ?_
  refine jl_s (S' := ((27, [(2, .int 0), (1, .int 0), (0, .ref 158)], [.int 0, .ref 158], jzv209) : jS)) rfl ?_
  refine jl_c (t := 212) (as := [.ref 158, .int 0]) (V := jzv209) (r := (.inl (some (.int 1)), jzv209)) (S' := ((30, [(2, .int 0), (1, .int 0), (0, .ref 158)], [.int 1], jzv209) : jS)) rfl (jzl201 xs hop ) rfl ?_
  refine jl_s (S' := ((31, [(1, .int 1), (2, .int 0), (0, .ref 158)], [], jzv209) : jS)) rfl ?_
  refine jl_s (S' := ((34, [(2, .int 1), (1, .int 1), (0, .ref 158)], [], jzv209) : jS)) rfl ?_
  refine jl_s (S' := ((4, [(2, .int 1), (1, .int 1), (0, .ref 158)], [], jzv209) : jS)) rfl ?_
  refine jl_s (S' := ((5, [(2, .int 1), (1, .int 1), (0, .ref 158)], [.int 1], jzv209) : jS)) rfl ?_
  refine jl_s (S' := ((6, [(2, .int 1), (1, .int 1), (0, .ref 158)], [.ref 158, .int 1], jzv209) : jS)) rfl ?_
  refine jl_s (S' := ((9, [(2, .int 1), (1, .int 1), (0, .ref 158)], [.int 0, .int 1], jzv209) : jS)) rfl ?_
  refine jl_s (S' := ((37, [(2, .int 1), (1, .int 1), (0, .ref 158)], [], jzv209) : jS)) rfl ?_
  exact jl_r (r := (.inl none, jzv209)) rfl
def jzc143 : jC := .inr (8, [.null, .null, .null, .int 0])
def jzv210 : jH := [jzc5, jzc2, jzc117, jzc7, jzc9, jzc9, jzc9, jzc9, jzc9, jzc17, jzc19, jzc19, jzc19, jzc19, jzc19, jzc19, jzc19, jzc19, jzc28, jzc28, jzc28, jzc28, jzc28, jzc28, jzc28, jzc28, jzc28, jzc28, jzc28, jzc28, jzc28, jzc28, jzc43, jzc43, jzc43, jzc43, jzc43, jzc49, jzc49, jzc52, jzc52, jzc52, jzc56, jzc56, jzc59, jzc56, jzc62, jzc28, jzc28, jzc28, jzc28, jzc28, jzc69, jzc71, jzc73, jzc43, jzc76, jzc52, jzc52, jzc80, jzc80, jzc80, jzc84, jzc52, jzc52, jzc52, jzc52, jzc52, jzc52, jzc52, jzc93, jzc93, jzc52, jzc52, jzc98, jzc100, jzc93, jzc52, jzc52, jzc52, jzc52, jzc107, jzc109, jzc111, jzc100, jzc100, jzc100, jzc111, jzc111, jzc118, jzc132, jzc127, jzc129, jzc131, jzc142, jzc136, jzc138, jzc118, jzc138, jzc136, jzc143]
def jzc144 : jC := .inr (8, [.ref 154, .null, .null, .int 0])
def jzv211 : jH := [jzc5, jzc2, jzc117, jzc7, jzc9, jzc9, jzc9, jzc9, jzc9, jzc17, jzc19, jzc19, jzc19, jzc19, jzc19, jzc19, jzc19, jzc19, jzc28, jzc28, jzc28, jzc28, jzc28, jzc28, jzc28, jzc28, jzc28, jzc28, jzc28, jzc28, jzc28, jzc28, jzc43, jzc43, jzc43, jzc43, jzc43, jzc49, jzc49, jzc52, jzc52, jzc52, jzc56, jzc56, jzc59, jzc56, jzc62, jzc28, jzc28, jzc28, jzc28, jzc28, jzc69, jzc71, jzc73, jzc43, jzc76, jzc52, jzc52, jzc80, jzc80, jzc80, jzc84, jzc52, jzc52, jzc52, jzc52, jzc52, jzc52, jzc52, jzc93, jzc93, jzc52, jzc52, jzc98, jzc100, jzc93, jzc52, jzc52, jzc52, jzc52, jzc107, jzc109, jzc111, jzc100, jzc100, jzc100, jzc111, jzc111, jzc118, jzc132, jzc127, jzc129, jzc131, jzc142, jzc136, jzc138, jzc118, jzc138, jzc136, jzc144]
def jzc145 : jC := .inr (8, [.ref 154, .ref 158, .null, .int 0])
def jzv212 : jH := [jzc5, jzc2, jzc117, jzc7, jzc9, jzc9, jzc9, jzc9, jzc9, jzc17, jzc19, jzc19, jzc19, jzc19, jzc19, jzc19, jzc19, jzc19, jzc28, jzc28, jzc28, jzc28, jzc28, jzc28, jzc28, jzc28, jzc28, jzc28, jzc28, jzc28, jzc28, jzc28, jzc43, jzc43, jzc43, jzc43, jzc43, jzc49, jzc49, jzc52, jzc52, jzc52, jzc56, jzc56, jzc59, jzc56, jzc62, jzc28, jzc28, jzc28, jzc28, jzc28, jzc69, jzc71, jzc73, jzc43, jzc76, jzc52, jzc52, jzc80, jzc80, jzc80, jzc84, jzc52, jzc52, jzc52, jzc52, jzc52, jzc52, jzc52, jzc93, jzc93, jzc52, jzc52, jzc98, jzc100, jzc93, jzc52, jzc52, jzc52, jzc52, jzc107, jzc109, jzc111, jzc100, jzc100, jzc100, jzc111, jzc111, jzc118, jzc132, jzc127, jzc129, jzc131, jzc142, jzc136, jzc138, jzc118, jzc138, jzc136, jzc145]
set_option maxHeartbeats 4000000 in
set_option maxRecDepth 100000 in
theorem jzl203 (xs : Nat → Int32) (hop : xs 0 &&& 31 = 2)  : jRun ((4, xs) : jX) 2000 38 159 [.ref 164, .ref 154, .ref 158] jzv210 = some (.inl none, jzv212) := by
  refine jr_run (e := jm159) rfl (Nat.le_of_ble_eq_true rfl) ?_
  refine jl_s (S' := ((1, [(0, .ref 164), (1, .ref 154), (2, .ref 158)], [.ref 164], jzv210) : jS)) rfl ?_
  refine jl_s (S' := ((4, [(0, .ref 164), (1, .ref 154), (2, .ref 158)], [], jzv210) : jS)) rfl ?_
  refine jl_s (S' := ((5, [(0, .ref 164), (1, .ref 154), (2, .ref 158)], [.ref 164], jzv210) : jS)) rfl ?_
  refine jl_s (S' := ((6, [(0, .ref 164), (1, .ref 154), (2, .ref 158)], [.ref 154, .ref 164], jzv210) : jS)) rfl ?_
  refine jl_s (S' := ((9, [(0, .ref 164), (1, .ref 154), (2, .ref 158)], [], jzv211) : jS)) rfl ?_
  refine jl_s (S' := ((10, [(0, .ref 164), (1, .ref 154), (2, .ref 158)], [.ref 164], jzv211) : jS)) rfl ?_
  refine jl_s (S' := ((11, [(0, .ref 164), (1, .ref 154), (2, .ref 158)], [.ref 158, .ref 164], jzv211) : jS)) rfl ?_
  refine jl_s (S' := ((14, [(0, .ref 164), (1, .ref 154), (2, .ref 158)], [], jzv212) : jS)) rfl ?_
  exact jl_r (r := (.inl none, jzv212)) rfl
def jzc146 : jC := .inr (6, [.int 0, .long 0, .int 0, .int 0, .int 0, .int 0, .int 0, .int 0, .int 0, .int 0, .int 0, .int 0, .null, .null, .null, .null])
def jzv213 : jH := [jzc5, jzc2, jzc117, jzc7, jzc9, jzc9, jzc9, jzc9, jzc9, jzc17, jzc19, jzc19, jzc19, jzc19, jzc19, jzc19, jzc19, jzc19, jzc28, jzc28, jzc28, jzc28, jzc28, jzc28, jzc28, jzc28, jzc28, jzc28, jzc28, jzc28, jzc28, jzc28, jzc43, jzc43, jzc43, jzc43, jzc43, jzc49, jzc49, jzc52, jzc52, jzc52, jzc56, jzc56, jzc59, jzc56, jzc62, jzc28, jzc28, jzc28, jzc28, jzc28, jzc69, jzc71, jzc73, jzc43, jzc76, jzc52, jzc52, jzc80, jzc80, jzc80, jzc84, jzc52, jzc52, jzc52, jzc52, jzc52, jzc52, jzc52, jzc93, jzc93, jzc52, jzc52, jzc98, jzc100, jzc93, jzc52, jzc52, jzc52, jzc52, jzc107, jzc109, jzc111, jzc100, jzc100, jzc100, jzc111, jzc111, jzc118, jzc132, jzc127, jzc129, jzc131, jzc142, jzc136, jzc138, jzc118, jzc138, jzc136, jzc145, jzc146]
set_option maxHeartbeats 4000000 in
set_option maxRecDepth 100000 in
theorem jzl204 (xs : Nat → Int32) (hop : xs 0 &&& 31 = 2)  : jRun ((4, xs) : jX) 2000 36 220 [.ref 4] jzv213 = some (.inl (some (.long 20456165710)), jzv213) := by
  refine jr_run (e := jm220) rfl (Nat.le_of_ble_eq_true rfl) ?_
  refine jl_s (S' := ((1, [(0, .ref 4)], [.long 0], jzv213) : jS)) rfl ?_
  refine jl_s (S' := ((2, [(1, .long 0), (0, .ref 4)], [], jzv213) : jS)) rfl ?_
  refine jl_s (S' := ((3, [(1, .long 0), (0, .ref 4)], [.int 0], jzv213) : jS)) rfl ?_
  refine jl_s (S' := ((4, [(3, .int 0), (1, .long 0), (0, .ref 4)], [], jzv213) : jS)) rfl ?_
  refine jl_s (S' := ((5, [(3, .int 0), (1, .long 0), (0, .ref 4)], [.int 0], jzv213) : jS)) rfl ?_
  refine jl_s (S' := ((6, [(3, .int 0), (1, .long 0), (0, .ref 4)], [.ref 4, .int 0], jzv213) : jS)) rfl ?_
  refine jl_s (S' := ((9, [(3, .int 0), (1, .long 0), (0, .ref 4)], [.int 6, .int 0], jzv213) : jS)) rfl ?_
  refine jl_s (S' := ((12, [(3, .int 0), (1, .long 0), (0, .ref 4)], [], jzv213) : jS)) rfl ?_
  refine jl_s (S' := ((13, [(3, .int 0), (1, .long 0), (0, .ref 4)], [.long 0], jzv213) : jS)) rfl ?_
  refine jl_s (S' := ((16, [(3, .int 0), (1, .long 0), (0, .ref 4)], [.long 64, .long 0], jzv213) : jS)) rfl ?_
  refine jl_s (S' := ((17, [(3, .int 0), (1, .long 0), (0, .ref 4)], [.long 0], jzv213) : jS)) rfl ?_
  refine jl_s (S' := ((19, [(3, .int 0), (1, .long 0), (0, .ref 4)], [.ref 0, .long 0], jzv213) : jS)) rfl ?_
  refine jl_s (S' := ((20, [(3, .int 0), (1, .long 0), (0, .ref 4)], [.ref 4, .ref 0, .long 0], jzv213) : jS)) rfl ?_
  refine jl_s (S' := ((21, [(3, .int 0), (1, .long 0), (0, .ref 4)], [.int 0, .ref 4, .ref 0, .long 0], jzv213) : jS)) rfl ?_
  refine jl_s (S' := ((24, [(3, .int 0), (1, .long 0), (0, .ref 4)], [.int 115, .ref 0, .long 0], jzv213) : jS)) rfl ?_
  refine jl_s (S' := ((27, [(3, .int 0), (1, .long 0), (0, .ref 4)], [.int 19, .long 0], jzv213) : jS)) rfl ?_
  refine jl_s (S' := ((28, [(3, .int 0), (1, .long 0), (0, .ref 4)], [.long 19, .long 0], jzv213) : jS)) rfl ?_
  refine jl_s (S' := ((29, [(3, .int 0), (1, .long 0), (0, .ref 4)], [.long 19], jzv213) : jS)) rfl ?_
  refine jl_s (S' := ((30, [(1, .long 19), (3, .int 0), (0, .ref 4)], [], jzv213) : jS)) rfl ?_
  refine jl_s (S' := ((33, [(3, .int 1), (1, .long 19), (0, .ref 4)], [], jzv213) : jS)) rfl ?_
  refine jl_s (S' := ((4, [(3, .int 1), (1, .long 19), (0, .ref 4)], [], jzv213) : jS)) rfl ?_
  refine jl_s (S' := ((5, [(3, .int 1), (1, .long 19), (0, .ref 4)], [.int 1], jzv213) : jS)) rfl ?_
  refine jl_s (S' := ((6, [(3, .int 1), (1, .long 19), (0, .ref 4)], [.ref 4, .int 1], jzv213) : jS)) rfl ?_
  refine jl_s (S' := ((9, [(3, .int 1), (1, .long 19), (0, .ref 4)], [.int 6, .int 1], jzv213) : jS)) rfl ?_
  refine jl_s (S' := ((12, [(3, .int 1), (1, .long 19), (0, .ref 4)], [], jzv213) : jS)) rfl ?_
  refine jl_s (S' := ((13, [(3, .int 1), (1, .long 19), (0, .ref 4)], [.long 19], jzv213) : jS)) rfl ?_
  refine jl_s (S' := ((16, [(3, .int 1), (1, .long 19), (0, .ref 4)], [.long 64, .long 19], jzv213) : jS)) rfl ?_
  refine jl_s (S' := ((17, [(3, .int 1), (1, .long 19), (0, .ref 4)], [.long 1216], jzv213) : jS)) rfl ?_
  refine jl_s (S' := ((19, [(3, .int 1), (1, .long 19), (0, .ref 4)], [.ref 0, .long 1216], jzv213) : jS)) rfl ?_
  refine jl_s (S' := ((20, [(3, .int 1), (1, .long 19), (0, .ref 4)], [.ref 4, .ref 0, .long 1216], jzv213) : jS)) rfl ?_
  refine jl_s (S' := ((21, [(3, .int 1), (1, .long 19), (0, .ref 4)], [.int 1, .ref 4, .ref 0, .long 1216], jzv213) : jS)) rfl ?_
  refine jl_s (S' := ((24, [(3, .int 1), (1, .long 19), (0, .ref 4)], [.int 99, .ref 0, .long 1216], jzv213) : jS)) rfl ?_
  refine jl_s (S' := ((27, [(3, .int 1), (1, .long 19), (0, .ref 4)], [.int 3, .long 1216], jzv213) : jS)) rfl ?_
  refine jl_s (S' := ((28, [(3, .int 1), (1, .long 19), (0, .ref 4)], [.long 3, .long 1216], jzv213) : jS)) rfl ?_
  refine jl_s (S' := ((29, [(3, .int 1), (1, .long 19), (0, .ref 4)], [.long 1219], jzv213) : jS)) rfl ?_
  refine jl_s (S' := ((30, [(1, .long 1219), (3, .int 1), (0, .ref 4)], [], jzv213) : jS)) rfl ?_
  refine jl_s (S' := ((33, [(3, .int 2), (1, .long 1219), (0, .ref 4)], [], jzv213) : jS)) rfl ?_
  refine jl_s (S' := ((4, [(3, .int 2), (1, .long 1219), (0, .ref 4)], [], jzv213) : jS)) rfl ?_
  refine jl_s (S' := ((5, [(3, .int 2), (1, .long 1219), (0, .ref 4)], [.int 2], jzv213) : jS)) rfl ?_
  refine jl_s (S' := ((6, [(3, .int 2), (1, .long 1219), (0, .ref 4)], [.ref 4, .int 2], jzv213) : jS)) rfl ?_
  refine jl_s (S' := ((9, [(3, .int 2), (1, .long 1219), (0, .ref 4)], [.int 6, .int 2], jzv213) : jS)) rfl ?_
  refine jl_s (S' := ((12, [(3, .int 2), (1, .long 1219), (0, .ref 4)], [], jzv213) : jS)) rfl ?_
  refine jl_s (S' := ((13, [(3, .int 2), (1, .long 1219), (0, .ref 4)], [.long 1219], jzv213) : jS)) rfl ?_
  refine jl_s (S' := ((16, [(3, .int 2), (1, .long 1219), (0, .ref 4)], [.long 64, .long 1219], jzv213) : jS)) rfl ?_
  refine jl_s (S' := ((17, [(3, .int 2), (1, .long 1219), (0, .ref 4)], [.long 78016], jzv213) : jS)) rfl ?_
  refine jl_s (S' := ((19, [(3, .int 2), (1, .long 1219), (0, .ref 4)], [.ref 0, .long 78016], jzv213) : jS)) rfl ?_
  refine jl_s (S' := ((20, [(3, .int 2), (1, .long 1219), (0, .ref 4)], [.ref 4, .ref 0, .long 78016], jzv213) : jS)) rfl ?_
  refine jl_s (S' := ((21, [(3, .int 2), (1, .long 1219), (0, .ref 4)], [.int 2, .ref 4, .ref 0, .long 78016], jzv213) : jS)) rfl ?_
  refine jl_s (S' := ((24, [(3, .int 2), (1, .long 1219), (0, .ref 4)], [.int 114, .ref 0, .long 78016], jzv213) : jS)) rfl ?_
  refine jl_s (S' := ((27, [(3, .int 2), (1, .long 1219), (0, .ref 4)], [.int 18, .long 78016], jzv213) : jS)) rfl ?_
  refine jl_s (S' := ((28, [(3, .int 2), (1, .long 1219), (0, .ref 4)], [.long 18, .long 78016], jzv213) : jS)) rfl ?_
  refine jl_s (S' := ((29, [(3, .int 2), (1, .long 1219), (0, .ref 4)], [.long 78034], jzv213) : jS)) rfl ?_
  refine jl_s (S' := ((30, [(1, .long 78034), (3, .int 2), (0, .ref 4)], [], jzv213) : jS)) rfl ?_
  refine jl_s (S' := ((33, [(3, .int 3), (1, .long 78034), (0, .ref 4)], [], jzv213) : jS)) rfl ?_
  refine jl_s (S' := ((4, [(3, .int 3), (1, .long 78034), (0, .ref 4)], [], jzv213) : jS)) rfl ?_
  refine jl_s (S' := ((5, [(3, .int 3), (1, .long 78034), (0, .ref 4)], [.int 3], jzv213) : jS)) rfl ?_
  refine jl_s (S' := ((6, [(3, .int 3), (1, .long 78034), (0, .ref 4)], [.ref 4, .int 3], jzv213) : jS)) rfl ?_
  refine jl_s (S' := ((9, [(3, .int 3), (1, .long 78034), (0, .ref 4)], [.int 6, .int 3], jzv213) : jS)) rfl ?_
  refine jl_s (S' := ((12, [(3, .int 3), (1, .long 78034), (0, .ref 4)], [], jzv213) : jS)) rfl ?_
  refine jl_s (S' := ((13, [(3, .int 3), (1, .long 78034), (0, .ref 4)], [.long 78034], jzv213) : jS)) rfl ?_
  refine jl_s (S' := ((16, [(3, .int 3), (1, .long 78034), (0, .ref 4)], [.long 64, .long 78034], jzv213) : jS)) rfl ?_
  refine jl_s (S' := ((17, [(3, .int 3), (1, .long 78034), (0, .ref 4)], [.long 4994176], jzv213) : jS)) rfl ?_
  refine jl_s (S' := ((19, [(3, .int 3), (1, .long 78034), (0, .ref 4)], [.ref 0, .long 4994176], jzv213) : jS)) rfl ?_
  refine jl_s (S' := ((20, [(3, .int 3), (1, .long 78034), (0, .ref 4)], [.ref 4, .ref 0, .long 4994176], jzv213) : jS)) rfl ?_
  refine jl_s (S' := ((21, [(3, .int 3), (1, .long 78034), (0, .ref 4)], [.int 3, .ref 4, .ref 0, .long 4994176], jzv213) : jS)) rfl ?_
  refine jl_s (S' := ((24, [(3, .int 3), (1, .long 78034), (0, .ref 4)], [.int 101, .ref 0, .long 4994176], jzv213) : jS)) rfl ?_
  refine jl_s (S' := ((27, [(3, .int 3), (1, .long 78034), (0, .ref 4)], [.int 5, .long 4994176], jzv213) : jS)) rfl ?_
  refine jl_s (S' := ((28, [(3, .int 3), (1, .long 78034), (0, .ref 4)], [.long 5, .long 4994176], jzv213) : jS)) rfl ?_
  refine jl_s (S' := ((29, [(3, .int 3), (1, .long 78034), (0, .ref 4)], [.long 4994181], jzv213) : jS)) rfl ?_
  refine jl_s (S' := ((30, [(1, .long 4994181), (3, .int 3), (0, .ref 4)], [], jzv213) : jS)) rfl ?_
  refine jl_s (S' := ((33, [(3, .int 4), (1, .long 4994181), (0, .ref 4)], [], jzv213) : jS)) rfl ?_
  refine jl_s (S' := ((4, [(3, .int 4), (1, .long 4994181), (0, .ref 4)], [], jzv213) : jS)) rfl ?_
  refine jl_s (S' := ((5, [(3, .int 4), (1, .long 4994181), (0, .ref 4)], [.int 4], jzv213) : jS)) rfl ?_
  refine jl_s (S' := ((6, [(3, .int 4), (1, .long 4994181), (0, .ref 4)], [.ref 4, .int 4], jzv213) : jS)) rfl ?_
  refine jl_s (S' := ((9, [(3, .int 4), (1, .long 4994181), (0, .ref 4)], [.int 6, .int 4], jzv213) : jS)) rfl ?_
  refine jl_s (S' := ((12, [(3, .int 4), (1, .long 4994181), (0, .ref 4)], [], jzv213) : jS)) rfl ?_
  refine jl_s (S' := ((13, [(3, .int 4), (1, .long 4994181), (0, .ref 4)], [.long 4994181], jzv213) : jS)) rfl ?_
  refine jl_s (S' := ((16, [(3, .int 4), (1, .long 4994181), (0, .ref 4)], [.long 64, .long 4994181], jzv213) : jS)) rfl ?_
  refine jl_s (S' := ((17, [(3, .int 4), (1, .long 4994181), (0, .ref 4)], [.long 319627584], jzv213) : jS)) rfl ?_
  refine jl_s (S' := ((19, [(3, .int 4), (1, .long 4994181), (0, .ref 4)], [.ref 0, .long 319627584], jzv213) : jS)) rfl ?_
  refine jl_s (S' := ((20, [(3, .int 4), (1, .long 4994181), (0, .ref 4)], [.ref 4, .ref 0, .long 319627584], jzv213) : jS)) rfl ?_
  refine jl_s (S' := ((21, [(3, .int 4), (1, .long 4994181), (0, .ref 4)], [.int 4, .ref 4, .ref 0, .long 319627584], jzv213) : jS)) rfl ?_
  refine jl_s (S' := ((24, [(3, .int 4), (1, .long 4994181), (0, .ref 4)], [.int 101, .ref 0, .long 319627584], jzv213) : jS)) rfl ?_
  refine jl_s (S' := ((27, [(3, .int 4), (1, .long 4994181), (0, .ref 4)], [.int 5, .long 319627584], jzv213) : jS)) rfl ?_
  refine jl_s (S' := ((28, [(3, .int 4), (1, .long 4994181), (0, .ref 4)], [.long 5, .long 319627584], jzv213) : jS)) rfl ?_
  refine jl_s (S' := ((29, [(3, .int 4), (1, .long 4994181), (0, .ref 4)], [.long 319627589], jzv213) : jS)) rfl ?_
  refine jl_s (S' := ((30, [(1, .long 319627589), (3, .int 4), (0, .ref 4)], [], jzv213) : jS)) rfl ?_
  refine jl_s (S' := ((33, [(3, .int 5), (1, .long 319627589), (0, .ref 4)], [], jzv213) : jS)) rfl ?_
  refine jl_s (S' := ((4, [(3, .int 5), (1, .long 319627589), (0, .ref 4)], [], jzv213) : jS)) rfl ?_
  refine jl_s (S' := ((5, [(3, .int 5), (1, .long 319627589), (0, .ref 4)], [.int 5], jzv213) : jS)) rfl ?_
  refine jl_s (S' := ((6, [(3, .int 5), (1, .long 319627589), (0, .ref 4)], [.ref 4, .int 5], jzv213) : jS)) rfl ?_
  refine jl_s (S' := ((9, [(3, .int 5), (1, .long 319627589), (0, .ref 4)], [.int 6, .int 5], jzv213) : jS)) rfl ?_
  refine jl_s (S' := ((12, [(3, .int 5), (1, .long 319627589), (0, .ref 4)], [], jzv213) : jS)) rfl ?_
  refine jl_s (S' := ((13, [(3, .int 5), (1, .long 319627589), (0, .ref 4)], [.long 319627589], jzv213) : jS)) rfl ?_
  refine jl_s (S' := ((16, [(3, .int 5), (1, .long 319627589), (0, .ref 4)], [.long 64, .long 319627589], jzv213) : jS)) rfl ?_
  refine jl_s (S' := ((17, [(3, .int 5), (1, .long 319627589), (0, .ref 4)], [.long 20456165696], jzv213) : jS)) rfl ?_
  refine jl_s (S' := ((19, [(3, .int 5), (1, .long 319627589), (0, .ref 4)], [.ref 0, .long 20456165696], jzv213) : jS)) rfl ?_
  refine jl_s (S' := ((20, [(3, .int 5), (1, .long 319627589), (0, .ref 4)], [.ref 4, .ref 0, .long 20456165696], jzv213) : jS)) rfl ?_
  refine jl_s (S' := ((21, [(3, .int 5), (1, .long 319627589), (0, .ref 4)], [.int 5, .ref 4, .ref 0, .long 20456165696], jzv213) : jS)) rfl ?_
  refine jl_s (S' := ((24, [(3, .int 5), (1, .long 319627589), (0, .ref 4)], [.int 110, .ref 0, .long 20456165696], jzv213) : jS)) rfl ?_
  refine jl_s (S' := ((27, [(3, .int 5), (1, .long 319627589), (0, .ref 4)], [.int 14, .long 20456165696], jzv213) : jS)) rfl ?_
  refine jl_s (S' := ((28, [(3, .int 5), (1, .long 319627589), (0, .ref 4)], [.long 14, .long 20456165696], jzv213) : jS)) rfl ?_
  refine jl_s (S' := ((29, [(3, .int 5), (1, .long 319627589), (0, .ref 4)], [.long 20456165710], jzv213) : jS)) rfl ?_
  refine jl_s (S' := ((30, [(1, .long 20456165710), (3, .int 5), (0, .ref 4)], [], jzv213) : jS)) rfl ?_
  refine jl_s (S' := ((33, [(3, .int 6), (1, .long 20456165710), (0, .ref 4)], [], jzv213) : jS)) rfl ?_
  refine jl_s (S' := ((4, [(3, .int 6), (1, .long 20456165710), (0, .ref 4)], [], jzv213) : jS)) rfl ?_
  refine jl_s (S' := ((5, [(3, .int 6), (1, .long 20456165710), (0, .ref 4)], [.int 6], jzv213) : jS)) rfl ?_
  refine jl_s (S' := ((6, [(3, .int 6), (1, .long 20456165710), (0, .ref 4)], [.ref 4, .int 6], jzv213) : jS)) rfl ?_
  refine jl_s (S' := ((9, [(3, .int 6), (1, .long 20456165710), (0, .ref 4)], [.int 6, .int 6], jzv213) : jS)) rfl ?_
  refine jl_s (S' := ((36, [(3, .int 6), (1, .long 20456165710), (0, .ref 4)], [], jzv213) : jS)) rfl ?_
  refine jl_s (S' := ((37, [(3, .int 6), (1, .long 20456165710), (0, .ref 4)], [.long 20456165710], jzv213) : jS)) rfl ?_
  exact jl_r (r := (.inl (some (.long 20456165710)), jzv213)) rfl
def jzc147 : jC := .inr (6, [.int 10, .long 0, .int 0, .int 0, .int 0, .int 0, .int 0, .int 0, .int 0, .int 0, .int 0, .int 0, .null, .null, .null, .null])
def jzv214 : jH := [jzc5, jzc2, jzc117, jzc7, jzc9, jzc9, jzc9, jzc9, jzc9, jzc17, jzc19, jzc19, jzc19, jzc19, jzc19, jzc19, jzc19, jzc19, jzc28, jzc28, jzc28, jzc28, jzc28, jzc28, jzc28, jzc28, jzc28, jzc28, jzc28, jzc28, jzc28, jzc28, jzc43, jzc43, jzc43, jzc43, jzc43, jzc49, jzc49, jzc52, jzc52, jzc52, jzc56, jzc56, jzc59, jzc56, jzc62, jzc28, jzc28, jzc28, jzc28, jzc28, jzc69, jzc71, jzc73, jzc43, jzc76, jzc52, jzc52, jzc80, jzc80, jzc80, jzc84, jzc52, jzc52, jzc52, jzc52, jzc52, jzc52, jzc52, jzc93, jzc93, jzc52, jzc52, jzc98, jzc100, jzc93, jzc52, jzc52, jzc52, jzc52, jzc107, jzc109, jzc111, jzc100, jzc100, jzc100, jzc111, jzc111, jzc118, jzc132, jzc127, jzc129, jzc131, jzc142, jzc136, jzc138, jzc118, jzc138, jzc136, jzc145, jzc147]
def jzc148 : jC := .inr (6, [.int 10, .long 20456165710, .int 0, .int 0, .int 0, .int 0, .int 0, .int 0, .int 0, .int 0, .int 0, .int 0, .null, .null, .null, .null])
def jzv215 : jH := [jzc5, jzc2, jzc117, jzc7, jzc9, jzc9, jzc9, jzc9, jzc9, jzc17, jzc19, jzc19, jzc19, jzc19, jzc19, jzc19, jzc19, jzc19, jzc28, jzc28, jzc28, jzc28, jzc28, jzc28, jzc28, jzc28, jzc28, jzc28, jzc28, jzc28, jzc28, jzc28, jzc43, jzc43, jzc43, jzc43, jzc43, jzc49, jzc49, jzc52, jzc52, jzc52, jzc56, jzc56, jzc59, jzc56, jzc62, jzc28, jzc28, jzc28, jzc28, jzc28, jzc69, jzc71, jzc73, jzc43, jzc76, jzc52, jzc52, jzc80, jzc80, jzc80, jzc84, jzc52, jzc52, jzc52, jzc52, jzc52, jzc52, jzc52, jzc93, jzc93, jzc52, jzc52, jzc98, jzc100, jzc93, jzc52, jzc52, jzc52, jzc52, jzc107, jzc109, jzc111, jzc100, jzc100, jzc100, jzc111, jzc111, jzc118, jzc132, jzc127, jzc129, jzc131, jzc142, jzc136, jzc138, jzc118, jzc138, jzc136, jzc145, jzc148]
def jzc149 : jC := .inr (6, [.int 10, .long 20456165710, .int 0, .int 1, .int 0, .int 0, .int 0, .int 0, .int 0, .int 0, .int 0, .int 0, .null, .null, .null, .null])
def jzv216 : jH := [jzc5, jzc2, jzc117, jzc7, jzc9, jzc9, jzc9, jzc9, jzc9, jzc17, jzc19, jzc19, jzc19, jzc19, jzc19, jzc19, jzc19, jzc19, jzc28, jzc28, jzc28, jzc28, jzc28, jzc28, jzc28, jzc28, jzc28, jzc28, jzc28, jzc28, jzc28, jzc28, jzc43, jzc43, jzc43, jzc43, jzc43, jzc49, jzc49, jzc52, jzc52, jzc52, jzc56, jzc56, jzc59, jzc56, jzc62, jzc28, jzc28, jzc28, jzc28, jzc28, jzc69, jzc71, jzc73, jzc43, jzc76, jzc52, jzc52, jzc80, jzc80, jzc80, jzc84, jzc52, jzc52, jzc52, jzc52, jzc52, jzc52, jzc52, jzc93, jzc93, jzc52, jzc52, jzc98, jzc100, jzc93, jzc52, jzc52, jzc52, jzc52, jzc107, jzc109, jzc111, jzc100, jzc100, jzc100, jzc111, jzc111, jzc118, jzc132, jzc127, jzc129, jzc131, jzc142, jzc136, jzc138, jzc118, jzc138, jzc136, jzc145, jzc149]
set_option maxHeartbeats 4000000 in
set_option maxRecDepth 100000 in
theorem jzl205 (xs : Nat → Int32) (hop : xs 0 &&& 31 = 2)  : jRun ((4, xs) : jX) 2000 36 153 [.ref 165, .int 10, .long 20456165710, .int 0, .int 1] jzv213 = some (.inl none, jzv216) := by
  refine jr_run (e := jm153) rfl (Nat.le_of_ble_eq_true rfl) ?_
  refine jl_s (S' := ((1, [(0, .ref 165), (1, .int 10), (2, .long 20456165710), (4, .int 0), (5, .int 1)], [.ref 165], jzv213) : jS)) rfl ?_
  refine jl_s (S' := ((4, [(0, .ref 165), (1, .int 10), (2, .long 20456165710), (4, .int 0), (5, .int 1)], [], jzv213) : jS)) rfl ?_
  refine jl_s (S' := ((5, [(0, .ref 165), (1, .int 10), (2, .long 20456165710), (4, .int 0), (5, .int 1)], [.ref 165], jzv213) : jS)) rfl ?_
  refine jl_s (S' := ((6, [(0, .ref 165), (1, .int 10), (2, .long 20456165710), (4, .int 0), (5, .int 1)], [.int 10, .ref 165], jzv213) : jS)) rfl ?_
  refine jl_s (S' := ((9, [(0, .ref 165), (1, .int 10), (2, .long 20456165710), (4, .int 0), (5, .int 1)], [], jzv214) : jS)) rfl ?_
  refine jl_s (S' := ((10, [(0, .ref 165), (1, .int 10), (2, .long 20456165710), (4, .int 0), (5, .int 1)], [.ref 165], jzv214) : jS)) rfl ?_
  refine jl_s (S' := ((11, [(0, .ref 165), (1, .int 10), (2, .long 20456165710), (4, .int 0), (5, .int 1)], [.long 20456165710, .ref 165], jzv214) : jS)) rfl ?_
  refine jl_s (S' := ((14, [(0, .ref 165), (1, .int 10), (2, .long 20456165710), (4, .int 0), (5, .int 1)], [], jzv215) : jS)) rfl ?_
  refine jl_s (S' := ((15, [(0, .ref 165), (1, .int 10), (2, .long 20456165710), (4, .int 0), (5, .int 1)], [.ref 165], jzv215) : jS)) rfl ?_
  refine jl_s (S' := ((17, [(0, .ref 165), (1, .int 10), (2, .long 20456165710), (4, .int 0), (5, .int 1)], [.int 0, .ref 165], jzv215) : jS)) rfl ?_
  refine jl_s (S' := ((20, [(0, .ref 165), (1, .int 10), (2, .long 20456165710), (4, .int 0), (5, .int 1)], [], jzv215) : jS)) rfl ?_
  refine jl_s (S' := ((21, [(0, .ref 165), (1, .int 10), (2, .long 20456165710), (4, .int 0), (5, .int 1)], [.ref 165], jzv215) : jS)) rfl ?_
  refine jl_s (S' := ((23, [(0, .ref 165), (1, .int 10), (2, .long 20456165710), (4, .int 0), (5, .int 1)], [.int 1, .ref 165], jzv215) : jS)) rfl ?_
  refine jl_s (S' := ((26, [(0, .ref 165), (1, .int 10), (2, .long 20456165710), (4, .int 0), (5, .int 1)], [], jzv216) : jS)) rfl ?_
  exact jl_r (r := (.inl none, jzv216)) rfl
def jzc150 : jC := .inr (6, [.int 10, .long 20456165710, .int 0, .int 1, .int 0, .int 12, .int 0, .int 0, .int 0, .int 0, .int 0, .int 0, .null, .null, .null, .null])
def jzv217 : jH := [jzc5, jzc2, jzc117, jzc7, jzc9, jzc9, jzc9, jzc9, jzc9, jzc17, jzc19, jzc19, jzc19, jzc19, jzc19, jzc19, jzc19, jzc19, jzc28, jzc28, jzc28, jzc28, jzc28, jzc28, jzc28, jzc28, jzc28, jzc28, jzc28, jzc28, jzc28, jzc28, jzc43, jzc43, jzc43, jzc43, jzc43, jzc49, jzc49, jzc52, jzc52, jzc52, jzc56, jzc56, jzc59, jzc56, jzc62, jzc28, jzc28, jzc28, jzc28, jzc28, jzc69, jzc71, jzc73, jzc43, jzc76, jzc52, jzc52, jzc80, jzc80, jzc80, jzc84, jzc52, jzc52, jzc52, jzc52, jzc52, jzc52, jzc52, jzc93, jzc93, jzc52, jzc52, jzc98, jzc100, jzc93, jzc52, jzc52, jzc52, jzc52, jzc107, jzc109, jzc111, jzc100, jzc100, jzc100, jzc111, jzc111, jzc118, jzc132, jzc127, jzc129, jzc131, jzc142, jzc136, jzc138, jzc118, jzc138, jzc136, jzc145, jzc150]
def jzc151 : jC := .inr (8, [.ref 154, .ref 158, .ref 165, .int 0])
def jzv218 : jH := [jzc5, jzc2, jzc117, jzc7, jzc9, jzc9, jzc9, jzc9, jzc9, jzc17, jzc19, jzc19, jzc19, jzc19, jzc19, jzc19, jzc19, jzc19, jzc28, jzc28, jzc28, jzc28, jzc28, jzc28, jzc28, jzc28, jzc28, jzc28, jzc28, jzc28, jzc28, jzc28, jzc43, jzc43, jzc43, jzc43, jzc43, jzc49, jzc49, jzc52, jzc52, jzc52, jzc56, jzc56, jzc59, jzc56, jzc62, jzc28, jzc28, jzc28, jzc28, jzc28, jzc69, jzc71, jzc73, jzc43, jzc76, jzc52, jzc52, jzc80, jzc80, jzc80, jzc84, jzc52, jzc52, jzc52, jzc52, jzc52, jzc52, jzc52, jzc93, jzc93, jzc52, jzc52, jzc98, jzc100, jzc93, jzc52, jzc52, jzc52, jzc52, jzc107, jzc109, jzc111, jzc100, jzc100, jzc100, jzc111, jzc111, jzc118, jzc132, jzc127, jzc129, jzc131, jzc142, jzc136, jzc138, jzc118, jzc138, jzc136, jzc151, jzc150]
set_option maxHeartbeats 4000000 in
set_option maxRecDepth 100000 in
theorem jzl206 (xs : Nat → Int32) (hop : xs 0 &&& 31 = 2)  : jRun ((4, xs) : jX) 2000 36 168 [.ref 164, .ref 165] jzv217 = some (.inl none, jzv218) := by
  refine jr_run (e := jm168) rfl (Nat.le_of_ble_eq_true rfl) ?_
  refine jl_s (S' := ((1, [(0, .ref 164), (1, .ref 165)], [.ref 165], jzv217) : jS)) rfl ?_
  refine jl_s (S' := ((2, [(0, .ref 164), (1, .ref 165)], [.ref 164, .ref 165], jzv217) : jS)) rfl ?_
  refine jl_s (S' := ((5, [(0, .ref 164), (1, .ref 165)], [.null, .ref 165], jzv217) : jS)) rfl ?_
  refine jl_s (S' := ((8, [(0, .ref 164), (1, .ref 165)], [], jzv217) : jS)) rfl ?_
  refine jl_s (S' := ((9, [(0, .ref 164), (1, .ref 165)], [.ref 164], jzv217) : jS)) rfl ?_
  refine jl_s (S' := ((10, [(0, .ref 164), (1, .ref 165)], [.ref 165, .ref 164], jzv217) : jS)) rfl ?_
  refine jl_s (S' := ((13, [(0, .ref 164), (1, .ref 165)], [], jzv218) : jS)) rfl ?_
  exact jl_r (r := (.inl none, jzv218)) rfl
set_option maxHeartbeats 4000000 in
set_option maxRecDepth 100000 in
theorem jzl207 (xs : Nat → Int32) (hop : xs 0 &&& 31 = 2)  : jRun ((4, xs) : jX) 2000 37 161 [.ref 164, .ref 4, .int 12] jzv212 = some (.inl none, jzv218) := by
  refine jr_run (e := jm161) rfl (Nat.le_of_ble_eq_true rfl) ?_
  refine jl_s (S' := ((3, [(0, .ref 164), (1, .ref 4), (2, .int 12)], [.ref 165], jzv213) : jS)) rfl ?_
  refine jl_s (S' := ((4, [(0, .ref 164), (1, .ref 4), (2, .int 12)], [.ref 165, .ref 165], jzv213) : jS)) rfl ?_
  refine jl_s (S' := ((6, [(0, .ref 164), (1, .ref 4), (2, .int 12)], [.int 10, .ref 165, .ref 165], jzv213) : jS)) rfl ?_
  refine jl_s (S' := ((7, [(0, .ref 164), (1, .ref 4), (2, .int 12)], [.ref 4, .int 10, .ref 165, .ref 165], jzv213) : jS)) rfl ?_
  refine jl_c (t := 220) (as := [.ref 4]) (V := jzv213) (r := (.inl (some (.long 20456165710)), jzv213)) (S' := ((10, [(0, .ref 164), (1, .ref 4), (2, .int 12)], [.long 20456165710, .int 10, .ref 165, .ref 165], jzv213) : jS)) rfl (jzl204 xs hop ) rfl ?_
  refine jl_s (S' := ((11, [(0, .ref 164), (1, .ref 4), (2, .int 12)], [.int 0, .long 20456165710, .int 10, .ref 165, .ref 165], jzv213) : jS)) rfl ?_
  refine jl_s (S' := ((12, [(0, .ref 164), (1, .ref 4), (2, .int 12)], [.int 1, .int 0, .long 20456165710, .int 10, .ref 165, .ref 165], jzv213) : jS)) rfl ?_
  refine jl_c (t := 153) (as := [.ref 165, .int 10, .long 20456165710, .int 0, .int 1]) (V := jzv213) (r := (.inl none, jzv216)) (S' := ((15, [(0, .ref 164), (1, .ref 4), (2, .int 12)], [.ref 165], jzv216) : jS)) rfl (jzl205 xs hop ) rfl ?_
  refine jl_s (S' := ((16, [(3, .ref 165), (0, .ref 164), (1, .ref 4), (2, .int 12)], [], jzv216) : jS)) rfl ?_
  refine jl_s (S' := ((17, [(3, .ref 165), (0, .ref 164), (1, .ref 4), (2, .int 12)], [.ref 165], jzv216) : jS)) rfl ?_
  refine jl_s (S' := ((18, [(3, .ref 165), (0, .ref 164), (1, .ref 4), (2, .int 12)], [.int 12, .ref 165], jzv216) : jS)) rfl ?_
  refine jl_s (S' := ((21, [(3, .ref 165), (0, .ref 164), (1, .ref 4), (2, .int 12)], [], jzv217) : jS)) rfl ?_
  refine jl_s (S' := ((22, [(3, .ref 165), (0, .ref 164), (1, .ref 4), (2, .int 12)], [.ref 164], jzv217) : jS)) rfl ?_
  refine jl_s (S' := ((23, [(3, .ref 165), (0, .ref 164), (1, .ref 4), (2, .int 12)], [.ref 165, .ref 164], jzv217) : jS)) rfl ?_
  refine jl_c (t := 168) (as := [.ref 164, .ref 165]) (V := jzv217) (r := (.inl none, jzv218)) (S' := ((26, [(3, .ref 165), (0, .ref 164), (1, .ref 4), (2, .int 12)], [], jzv218) : jS)) rfl (jzl206 xs hop ) rfl ?_
  exact jl_r (r := (.inl none, jzv218)) rfl
def jzv219 : jH := [jzc5, jzc2, jzc117, jzc7, jzc9, jzc9, jzc9, jzc9, jzc9, jzc17, jzc19, jzc19, jzc19, jzc19, jzc19, jzc19, jzc19, jzc19, jzc28, jzc28, jzc28, jzc28, jzc28, jzc28, jzc28, jzc28, jzc28, jzc28, jzc28, jzc28, jzc28, jzc28, jzc43, jzc43, jzc43, jzc43, jzc43, jzc49, jzc49, jzc52, jzc52, jzc52, jzc56, jzc56, jzc59, jzc56, jzc62, jzc28, jzc28, jzc28, jzc28, jzc28, jzc69, jzc71, jzc73, jzc43, jzc76, jzc52, jzc52, jzc80, jzc80, jzc80, jzc84, jzc52, jzc52, jzc52, jzc52, jzc52, jzc52, jzc52, jzc93, jzc93, jzc52, jzc52, jzc98, jzc100, jzc93, jzc52, jzc52, jzc52, jzc52, jzc107, jzc109, jzc111, jzc100, jzc100, jzc100, jzc111, jzc111, jzc118, jzc132, jzc127, jzc129, jzc131, jzc142, jzc136, jzc138, jzc118, jzc138, jzc136, jzc151, jzc150, jzc146]
set_option maxHeartbeats 4000000 in
set_option maxRecDepth 100000 in
theorem jzl208 (xs : Nat → Int32) (hop : xs 0 &&& 31 = 2)  : jRun ((4, xs) : jX) 2000 36 220 [.ref 5] jzv219 = some (.inl (some (.long 2905683)), jzv219) := by
  refine jr_run (e := jm220) rfl (Nat.le_of_ble_eq_true rfl) ?_
  refine jl_s (S' := ((1, [(0, .ref 5)], [.long 0], jzv219) : jS)) rfl ?_
  refine jl_s (S' := ((2, [(1, .long 0), (0, .ref 5)], [], jzv219) : jS)) rfl ?_
  refine jl_s (S' := ((3, [(1, .long 0), (0, .ref 5)], [.int 0], jzv219) : jS)) rfl ?_
  refine jl_s (S' := ((4, [(3, .int 0), (1, .long 0), (0, .ref 5)], [], jzv219) : jS)) rfl ?_
  refine jl_s (S' := ((5, [(3, .int 0), (1, .long 0), (0, .ref 5)], [.int 0], jzv219) : jS)) rfl ?_
  refine jl_s (S' := ((6, [(3, .int 0), (1, .long 0), (0, .ref 5)], [.ref 5, .int 0], jzv219) : jS)) rfl ?_
  refine jl_s (S' := ((9, [(3, .int 0), (1, .long 0), (0, .ref 5)], [.int 4, .int 0], jzv219) : jS)) rfl ?_
  refine jl_s (S' := ((12, [(3, .int 0), (1, .long 0), (0, .ref 5)], [], jzv219) : jS)) rfl ?_
  refine jl_s (S' := ((13, [(3, .int 0), (1, .long 0), (0, .ref 5)], [.long 0], jzv219) : jS)) rfl ?_
  refine jl_s (S' := ((16, [(3, .int 0), (1, .long 0), (0, .ref 5)], [.long 64, .long 0], jzv219) : jS)) rfl ?_
  refine jl_s (S' := ((17, [(3, .int 0), (1, .long 0), (0, .ref 5)], [.long 0], jzv219) : jS)) rfl ?_
  refine jl_s (S' := ((19, [(3, .int 0), (1, .long 0), (0, .ref 5)], [.ref 0, .long 0], jzv219) : jS)) rfl ?_
  refine jl_s (S' := ((20, [(3, .int 0), (1, .long 0), (0, .ref 5)], [.ref 5, .ref 0, .long 0], jzv219) : jS)) rfl ?_
  refine jl_s (S' := ((21, [(3, .int 0), (1, .long 0), (0, .ref 5)], [.int 0, .ref 5, .ref 0, .long 0], jzv219) : jS)) rfl ?_
  refine jl_s (S' := ((24, [(3, .int 0), (1, .long 0), (0, .ref 5)], [.int 107, .ref 0, .long 0], jzv219) : jS)) rfl ?_
  refine jl_s (S' := ((27, [(3, .int 0), (1, .long 0), (0, .ref 5)], [.int 11, .long 0], jzv219) : jS)) rfl ?_
  refine jl_s (S' := ((28, [(3, .int 0), (1, .long 0), (0, .ref 5)], [.long 11, .long 0], jzv219) : jS)) rfl ?_
  refine jl_s (S' := ((29, [(3, .int 0), (1, .long 0), (0, .ref 5)], [.long 11], jzv219) : jS)) rfl ?_
  refine jl_s (S' := ((30, [(1, .long 11), (3, .int 0), (0, .ref 5)], [], jzv219) : jS)) rfl ?_
  refine jl_s (S' := ((33, [(3, .int 1), (1, .long 11), (0, .ref 5)], [], jzv219) : jS)) rfl ?_
  refine jl_s (S' := ((4, [(3, .int 1), (1, .long 11), (0, .ref 5)], [], jzv219) : jS)) rfl ?_
  refine jl_s (S' := ((5, [(3, .int 1), (1, .long 11), (0, .ref 5)], [.int 1], jzv219) : jS)) rfl ?_
  refine jl_s (S' := ((6, [(3, .int 1), (1, .long 11), (0, .ref 5)], [.ref 5, .int 1], jzv219) : jS)) rfl ?_
  refine jl_s (S' := ((9, [(3, .int 1), (1, .long 11), (0, .ref 5)], [.int 4, .int 1], jzv219) : jS)) rfl ?_
  refine jl_s (S' := ((12, [(3, .int 1), (1, .long 11), (0, .ref 5)], [], jzv219) : jS)) rfl ?_
  refine jl_s (S' := ((13, [(3, .int 1), (1, .long 11), (0, .ref 5)], [.long 11], jzv219) : jS)) rfl ?_
  refine jl_s (S' := ((16, [(3, .int 1), (1, .long 11), (0, .ref 5)], [.long 64, .long 11], jzv219) : jS)) rfl ?_
  refine jl_s (S' := ((17, [(3, .int 1), (1, .long 11), (0, .ref 5)], [.long 704], jzv219) : jS)) rfl ?_
  refine jl_s (S' := ((19, [(3, .int 1), (1, .long 11), (0, .ref 5)], [.ref 0, .long 704], jzv219) : jS)) rfl ?_
  refine jl_s (S' := ((20, [(3, .int 1), (1, .long 11), (0, .ref 5)], [.ref 5, .ref 0, .long 704], jzv219) : jS)) rfl ?_
  refine jl_s (S' := ((21, [(3, .int 1), (1, .long 11), (0, .ref 5)], [.int 1, .ref 5, .ref 0, .long 704], jzv219) : jS)) rfl ?_
  refine jl_s (S' := ((24, [(3, .int 1), (1, .long 11), (0, .ref 5)], [.int 101, .ref 0, .long 704], jzv219) : jS)) rfl ?_
  refine jl_s (S' := ((27, [(3, .int 1), (1, .long 11), (0, .ref 5)], [.int 5, .long 704], jzv219) : jS)) rfl ?_
  refine jl_s (S' := ((28, [(3, .int 1), (1, .long 11), (0, .ref 5)], [.long 5, .long 704], jzv219) : jS)) rfl ?_
  refine jl_s (S' := ((29, [(3, .int 1), (1, .long 11), (0, .ref 5)], [.long 709], jzv219) : jS)) rfl ?_
  refine jl_s (S' := ((30, [(1, .long 709), (3, .int 1), (0, .ref 5)], [], jzv219) : jS)) rfl ?_
  refine jl_s (S' := ((33, [(3, .int 2), (1, .long 709), (0, .ref 5)], [], jzv219) : jS)) rfl ?_
  refine jl_s (S' := ((4, [(3, .int 2), (1, .long 709), (0, .ref 5)], [], jzv219) : jS)) rfl ?_
  refine jl_s (S' := ((5, [(3, .int 2), (1, .long 709), (0, .ref 5)], [.int 2], jzv219) : jS)) rfl ?_
  refine jl_s (S' := ((6, [(3, .int 2), (1, .long 709), (0, .ref 5)], [.ref 5, .int 2], jzv219) : jS)) rfl ?_
  refine jl_s (S' := ((9, [(3, .int 2), (1, .long 709), (0, .ref 5)], [.int 4, .int 2], jzv219) : jS)) rfl ?_
  refine jl_s (S' := ((12, [(3, .int 2), (1, .long 709), (0, .ref 5)], [], jzv219) : jS)) rfl ?_
  refine jl_s (S' := ((13, [(3, .int 2), (1, .long 709), (0, .ref 5)], [.long 709], jzv219) : jS)) rfl ?_
  refine jl_s (S' := ((16, [(3, .int 2), (1, .long 709), (0, .ref 5)], [.long 64, .long 709], jzv219) : jS)) rfl ?_
  refine jl_s (S' := ((17, [(3, .int 2), (1, .long 709), (0, .ref 5)], [.long 45376], jzv219) : jS)) rfl ?_
  refine jl_s (S' := ((19, [(3, .int 2), (1, .long 709), (0, .ref 5)], [.ref 0, .long 45376], jzv219) : jS)) rfl ?_
  refine jl_s (S' := ((20, [(3, .int 2), (1, .long 709), (0, .ref 5)], [.ref 5, .ref 0, .long 45376], jzv219) : jS)) rfl ?_
  refine jl_s (S' := ((21, [(3, .int 2), (1, .long 709), (0, .ref 5)], [.int 2, .ref 5, .ref 0, .long 45376], jzv219) : jS)) rfl ?_
  refine jl_s (S' := ((24, [(3, .int 2), (1, .long 709), (0, .ref 5)], [.int 121, .ref 0, .long 45376], jzv219) : jS)) rfl ?_
  refine jl_s (S' := ((27, [(3, .int 2), (1, .long 709), (0, .ref 5)], [.int 25, .long 45376], jzv219) : jS)) rfl ?_
  refine jl_s (S' := ((28, [(3, .int 2), (1, .long 709), (0, .ref 5)], [.long 25, .long 45376], jzv219) : jS)) rfl ?_
  refine jl_s (S' := ((29, [(3, .int 2), (1, .long 709), (0, .ref 5)], [.long 45401], jzv219) : jS)) rfl ?_
  refine jl_s (S' := ((30, [(1, .long 45401), (3, .int 2), (0, .ref 5)], [], jzv219) : jS)) rfl ?_
  refine jl_s (S' := ((33, [(3, .int 3), (1, .long 45401), (0, .ref 5)], [], jzv219) : jS)) rfl ?_
  refine jl_s (S' := ((4, [(3, .int 3), (1, .long 45401), (0, .ref 5)], [], jzv219) : jS)) rfl ?_
  refine jl_s (S' := ((5, [(3, .int 3), (1, .long 45401), (0, .ref 5)], [.int 3], jzv219) : jS)) rfl ?_
  refine jl_s (S' := ((6, [(3, .int 3), (1, .long 45401), (0, .ref 5)], [.ref 5, .int 3], jzv219) : jS)) rfl ?_
  refine jl_s (S' := ((9, [(3, .int 3), (1, .long 45401), (0, .ref 5)], [.int 4, .int 3], jzv219) : jS)) rfl ?_
  refine jl_s (S' := ((12, [(3, .int 3), (1, .long 45401), (0, .ref 5)], [], jzv219) : jS)) rfl ?_
  refine jl_s (S' := ((13, [(3, .int 3), (1, .long 45401), (0, .ref 5)], [.long 45401], jzv219) : jS)) rfl ?_
  refine jl_s (S' := ((16, [(3, .int 3), (1, .long 45401), (0, .ref 5)], [.long 64, .long 45401], jzv219) : jS)) rfl ?_
  refine jl_s (S' := ((17, [(3, .int 3), (1, .long 45401), (0, .ref 5)], [.long 2905664], jzv219) : jS)) rfl ?_
  refine jl_s (S' := ((19, [(3, .int 3), (1, .long 45401), (0, .ref 5)], [.ref 0, .long 2905664], jzv219) : jS)) rfl ?_
  refine jl_s (S' := ((20, [(3, .int 3), (1, .long 45401), (0, .ref 5)], [.ref 5, .ref 0, .long 2905664], jzv219) : jS)) rfl ?_
  refine jl_s (S' := ((21, [(3, .int 3), (1, .long 45401), (0, .ref 5)], [.int 3, .ref 5, .ref 0, .long 2905664], jzv219) : jS)) rfl ?_
  refine jl_s (S' := ((24, [(3, .int 3), (1, .long 45401), (0, .ref 5)], [.int 115, .ref 0, .long 2905664], jzv219) : jS)) rfl ?_
  refine jl_s (S' := ((27, [(3, .int 3), (1, .long 45401), (0, .ref 5)], [.int 19, .long 2905664], jzv219) : jS)) rfl ?_
  refine jl_s (S' := ((28, [(3, .int 3), (1, .long 45401), (0, .ref 5)], [.long 19, .long 2905664], jzv219) : jS)) rfl ?_
  refine jl_s (S' := ((29, [(3, .int 3), (1, .long 45401), (0, .ref 5)], [.long 2905683], jzv219) : jS)) rfl ?_
  refine jl_s (S' := ((30, [(1, .long 2905683), (3, .int 3), (0, .ref 5)], [], jzv219) : jS)) rfl ?_
  refine jl_s (S' := ((33, [(3, .int 4), (1, .long 2905683), (0, .ref 5)], [], jzv219) : jS)) rfl ?_
  refine jl_s (S' := ((4, [(3, .int 4), (1, .long 2905683), (0, .ref 5)], [], jzv219) : jS)) rfl ?_
  refine jl_s (S' := ((5, [(3, .int 4), (1, .long 2905683), (0, .ref 5)], [.int 4], jzv219) : jS)) rfl ?_
  refine jl_s (S' := ((6, [(3, .int 4), (1, .long 2905683), (0, .ref 5)], [.ref 5, .int 4], jzv219) : jS)) rfl ?_
  refine jl_s (S' := ((9, [(3, .int 4), (1, .long 2905683), (0, .ref 5)], [.int 4, .int 4], jzv219) : jS)) rfl ?_
  refine jl_s (S' := ((36, [(3, .int 4), (1, .long 2905683), (0, .ref 5)], [], jzv219) : jS)) rfl ?_
  refine jl_s (S' := ((37, [(3, .int 4), (1, .long 2905683), (0, .ref 5)], [.long 2905683], jzv219) : jS)) rfl ?_
  exact jl_r (r := (.inl (some (.long 2905683)), jzv219)) rfl
def jzv220 : jH := [jzc5, jzc2, jzc117, jzc7, jzc9, jzc9, jzc9, jzc9, jzc9, jzc17, jzc19, jzc19, jzc19, jzc19, jzc19, jzc19, jzc19, jzc19, jzc28, jzc28, jzc28, jzc28, jzc28, jzc28, jzc28, jzc28, jzc28, jzc28, jzc28, jzc28, jzc28, jzc28, jzc43, jzc43, jzc43, jzc43, jzc43, jzc49, jzc49, jzc52, jzc52, jzc52, jzc56, jzc56, jzc59, jzc56, jzc62, jzc28, jzc28, jzc28, jzc28, jzc28, jzc69, jzc71, jzc73, jzc43, jzc76, jzc52, jzc52, jzc80, jzc80, jzc80, jzc84, jzc52, jzc52, jzc52, jzc52, jzc52, jzc52, jzc52, jzc93, jzc93, jzc52, jzc52, jzc98, jzc100, jzc93, jzc52, jzc52, jzc52, jzc52, jzc107, jzc109, jzc111, jzc100, jzc100, jzc100, jzc111, jzc111, jzc118, jzc132, jzc127, jzc129, jzc131, jzc142, jzc136, jzc138, jzc118, jzc138, jzc136, jzc151, jzc150, jzc147]
def jzc152 : jC := .inr (6, [.int 10, .long 2905683, .int 0, .int 0, .int 0, .int 0, .int 0, .int 0, .int 0, .int 0, .int 0, .int 0, .null, .null, .null, .null])
def jzv221 : jH := [jzc5, jzc2, jzc117, jzc7, jzc9, jzc9, jzc9, jzc9, jzc9, jzc17, jzc19, jzc19, jzc19, jzc19, jzc19, jzc19, jzc19, jzc19, jzc28, jzc28, jzc28, jzc28, jzc28, jzc28, jzc28, jzc28, jzc28, jzc28, jzc28, jzc28, jzc28, jzc28, jzc43, jzc43, jzc43, jzc43, jzc43, jzc49, jzc49, jzc52, jzc52, jzc52, jzc56, jzc56, jzc59, jzc56, jzc62, jzc28, jzc28, jzc28, jzc28, jzc28, jzc69, jzc71, jzc73, jzc43, jzc76, jzc52, jzc52, jzc80, jzc80, jzc80, jzc84, jzc52, jzc52, jzc52, jzc52, jzc52, jzc52, jzc52, jzc93, jzc93, jzc52, jzc52, jzc98, jzc100, jzc93, jzc52, jzc52, jzc52, jzc52, jzc107, jzc109, jzc111, jzc100, jzc100, jzc100, jzc111, jzc111, jzc118, jzc132, jzc127, jzc129, jzc131, jzc142, jzc136, jzc138, jzc118, jzc138, jzc136, jzc151, jzc150, jzc152]
def jzc153 : jC := .inr (6, [.int 10, .long 2905683, .int 0, .int 1, .int 0, .int 0, .int 0, .int 0, .int 0, .int 0, .int 0, .int 0, .null, .null, .null, .null])
def jzv222 : jH := [jzc5, jzc2, jzc117, jzc7, jzc9, jzc9, jzc9, jzc9, jzc9, jzc17, jzc19, jzc19, jzc19, jzc19, jzc19, jzc19, jzc19, jzc19, jzc28, jzc28, jzc28, jzc28, jzc28, jzc28, jzc28, jzc28, jzc28, jzc28, jzc28, jzc28, jzc28, jzc28, jzc43, jzc43, jzc43, jzc43, jzc43, jzc49, jzc49, jzc52, jzc52, jzc52, jzc56, jzc56, jzc59, jzc56, jzc62, jzc28, jzc28, jzc28, jzc28, jzc28, jzc69, jzc71, jzc73, jzc43, jzc76, jzc52, jzc52, jzc80, jzc80, jzc80, jzc84, jzc52, jzc52, jzc52, jzc52, jzc52, jzc52, jzc52, jzc93, jzc93, jzc52, jzc52, jzc98, jzc100, jzc93, jzc52, jzc52, jzc52, jzc52, jzc107, jzc109, jzc111, jzc100, jzc100, jzc100, jzc111, jzc111, jzc118, jzc132, jzc127, jzc129, jzc131, jzc142, jzc136, jzc138, jzc118, jzc138, jzc136, jzc151, jzc150, jzc153]
set_option maxHeartbeats 4000000 in
set_option maxRecDepth 100000 in
theorem jzl209 (xs : Nat → Int32) (hop : xs 0 &&& 31 = 2)  : jRun ((4, xs) : jX) 2000 36 153 [.ref 166, .int 10, .long 2905683, .int 0, .int 1] jzv219 = some (.inl none, jzv222) := by
  refine jr_run (e := jm153) rfl (Nat.le_of_ble_eq_true rfl) ?_
  refine jl_s (S' := ((1, [(0, .ref 166), (1, .int 10), (2, .long 2905683), (4, .int 0), (5, .int 1)], [.ref 166], jzv219) : jS)) rfl ?_
  refine jl_s (S' := ((4, [(0, .ref 166), (1, .int 10), (2, .long 2905683), (4, .int 0), (5, .int 1)], [], jzv219) : jS)) rfl ?_
  refine jl_s (S' := ((5, [(0, .ref 166), (1, .int 10), (2, .long 2905683), (4, .int 0), (5, .int 1)], [.ref 166], jzv219) : jS)) rfl ?_
  refine jl_s (S' := ((6, [(0, .ref 166), (1, .int 10), (2, .long 2905683), (4, .int 0), (5, .int 1)], [.int 10, .ref 166], jzv219) : jS)) rfl ?_
  refine jl_s (S' := ((9, [(0, .ref 166), (1, .int 10), (2, .long 2905683), (4, .int 0), (5, .int 1)], [], jzv220) : jS)) rfl ?_
  refine jl_s (S' := ((10, [(0, .ref 166), (1, .int 10), (2, .long 2905683), (4, .int 0), (5, .int 1)], [.ref 166], jzv220) : jS)) rfl ?_
  refine jl_s (S' := ((11, [(0, .ref 166), (1, .int 10), (2, .long 2905683), (4, .int 0), (5, .int 1)], [.long 2905683, .ref 166], jzv220) : jS)) rfl ?_
  refine jl_s (S' := ((14, [(0, .ref 166), (1, .int 10), (2, .long 2905683), (4, .int 0), (5, .int 1)], [], jzv221) : jS)) rfl ?_
  refine jl_s (S' := ((15, [(0, .ref 166), (1, .int 10), (2, .long 2905683), (4, .int 0), (5, .int 1)], [.ref 166], jzv221) : jS)) rfl ?_
  refine jl_s (S' := ((17, [(0, .ref 166), (1, .int 10), (2, .long 2905683), (4, .int 0), (5, .int 1)], [.int 0, .ref 166], jzv221) : jS)) rfl ?_
  refine jl_s (S' := ((20, [(0, .ref 166), (1, .int 10), (2, .long 2905683), (4, .int 0), (5, .int 1)], [], jzv221) : jS)) rfl ?_
  refine jl_s (S' := ((21, [(0, .ref 166), (1, .int 10), (2, .long 2905683), (4, .int 0), (5, .int 1)], [.ref 166], jzv221) : jS)) rfl ?_
  refine jl_s (S' := ((23, [(0, .ref 166), (1, .int 10), (2, .long 2905683), (4, .int 0), (5, .int 1)], [.int 1, .ref 166], jzv221) : jS)) rfl ?_
  refine jl_s (S' := ((26, [(0, .ref 166), (1, .int 10), (2, .long 2905683), (4, .int 0), (5, .int 1)], [], jzv222) : jS)) rfl ?_
  exact jl_r (r := (.inl none, jzv222)) rfl
def jzc154 : jC := .inr (6, [.int 10, .long 2905683, .int 0, .int 1, .int 0, .int 13, .int 0, .int 0, .int 0, .int 0, .int 0, .int 0, .null, .null, .null, .null])
def jzv223 : jH := [jzc5, jzc2, jzc117, jzc7, jzc9, jzc9, jzc9, jzc9, jzc9, jzc17, jzc19, jzc19, jzc19, jzc19, jzc19, jzc19, jzc19, jzc19, jzc28, jzc28, jzc28, jzc28, jzc28, jzc28, jzc28, jzc28, jzc28, jzc28, jzc28, jzc28, jzc28, jzc28, jzc43, jzc43, jzc43, jzc43, jzc43, jzc49, jzc49, jzc52, jzc52, jzc52, jzc56, jzc56, jzc59, jzc56, jzc62, jzc28, jzc28, jzc28, jzc28, jzc28, jzc69, jzc71, jzc73, jzc43, jzc76, jzc52, jzc52, jzc80, jzc80, jzc80, jzc84, jzc52, jzc52, jzc52, jzc52, jzc52, jzc52, jzc52, jzc93, jzc93, jzc52, jzc52, jzc98, jzc100, jzc93, jzc52, jzc52, jzc52, jzc52, jzc107, jzc109, jzc111, jzc100, jzc100, jzc100, jzc111, jzc111, jzc118, jzc132, jzc127, jzc129, jzc131, jzc142, jzc136, jzc138, jzc118, jzc138, jzc136, jzc151, jzc150, jzc154]
def jzc155 : jC := .inr (6, [.int 10, .long 2905683, .int 0, .int 1, .int 0, .int 13, .int 0, .int 0, .int 0, .int 0, .int 0, .int 0, .null, .null, .null, .ref 165])
def jzv224 : jH := [jzc5, jzc2, jzc117, jzc7, jzc9, jzc9, jzc9, jzc9, jzc9, jzc17, jzc19, jzc19, jzc19, jzc19, jzc19, jzc19, jzc19, jzc19, jzc28, jzc28, jzc28, jzc28, jzc28, jzc28, jzc28, jzc28, jzc28, jzc28, jzc28, jzc28, jzc28, jzc28, jzc43, jzc43, jzc43, jzc43, jzc43, jzc49, jzc49, jzc52, jzc52, jzc52, jzc56, jzc56, jzc59, jzc56, jzc62, jzc28, jzc28, jzc28, jzc28, jzc28, jzc69, jzc71, jzc73, jzc43, jzc76, jzc52, jzc52, jzc80, jzc80, jzc80, jzc84, jzc52, jzc52, jzc52, jzc52, jzc52, jzc52, jzc52, jzc93, jzc93, jzc52, jzc52, jzc98, jzc100, jzc93, jzc52, jzc52, jzc52, jzc52, jzc107, jzc109, jzc111, jzc100, jzc100, jzc100, jzc111, jzc111, jzc118, jzc132, jzc127, jzc129, jzc131, jzc142, jzc136, jzc138, jzc118, jzc138, jzc136, jzc151, jzc150, jzc155]
def jzc156 : jC := .inr (8, [.ref 154, .ref 158, .ref 166, .int 0])
def jzv225 : jH := [jzc5, jzc2, jzc117, jzc7, jzc9, jzc9, jzc9, jzc9, jzc9, jzc17, jzc19, jzc19, jzc19, jzc19, jzc19, jzc19, jzc19, jzc19, jzc28, jzc28, jzc28, jzc28, jzc28, jzc28, jzc28, jzc28, jzc28, jzc28, jzc28, jzc28, jzc28, jzc28, jzc43, jzc43, jzc43, jzc43, jzc43, jzc49, jzc49, jzc52, jzc52, jzc52, jzc56, jzc56, jzc59, jzc56, jzc62, jzc28, jzc28, jzc28, jzc28, jzc28, jzc69, jzc71, jzc73, jzc43, jzc76, jzc52, jzc52, jzc80, jzc80, jzc80, jzc84, jzc52, jzc52, jzc52, jzc52, jzc52, jzc52, jzc52, jzc93, jzc93, jzc52, jzc52, jzc98, jzc100, jzc93, jzc52, jzc52, jzc52, jzc52, jzc107, jzc109, jzc111, jzc100, jzc100, jzc100, jzc111, jzc111, jzc118, jzc132, jzc127, jzc129, jzc131, jzc142, jzc136, jzc138, jzc118, jzc138, jzc136, jzc156, jzc150, jzc155]
set_option maxHeartbeats 4000000 in
set_option maxRecDepth 100000 in
theorem jzl210 (xs : Nat → Int32) (hop : xs 0 &&& 31 = 2)  : jRun ((4, xs) : jX) 2000 36 168 [.ref 164, .ref 166] jzv223 = some (.inl none, jzv225) := by
  refine jr_run (e := jm168) rfl (Nat.le_of_ble_eq_true rfl) ?_
  refine jl_s (S' := ((1, [(0, .ref 164), (1, .ref 166)], [.ref 166], jzv223) : jS)) rfl ?_
  refine jl_s (S' := ((2, [(0, .ref 164), (1, .ref 166)], [.ref 164, .ref 166], jzv223) : jS)) rfl ?_
  refine jl_s (S' := ((5, [(0, .ref 164), (1, .ref 166)], [.ref 165, .ref 166], jzv223) : jS)) rfl ?_
  refine jl_s (S' := ((8, [(0, .ref 164), (1, .ref 166)], [], jzv224) : jS)) rfl ?_
  refine jl_s (S' := ((9, [(0, .ref 164), (1, .ref 166)], [.ref 164], jzv224) : jS)) rfl ?_
  refine jl_s (S' := ((10, [(0, .ref 164), (1, .ref 166)], [.ref 166, .ref 164], jzv224) : jS)) rfl ?_
  refine jl_s (S' := ((13, [(0, .ref 164), (1, .ref 166)], [], jzv225) : jS)) rfl ?_
  exact jl_r (r := (.inl none, jzv225)) rfl
set_option maxHeartbeats 4000000 in
set_option maxRecDepth 100000 in
theorem jzl211 (xs : Nat → Int32) (hop : xs 0 &&& 31 = 2)  : jRun ((4, xs) : jX) 2000 37 161 [.ref 164, .ref 5, .int 13] jzv218 = some (.inl none, jzv225) := by
  refine jr_run (e := jm161) rfl (Nat.le_of_ble_eq_true rfl) ?_
  refine jl_s (S' := ((3, [(0, .ref 164), (1, .ref 5), (2, .int 13)], [.ref 166], jzv219) : jS)) rfl ?_
  refine jl_s (S' := ((4, [(0, .ref 164), (1, .ref 5), (2, .int 13)], [.ref 166, .ref 166], jzv219) : jS)) rfl ?_
  refine jl_s (S' := ((6, [(0, .ref 164), (1, .ref 5), (2, .int 13)], [.int 10, .ref 166, .ref 166], jzv219) : jS)) rfl ?_
  refine jl_s (S' := ((7, [(0, .ref 164), (1, .ref 5), (2, .int 13)], [.ref 5, .int 10, .ref 166, .ref 166], jzv219) : jS)) rfl ?_
  refine jl_c (t := 220) (as := [.ref 5]) (V := jzv219) (r := (.inl (some (.long 2905683)), jzv219)) (S' := ((10, [(0, .ref 164), (1, .ref 5), (2, .int 13)], [.long 2905683, .int 10, .ref 166, .ref 166], jzv219) : jS)) rfl (jzl208 xs hop ) rfl ?_
  refine jl_s (S' := ((11, [(0, .ref 164), (1, .ref 5), (2, .int 13)], [.int 0, .long 2905683, .int 10, .ref 166, .ref 166], jzv219) : jS)) rfl ?_
  refine jl_s (S' := ((12, [(0, .ref 164), (1, .ref 5), (2, .int 13)], [.int 1, .int 0, .long 2905683, .int 10, .ref 166, .ref 166], jzv219) : jS)) rfl ?_
  refine jl_c (t := 153) (as := [.ref 166, .int 10, .long 2905683, .int 0, .int 1]) (V := jzv219) (r := (.inl none, jzv222)) (S' := ((15, [(0, .ref 164), (1, .ref 5), (2, .int 13)], [.ref 166], jzv222) : jS)) rfl (jzl209 xs hop ) rfl ?_
  refine jl_s (S' := ((16, [(3, .ref 166), (0, .ref 164), (1, .ref 5), (2, .int 13)], [], jzv222) : jS)) rfl ?_
  refine jl_s (S' := ((17, [(3, .ref 166), (0, .ref 164), (1, .ref 5), (2, .int 13)], [.ref 166], jzv222) : jS)) rfl ?_
  refine jl_s (S' := ((18, [(3, .ref 166), (0, .ref 164), (1, .ref 5), (2, .int 13)], [.int 13, .ref 166], jzv222) : jS)) rfl ?_
  refine jl_s (S' := ((21, [(3, .ref 166), (0, .ref 164), (1, .ref 5), (2, .int 13)], [], jzv223) : jS)) rfl ?_
  refine jl_s (S' := ((22, [(3, .ref 166), (0, .ref 164), (1, .ref 5), (2, .int 13)], [.ref 164], jzv223) : jS)) rfl ?_
  refine jl_s (S' := ((23, [(3, .ref 166), (0, .ref 164), (1, .ref 5), (2, .int 13)], [.ref 166, .ref 164], jzv223) : jS)) rfl ?_
  refine jl_c (t := 168) (as := [.ref 164, .ref 166]) (V := jzv223) (r := (.inl none, jzv225)) (S' := ((26, [(3, .ref 166), (0, .ref 164), (1, .ref 5), (2, .int 13)], [], jzv225) : jS)) rfl (jzl210 xs hop ) rfl ?_
  exact jl_r (r := (.inl none, jzv225)) rfl
def jzc157 : jC := .inr (10, [.ref 65, .int 0, .ref 159, .ref 160, .ref 161, .ref 162, .ref 163, .int 0, .int 0, .int 0, .int 0, .int 0, .int 0, .int 0, .int 0, .int 0, .int 0, .int 0, .long 0])
def jzv226 : jH := [jzc5, jzc2, jzc117, jzc7, jzc9, jzc9, jzc9, jzc9, jzc9, jzc17, jzc19, jzc19, jzc19, jzc19, jzc19, jzc19, jzc19, jzc19, jzc28, jzc28, jzc28, jzc28, jzc28, jzc28, jzc28, jzc28, jzc28, jzc28, jzc28, jzc28, jzc28, jzc28, jzc43, jzc43, jzc43, jzc43, jzc43, jzc49, jzc49, jzc52, jzc52, jzc52, jzc56, jzc56, jzc59, jzc56, jzc62, jzc28, jzc28, jzc28, jzc28, jzc28, jzc69, jzc71, jzc73, jzc43, jzc76, jzc52, jzc52, jzc80, jzc80, jzc80, jzc84, jzc52, jzc52, jzc52, jzc52, jzc52, jzc52, jzc52, jzc93, jzc93, jzc52, jzc52, jzc98, jzc100, jzc93, jzc52, jzc52, jzc52, jzc52, jzc107, jzc109, jzc111, jzc100, jzc100, jzc100, jzc111, jzc111, jzc118, jzc132, jzc127, jzc129, jzc131, jzc157, jzc136, jzc138, jzc118, jzc138, jzc136, jzc156, jzc150, jzc155]
def jzc158 : jC := .inr (10, [.ref 65, .int 0, .ref 159, .ref 160, .ref 161, .ref 162, .ref 163, .int 0, .int 0, .int 0, .int 0, .int 0, .int 1, .int 0, .int 0, .int 0, .int 0, .int 0, .long 0])
def jzv227 : jH := [jzc5, jzc2, jzc117, jzc7, jzc9, jzc9, jzc9, jzc9, jzc9, jzc17, jzc19, jzc19, jzc19, jzc19, jzc19, jzc19, jzc19, jzc19, jzc28, jzc28, jzc28, jzc28, jzc28, jzc28, jzc28, jzc28, jzc28, jzc28, jzc28, jzc28, jzc28, jzc28, jzc43, jzc43, jzc43, jzc43, jzc43, jzc49, jzc49, jzc52, jzc52, jzc52, jzc56, jzc56, jzc59, jzc56, jzc62, jzc28, jzc28, jzc28, jzc28, jzc28, jzc69, jzc71, jzc73, jzc43, jzc76, jzc52, jzc52, jzc80, jzc80, jzc80, jzc84, jzc52, jzc52, jzc52, jzc52, jzc52, jzc52, jzc52, jzc93, jzc93, jzc52, jzc52, jzc98, jzc100, jzc93, jzc52, jzc52, jzc52, jzc52, jzc107, jzc109, jzc111, jzc100, jzc100, jzc100, jzc111, jzc111, jzc118, jzc132, jzc127, jzc129, jzc131, jzc158, jzc136, jzc138, jzc118, jzc138, jzc136, jzc156, jzc150, jzc155]
def jzc159 : jC := .inr (10, [.ref 65, .int 0, .ref 159, .ref 160, .ref 161, .ref 162, .ref 163, .int 0, .int 0, .int 0, .int 0, .int 0, .int 1, .int 0, .int (-1), .int 0, .int 0, .int 0, .long 0])
def jzv228 : jH := [jzc5, jzc2, jzc117, jzc7, jzc9, jzc9, jzc9, jzc9, jzc9, jzc17, jzc19, jzc19, jzc19, jzc19, jzc19, jzc19, jzc19, jzc19, jzc28, jzc28, jzc28, jzc28, jzc28, jzc28, jzc28, jzc28, jzc28, jzc28, jzc28, jzc28, jzc28, jzc28, jzc43, jzc43, jzc43, jzc43, jzc43, jzc49, jzc49, jzc52, jzc52, jzc52, jzc56, jzc56, jzc59, jzc56, jzc62, jzc28, jzc28, jzc28, jzc28, jzc28, jzc69, jzc71, jzc73, jzc43, jzc76, jzc52, jzc52, jzc80, jzc80, jzc80, jzc84, jzc52, jzc52, jzc52, jzc52, jzc52, jzc52, jzc52, jzc93, jzc93, jzc52, jzc52, jzc98, jzc100, jzc93, jzc52, jzc52, jzc52, jzc52, jzc107, jzc109, jzc111, jzc100, jzc100, jzc100, jzc111, jzc111, jzc118, jzc132, jzc127, jzc129, jzc131, jzc159, jzc136, jzc138, jzc118, jzc138, jzc136, jzc156, jzc150, jzc155]
set_option maxHeartbeats 4000000 in
set_option maxRecDepth 100000 in
theorem jzl212 (xs : Nat → Int32) (hop : xs 0 &&& 31 = 2)  : jRun ((4, xs) : jX) 2000 36 209 [.ref 158] jzv226 = some (.inl none, jzv228) := by
  refine jr_run (e := jm209) rfl (Nat.le_of_ble_eq_true rfl) ?_
  refine jl_s (S' := ((1, [(0, .ref 158)], [.ref 158], jzv226) : jS)) rfl ?_
  refine jl_s (S' := ((2, [(0, .ref 158)], [.ref 158, .ref 158], jzv226) : jS)) rfl ?_
  refine jl_s (S' := ((5, [(0, .ref 158)], [.int 0, .ref 158], jzv226) : jS)) rfl ?_
  refine jl_s (S' := ((8, [(0, .ref 158)], [.ref 158], jzv226) : jS)) rfl ?_
  refine jl_s (S' := ((9, [(0, .ref 158)], [.ref 158, .ref 158], jzv226) : jS)) rfl ?_
  refine jl_s (S' := ((12, [(0, .ref 158)], [.int 0, .ref 158], jzv226) : jS)) rfl ?_
  refine jl_s (S' := ((13, [(0, .ref 158)], [.ref 158, .int 0, .ref 158], jzv226) : jS)) rfl ?_
  refine jl_s (S' := ((16, [(0, .ref 158)], [.int 0, .int 0, .ref 158], jzv226) : jS)) rfl ?_
  refine jl_s (S' := ((31, [(0, .ref 158)], [.ref 158], jzv226) : jS)) rfl ?_
  refine jl_s (S' := ((32, [(0, .ref 158)], [.int 1, .ref 158], jzv226) : jS)) rfl ?_
  refine jl_s (S' := ((36, [(0, .ref 158)], [.int 1, .ref 158], jzv226) : jS)) rfl ?_
  refine jl_s (S' := ((39, [(0, .ref 158)], [], jzv227) : jS)) rfl ?_
  refine jl_s (S' := ((40, [(0, .ref 158)], [.ref 158], jzv227) : jS)) rfl ?_
  refine jl_s (S' := ((43, [(0, .ref 158)], [.int 1], jzv227) : jS)) rfl ?_
  refine jl_s (S' := ((46, [(0, .ref 158)], [], jzv227) : jS)) rfl ?_
  refine jl_s (S' := ((47, [(0, .ref 158)], [.ref 158], jzv227) : jS)) rfl ?_
  refine jl_s (S' := ((48, [(0, .ref 158)], [.int (-1), .ref 158], jzv227) : jS)) rfl ?_
  refine jl_s (S' := ((51, [(0, .ref 158)], [], jzv228) : jS)) rfl ?_
  refine jl_s (S' := ((52, [(0, .ref 158)], [.ref 158], jzv228) : jS)) rfl ?_
  refine jl_s (S' := ((53, [(0, .ref 158)], [.int 0, .ref 158], jzv228) : jS)) rfl ?_
  refine jl_s (S' := ((56, [(0, .ref 158)], [], jzv228) : jS)) rfl ?_
  exact jl_r (r := (.inl none, jzv228)) rfl
set_option maxHeartbeats 4000000 in
set_option maxRecDepth 100000 in
theorem jzl213 (xs : Nat → Int32) (hop : xs 0 &&& 31 = 2)  : jRun ((4, xs) : jX) 2000 37 208 [.ref 158] jzv225 = some (.inl none, jzv228) := by
  refine jr_run (e := jm208) rfl (Nat.le_of_ble_eq_true rfl) ?_
  refine jl_s (S' := ((1, [(0, .ref 158)], [.ref 158], jzv225) : jS)) rfl ?_
  refine jl_s (S' := ((2, [(0, .ref 158)], [.ref 158, .ref 158], jzv225) : jS)) rfl ?_
  refine jl_s (S' := ((5, [(0, .ref 158)], [.int (-1), .ref 158], jzv225) : jS)) rfl ?_
  refine jl_s (S' := ((6, [(0, .ref 158)], [.int 1, .int (-1), .ref 158], jzv225) : jS)) rfl ?_
  refine jl_s (S' := ((7, [(0, .ref 158)], [.int 0, .ref 158], jzv225) : jS)) rfl ?_
  refine jl_s (S' := ((10, [(0, .ref 158)], [], jzv226) : jS)) rfl ?_
  refine jl_s (S' := ((11, [(0, .ref 158)], [.ref 158], jzv226) : jS)) rfl ?_
  refine jl_c (t := 209) (as := [.ref 158]) (V := jzv226) (r := (.inl none, jzv228)) (S' := ((14, [(0, .ref 158)], [], jzv228) : jS)) rfl (jzl212 xs hop ) rfl ?_
  exact jl_r (r := (.inl none, jzv228)) rfl
def jzc160 : jC := .inr (9, [.int 1, .int (-1), .int (-1), .ref 155, .ref 156, .int 0, .ref 157, .int 0, .int 0, .int 0])
def jzv229 : jH := [jzc5, jzc2, jzc117, jzc7, jzc9, jzc9, jzc9, jzc9, jzc9, jzc17, jzc19, jzc19, jzc19, jzc19, jzc19, jzc19, jzc19, jzc19, jzc28, jzc28, jzc28, jzc28, jzc28, jzc28, jzc28, jzc28, jzc28, jzc28, jzc28, jzc28, jzc28, jzc28, jzc43, jzc43, jzc43, jzc43, jzc43, jzc49, jzc49, jzc52, jzc52, jzc52, jzc56, jzc56, jzc59, jzc56, jzc62, jzc28, jzc28, jzc28, jzc28, jzc28, jzc69, jzc71, jzc73, jzc43, jzc76, jzc52, jzc52, jzc80, jzc80, jzc80, jzc84, jzc52, jzc52, jzc52, jzc52, jzc52, jzc52, jzc52, jzc93, jzc93, jzc52, jzc52, jzc98, jzc100, jzc93, jzc52, jzc52, jzc52, jzc52, jzc107, jzc109, jzc111, jzc100, jzc100, jzc100, jzc111, jzc111, jzc118, jzc160, jzc127, jzc129, jzc131, jzc159, jzc136, jzc138, jzc118, jzc138, jzc136, jzc156, jzc150, jzc155]
def jzv230 : jH := [jzc5, jzc2, jzc117, jzc7, jzc9, jzc9, jzc9, jzc9, jzc9, jzc17, jzc19, jzc19, jzc19, jzc19, jzc19, jzc19, jzc19, jzc19, jzc28, jzc28, jzc28, jzc28, jzc28, jzc28, jzc28, jzc28, jzc28, jzc28, jzc28, jzc28, jzc28, jzc28, jzc43, jzc43, jzc43, jzc43, jzc43, jzc49, jzc49, jzc52, jzc52, jzc52, jzc56, jzc56, jzc59, jzc56, jzc62, jzc28, jzc28, jzc28, jzc28, jzc28, jzc69, jzc71, jzc73, jzc43, jzc76, jzc52, jzc52, jzc80, jzc80, jzc80, jzc84, jzc52, jzc52, jzc52, jzc52, jzc52, jzc52, jzc52, jzc93, jzc93, jzc52, jzc52, jzc98, jzc100, jzc93, jzc52, jzc52, jzc52, jzc52, jzc107, jzc109, jzc111, jzc100, jzc100, jzc100, jzc111, jzc111, jzc118, jzc160, jzc127, jzc129, jzc131, jzc159, jzc136, jzc138, jzc118, jzc138, jzc136, jzc156, jzc150, jzc155, jzc123]
set_option maxHeartbeats 4000000 in
set_option maxRecDepth 100000 in
theorem jzl214 (xs : Nat → Int32) (hop : xs 0 &&& 31 = 2)  : jRun ((4, xs) : jX) 2000 34 162 [.ref 164, .int 1, .int 0] jzv228 = some (.inr 167, jzv230) := by
  refine jr_run (e := jm162) rfl (Nat.le_of_ble_eq_true rfl) ?_
  refine jl_s (S' := ((1, [(0, .ref 164), (1, .int 1), (2, .int 0)], [.ref 164], jzv228) : jS)) rfl ?_
  refine jl_s (S' := ((4, [(0, .ref 164), (1, .int 1), (2, .int 0)], [.ref 154], jzv228) : jS)) rfl ?_
  refine jl_s (S' := ((5, [(0, .ref 164), (1, .int 1), (2, .int 0)], [.int 1, .ref 154], jzv228) : jS)) rfl ?_
  refine jl_s (S' := ((8, [(0, .ref 164), (1, .int 1), (2, .int 0)], [], jzv229) : jS)) rfl ?_
  refine jl_s (S' := ((9, [(0, .ref 164), (1, .int 1), (2, .int 0)], [.ref 164], jzv229) : jS)) rfl ?_
  refine jl_s (S' := ((12, [(0, .ref 164), (1, .int 1), (2, .int 0)], [.ref 154], jzv229) : jS)) rfl ?_
  refine jl_s (S' := ((13, [(0, .ref 164), (1, .int 1), (2, .int 0)], [.ref 164, .ref 154], jzv229) : jS)) rfl ?_
  refine jl_s (S' := ((16, [(0, .ref 164), (1, .int 1), (2, .int 0)], [.ref 158, .ref 154], jzv229) : jS)) rfl ?_
  refine jl_s (S' := ((19, [(0, .ref 164), (1, .int 1), (2, .int 0)], [.int 1, .ref 154], jzv229) : jS)) rfl ?_
  refine jl_s (S' := ((22, [(0, .ref 164), (1, .int 1), (2, .int 0)], [.ref 154], jzv229) : jS)) rfl ?_
  refine jl_s (S' := ((23, [(0, .ref 164), (1, .int 1), (2, .int 0)], [.int (-1), .ref 154], jzv229) : jS)) rfl ?_
  refine jl_s (S' := ((33, [(0, .ref 164), (1, .int 1), (2, .int 0)], [.int (-1), .ref 154], jzv229) : jS)) rfl ?_
  refine jl_s (S' := ((36, [(0, .ref 164), (1, .int 1), (2, .int 0)], [], jzv229) : jS)) rfl ?_
  refine jl_s (S' := ((37, [(0, .ref 164), (1, .int 1), (2, .int 0)], [.ref 164], jzv229) : jS)) rfl ?_
  refine jl_s (S' := ((40, [(0, .ref 164), (1, .int 1), (2, .int 0)], [.ref 154], jzv229) : jS)) rfl ?_
  refine jl_s (S' := ((41, [(0, .ref 164), (1, .int 1), (2, .int 0)], [.ref 164, .ref 154], jzv229) : jS)) rfl ?_
  refine jl_s (S' := ((44, [(0, .ref 164), (1, .int 1), (2, .int 0)], [.ref 158, .ref 154], jzv229) : jS)) rfl ?_
  refine jl_s (S' := ((47, [(0, .ref 164), (1, .int 1), (2, .int 0)], [.int 1, .ref 154], jzv229) : jS)) rfl ?_
  refine jl_s (S' := ((50, [(0, .ref 164), (1, .int 1), (2, .int 0)], [.ref 154], jzv229) : jS)) rfl ?_
  refine jl_s (S' := ((51, [(0, .ref 164), (1, .int 1), (2, .int 0)], [.int (-1), .ref 154], jzv229) : jS)) rfl ?_
  refine jl_s (S' := ((55, [(0, .ref 164), (1, .int 1), (2, .int 0)], [.int (-1), .ref 154], jzv229) : jS)) rfl ?_
  refine jl_s (S' := ((58, [(0, .ref 164), (1, .int 1), (2, .int 0)], [], jzv229) : jS)) rfl ?_
  exact jl_r (r := (.inr 167, jzv230)) rfl
set_option maxHeartbeats 4000000 in
set_option maxRecDepth 100000 in
theorem jzl215 (xs : Nat → Int32) (hop : xs 0 &&& 31 = 2)  : jRun ((4, xs) : jX) 2000 35 163 [.ref 164] jzv228 = some (.inr 167, jzv230) := by
  refine jr_run (e := jm163) rfl (Nat.le_of_ble_eq_true rfl) ?_
  refine jl_s (S' := ((1, [(0, .ref 164)], [.ref 164], jzv228) : jS)) rfl ?_
  refine jl_s (S' := ((2, [(0, .ref 164)], [.int 1, .ref 164], jzv228) : jS)) rfl ?_
  refine jl_s (S' := ((3, [(0, .ref 164)], [.ref 164, .int 1, .ref 164], jzv228) : jS)) rfl ?_
  refine jl_s (S' := ((6, [(0, .ref 164)], [.ref 158, .int 1, .ref 164], jzv228) : jS)) rfl ?_
  refine jl_s (S' := ((9, [(0, .ref 164)], [.int 0, .int 1, .ref 164], jzv228) : jS)) rfl ?_
  exact jl_ct (t := 162) (as := [.ref 164, .int 1, .int 0]) (V := jzv228) (r := (.inr 167, jzv230)) (q := (.inr 167, jzv230)) rfl (jzl214 xs hop ) rfl
set_option maxHeartbeats 4000000 in
set_option maxRecDepth 100000 in
theorem jzl216 (xs : Nat → Int32) (hop : xs 0 &&& 31 = 2)  : jRun ((4, xs) : jX) 2000 36 165 [.ref 164, .int 0] jzv228 = some (.inr 167, jzv230) := by
  refine jr_run (e := jm165) rfl (Nat.le_of_ble_eq_true rfl) ?_
  refine jl_s (S' := ((1, [(0, .ref 164), (1, .int 0)], [.ref 164], jzv228) : jS)) rfl ?_
  refine jl_s (S' := ((4, [(0, .ref 164), (1, .int 0)], [.ref 158], jzv228) : jS)) rfl ?_
  refine jl_s (S' := ((7, [(0, .ref 164), (1, .int 0)], [.int (-1)], jzv228) : jS)) rfl ?_
  refine jl_s (S' := ((8, [(0, .ref 164), (1, .int 0)], [.int 0, .int (-1)], jzv228) : jS)) rfl ?_
  refine jl_s (S' := ((11, [(0, .ref 164), (1, .int 0)], [], jzv228) : jS)) rfl ?_
  refine jl_s (S' := ((12, [(0, .ref 164), (1, .int 0)], [.ref 164], jzv228) : jS)) rfl ?_
  exact jl_ct (t := 163) (as := [.ref 164]) (V := jzv228) (r := (.inr 167, jzv230)) (q := (.inr 167, jzv230)) rfl (jzl215 xs hop ) rfl
set_option maxHeartbeats 4000000 in
set_option maxRecDepth 100000 in
theorem jzl217 (xs : Nat → Int32) (hop : xs 0 &&& 31 = 2)  : jRun ((4, xs) : jX) 2000 37 177 [.ref 164, .int 0] jzv228 = some (.inr 167, jzv230) := by
  refine jr_run (e := jm177) rfl (Nat.le_of_ble_eq_true rfl) ?_
  refine jl_s (S' := ((1, [(0, .ref 164), (1, .int 0)], [.ref 164], jzv228) : jS)) rfl ?_
  refine jl_s (S' := ((2, [(0, .ref 164), (1, .int 0)], [.int 0, .ref 164], jzv228) : jS)) rfl ?_
  exact jl_ct (t := 165) (as := [.ref 164, .int 0]) (V := jzv228) (r := (.inr 167, jzv230)) (q := (.inr 167, jzv230)) rfl (jzl216 xs hop ) rfl
def jzv231 : jH := [jzc5, jzc2, jzc117, jzc7, jzc9, jzc9, jzc9, jzc9, jzc9, jzc17, jzc19, jzc19, jzc19, jzc19, jzc19, jzc19, jzc19, jzc19, jzc28, jzc28, jzc28, jzc28, jzc28, jzc28, jzc28, jzc28, jzc28, jzc28, jzc28, jzc28, jzc28, jzc28, jzc43, jzc43, jzc43, jzc43, jzc43, jzc49, jzc49, jzc52, jzc52, jzc52, jzc56, jzc56, jzc59, jzc56, jzc62, jzc28, jzc28, jzc28, jzc28, jzc28, jzc69, jzc71, jzc73, jzc43, jzc76, jzc52, jzc52, jzc80, jzc80, jzc80, jzc84, jzc52, jzc52, jzc52, jzc52, jzc52, jzc52, jzc52, jzc93, jzc93, jzc52, jzc52, jzc98, jzc100, jzc93, jzc52, jzc52, jzc52, jzc52, jzc107, jzc109, jzc111, jzc100, jzc100, jzc100, jzc111, jzc111, jzc118, jzc160, jzc127, jzc129, jzc131, jzc159, jzc136, jzc138, jzc118, jzc138, jzc136, jzc145, jzc150, jzc155, jzc123]
set_option maxHeartbeats 4000000 in
set_option maxRecDepth 100000 in
theorem jzl218 (xs : Nat → Int32) (hop : xs 0 &&& 31 = 2)  : jRun ((4, xs) : jX) 2000 38 160 [.ref 164] jzv212 = some (.inl none, jzv231) := by
  refine jr_run (e := jm160) rfl (Nat.le_of_ble_eq_true rfl) ?_
  refine jl_s (S' := ((1, [(0, .ref 164)], [.ref 164], jzv212) : jS)) rfl ?_
  refine jl_s (S' := ((3, [(0, .ref 164)], [.ref 4, .ref 164], jzv212) : jS)) rfl ?_
  refine jl_s (S' := ((5, [(0, .ref 164)], [.int 12, .ref 4, .ref 164], jzv212) : jS)) rfl ?_
  refine jl_c (t := 161) (as := [.ref 164, .ref 4, .int 12]) (V := jzv212) (r := (.inl none, jzv218)) (S' := ((8, [(0, .ref 164)], [], jzv218) : jS)) rfl (jzl207 xs hop ) rfl ?_
  refine jl_s (S' := ((9, [(0, .ref 164)], [.ref 164], jzv218) : jS)) rfl ?_
  refine jl_s (S' := ((11, [(0, .ref 164)], [.ref 5, .ref 164], jzv218) : jS)) rfl ?_
  refine jl_s (S' := ((13, [(0, .ref 164)], [.int 13, .ref 5, .ref 164], jzv218) : jS)) rfl ?_
  refine jl_c (t := 161) (as := [.ref 164, .ref 5, .int 13]) (V := jzv218) (r := (.inl none, jzv225)) (S' := ((16, [(0, .ref 164)], [], jzv225) : jS)) rfl (jzl211 xs hop ) rfl ?_
  refine jl_s (S' := ((17, [(0, .ref 164)], [.ref 164], jzv225) : jS)) rfl ?_
  refine jl_s (S' := ((20, [(0, .ref 164)], [.ref 158], jzv225) : jS)) rfl ?_
  refine jl_c (t := 208) (as := [.ref 158]) (V := jzv225) (r := (.inl none, jzv228)) (S' := ((23, [(0, .ref 164)], [], jzv228) : jS)) rfl (jzl213 xs hop ) rfl ?_
  refine jl_s (S' := ((24, [(0, .ref 164)], [.int 0], jzv228) : jS)) rfl ?_
  refine jl_s (S' := ((25, [(1, .int 0), (0, .ref 164)], [], jzv228) : jS)) rfl ?_
  refine jl_s (S' := ((26, [(1, .int 0), (0, .ref 164)], [.int 0], jzv228) : jS)) rfl ?_
  refine jl_s (S' := ((29, [(1, .int 0), (0, .ref 164)], [.int 3000, .int 0], jzv228) : jS)) rfl ?_
  refine jl_s (S' := ((32, [(1, .int 0), (0, .ref 164)], [], jzv228) : jS)) rfl ?_
  refine jl_s (S' := ((33, [(1, .int 0), (0, .ref 164)], [.ref 164], jzv228) : jS)) rfl ?_
  refine jl_s (S' := ((36, [(1, .int 0), (0, .ref 164)], [.ref 158], jzv228) : jS)) rfl ?_
  refine jl_s (S' := ((39, [(1, .int 0), (0, .ref 164)], [.int (-1)], jzv228) : jS)) rfl ?_
  refine jl_s (S' := ((64, [(1, .int 0), (0, .ref 164)], [], jzv228) : jS)) rfl ?_
  refine jl_s (S' := ((65, [(1, .int 0), (0, .ref 164)], [.ref 164], jzv228) : jS)) rfl ?_
  refine jl_s (S' := ((68, [(1, .int 0), (0, .ref 164)], [.ref 158], jzv228) : jS)) rfl ?_
  refine jl_s (S' := ((71, [(1, .int 0), (0, .ref 164)], [.int (-1)], jzv228) : jS)) rfl ?_
  refine jl_s (S' := ((105, [(1, .int 0), (0, .ref 164)], [], jzv228) : jS)) rfl ?_
  refine jl_s (S' := ((106, [(1, .int 0), (0, .ref 164)], [.ref 164], jzv228) : jS)) rfl ?_
  refine jl_s (S' := ((109, [(1, .int 0), (0, .ref 164)], [.ref 154], jzv228) : jS)) rfl ?_
  refine jl_s (S' := ((112, [(1, .int 0), (0, .ref 164)], [.ref 155], jzv228) : jS)) rfl ?_
  refine jl_s (S' := ((113, [(1, .int 0), (0, .ref 164)], [.int 0, .ref 155], jzv228) : jS)) rfl ?_
  refine jl_s (S' := ((114, [(1, .int 0), (0, .ref 164)], [.ref 164, .int 0, .ref 155], jzv228) : jS)) rfl ?_
  refine jl_s (S' := ((115, [(1, .int 0), (0, .ref 164)], [.int 0, .ref 164, .int 0, .ref 155], jzv228) : jS)) rfl ?_
  refine jl_c (t := 177) (as := [.ref 164, .int 0]) (V := jzv228) (r := (.inr 167, jzv230)) (S' := ((136, [(1, .int 0), (0, .ref 164)], [.ref 167], jzv230) : jS)) rfl (jzl217 xs hop ) rfl ?_
  refine jl_s (S' := ((137, [(1, .ref 167), (0, .ref 164)], [], jzv230) : jS)) rfl ?_
  refine jl_s (S' := ((138, [(1, .ref 167), (0, .ref 164)], [.ref 164], jzv230) : jS)) rfl ?_
  refine jl_s (S' := ((139, [(1, .ref 167), (0, .ref 164)], [.null, .ref 164], jzv230) : jS)) rfl ?_
  refine jl_s (S' := ((142, [(1, .ref 167), (0, .ref 164)], [], jzv231) : jS)) rfl ?_
  exact jl_r (r := (.inl none, jzv231)) rfl
def jzc161 : jC := .inr (0, [.ref 65, .int 0, .int 1, .int (-1), .int (-1), .null, .null])
def jzv232 : jH := [jzc161, jzc2, jzc117, jzc7, jzc9, jzc9, jzc9, jzc9, jzc9, jzc17, jzc19, jzc19, jzc19, jzc19, jzc19, jzc19, jzc19, jzc19, jzc28, jzc28, jzc28, jzc28, jzc28, jzc28, jzc28, jzc28, jzc28, jzc28, jzc28, jzc28, jzc28, jzc28, jzc43, jzc43, jzc43, jzc43, jzc43, jzc49, jzc49, jzc52, jzc52, jzc52, jzc56, jzc56, jzc59, jzc56, jzc62, jzc28, jzc28, jzc28, jzc28, jzc28, jzc69, jzc71, jzc73, jzc43, jzc76, jzc52, jzc52, jzc80, jzc80, jzc80, jzc84, jzc52, jzc52, jzc52, jzc52, jzc52, jzc52, jzc52, jzc93, jzc93, jzc52, jzc52, jzc98, jzc100, jzc93, jzc52, jzc52, jzc52, jzc52, jzc107, jzc109, jzc111, jzc100, jzc100, jzc100, jzc111, jzc111, jzc118, jzc160, jzc127, jzc129, jzc131, jzc159, jzc136, jzc138, jzc118, jzc138, jzc136, jzc145, jzc150, jzc155, jzc123]
set_option maxHeartbeats 4000000 in
set_option maxRecDepth 100000 in
theorem jzl219 (xs : Nat → Int32) (hop : xs 0 &&& 31 = 2)  : jRun ((4, xs) : jX) 2000 39 22 [.ref 64] jzv181 = some (.inl (some (.int (-1))), jzv232) := by
  refine jr_run (e := jm22) rfl (Nat.le_of_ble_eq_true rfl) ?_
  refine jl_s (S' := ((3, [(0, .ref 64)], [.ref 154], jzv188) : jS)) rfl ?_
  refine jl_s (S' := ((4, [(0, .ref 64)], [.ref 154, .ref 154], jzv188) : jS)) rfl ?_
  refine jl_c (t := 204) (as := [.ref 154]) (V := jzv188) (r := (.inl none, jzv196)) (S' := ((7, [(0, .ref 64)], [.ref 154], jzv196) : jS)) rfl (jzl197 xs hop ) rfl ?_
  refine jl_s (S' := ((8, [(1, .ref 154), (0, .ref 64)], [], jzv196) : jS)) rfl ?_
  refine jl_s (S' := ((9, [(1, .ref 154), (0, .ref 64)], [.ref 64], jzv196) : jS)) rfl ?_
  refine jl_s (S' := ((10, [(1, .ref 154), (0, .ref 64)], [.null, .ref 64], jzv196) : jS)) rfl ?_
  refine jl_s (S' := ((13, [(1, .ref 154), (0, .ref 64)], [], jzv196) : jS)) rfl ?_
  refine jl_s (S' := ((16, [(1, .ref 154), (0, .ref 64)], [.ref 158], jzv197) : jS)) rfl ?_
  refine jl_s (S' := ((17, [(1, .ref 154), (0, .ref 64)], [.ref 158, .ref 158], jzv197) : jS)) rfl ?_
  refine jl_s (S' := ((18, [(1, .ref 154), (0, .ref 64)], [.ref 64, .ref 158, .ref 158], jzv197) : jS)) rfl ?_
  refine jl_s (S' := ((21, [(1, .ref 154), (0, .ref 64)], [.ref 65, .ref 158, .ref 158], jzv197) : jS)) rfl ?_
  refine jl_s (S' := ((22, [(1, .ref 154), (0, .ref 64)], [.ref 64, .ref 65, .ref 158, .ref 158], jzv197) : jS)) rfl ?_
  refine jl_s (S' := ((25, [(1, .ref 154), (0, .ref 64)], [.int 0, .ref 65, .ref 158, .ref 158], jzv197) : jS)) rfl ?_
  refine jl_c (t := 206) (as := [.ref 158, .ref 65, .int 0]) (V := jzv197) (r := (.inl none, jzv209)) (S' := ((28, [(1, .ref 154), (0, .ref 64)], [.ref 158], jzv209) : jS)) rfl (jzl199 xs hop ) rfl ?_
  refine jl_s (S' := ((29, [(2, .ref 158), (1, .ref 154), (0, .ref 64)], [], jzv209) : jS)) rfl ?_
  refine jl_s (S' := ((30, [(2, .ref 158), (1, .ref 154), (0, .ref 64)], [.ref 158], jzv209) : jS)) rfl ?_
  refine jl_c (t := 211) (as := [.ref 158]) (V := jzv209) (r := (.inl none, jzv209)) (S' := ((33, [(2, .ref 158), (1, .ref 154), (0, .ref 64)], [], jzv209) : jS)) rfl (jzl202 xs hop ) rfl ?_
  refine jl_s (S' := ((36, [(2, .ref 158), (1, .ref 154), (0, .ref 64)], [.ref 164], jzv210) : jS)) rfl ?_
  refine jl_s (S' := ((37, [(2, .ref 158), (1, .ref 154), (0, .ref 64)], [.ref 164, .ref 164], jzv210) : jS)) rfl ?_
  refine jl_s (S' := ((38, [(2, .ref 158), (1, .ref 154), (0, .ref 64)], [.ref 154, .ref 164, .ref 164], jzv210) : jS)) rfl ?_
  refine jl_s (S' := ((39, [(2, .ref 158), (1, .ref 154), (0, .ref 64)], [.ref 158, .ref 154, .ref 164, .ref 164], jzv210) : jS)) rfl ?_
  refine jl_c (t := 159) (as := [.ref 164, .ref 154, .ref 158]) (V := jzv210) (r := (.inl none, jzv212)) (S' := ((42, [(2, .ref 158), (1, .ref 154), (0, .ref 64)], [.ref 164], jzv212) : jS)) rfl (jzl203 xs hop ) rfl ?_
  refine jl_c (t := 160) (as := [.ref 164]) (V := jzv212) (r := (.inl none, jzv231)) (S' := ((45, [(2, .ref 158), (1, .ref 154), (0, .ref 64)], [], jzv231) : jS)) rfl (jzl218 xs hop ) rfl ?_
  refine jl_s (S' := ((46, [(2, .ref 158), (1, .ref 154), (0, .ref 64)], [.ref 64], jzv231) : jS)) rfl ?_
  refine jl_s (S' := ((47, [(2, .ref 158), (1, .ref 154), (0, .ref 64)], [.int 0, .ref 64], jzv231) : jS)) rfl ?_
  refine jl_s (S' := ((50, [(2, .ref 158), (1, .ref 154), (0, .ref 64)], [], jzv231) : jS)) rfl ?_
  refine jl_s (S' := ((51, [(2, .ref 158), (1, .ref 154), (0, .ref 64)], [.ref 154], jzv231) : jS)) rfl ?_
  refine jl_s (S' := ((54, [(2, .ref 158), (1, .ref 154), (0, .ref 64)], [.int 1], jzv231) : jS)) rfl ?_
  refine jl_s (S' := ((68, [(2, .ref 158), (1, .ref 154), (0, .ref 64)], [], jzv231) : jS)) rfl ?_
  refine jl_s (S' := ((69, [(2, .ref 158), (1, .ref 154), (0, .ref 64)], [.ref 154], jzv231) : jS)) rfl ?_
  refine jl_s (S' := ((72, [(2, .ref 158), (1, .ref 154), (0, .ref 64)], [.int 1], jzv231) : jS)) rfl ?_
  refine jl_s (S' := ((86, [(2, .ref 158), (1, .ref 154), (0, .ref 64)], [], jzv231) : jS)) rfl ?_
  refine jl_s (S' := ((87, [(2, .ref 158), (1, .ref 154), (0, .ref 64)], [.ref 154], jzv231) : jS)) rfl ?_
  refine jl_s (S' := ((90, [(2, .ref 158), (1, .ref 154), (0, .ref 64)], [.int 1], jzv231) : jS)) rfl ?_
  refine jl_s (S' := ((101, [(2, .ref 158), (1, .ref 154), (0, .ref 64)], [], jzv231) : jS)) rfl ?_
  refine jl_s (S' := ((102, [(2, .ref 158), (1, .ref 154), (0, .ref 64)], [.null], jzv231) : jS)) rfl ?_
  refine jl_s (S' := ((103, [(3, .null), (2, .ref 158), (1, .ref 154), (0, .ref 64)], [], jzv231) : jS)) rfl ?_
  refine jl_s (S' := ((104, [(3, .null), (2, .ref 158), (1, .ref 154), (0, .ref 64)], [.ref 64], jzv231) : jS)) rfl ?_
  refine jl_s (S' := ((105, [(3, .null), (2, .ref 158), (1, .ref 154), (0, .ref 64)], [.ref 154, .ref 64], jzv231) : jS)) rfl ?_
  refine jl_s (S' := ((108, [(3, .null), (2, .ref 158), (1, .ref 154), (0, .ref 64)], [.int 1, .ref 64], jzv231) : jS)) rfl ?_
  refine jl_s (S' := ((111, [(3, .null), (2, .ref 158), (1, .ref 154), (0, .ref 64)], [], jzv232) : jS)) rfl ?_
  refine jl_s (S' := ((112, [(3, .null), (2, .ref 158), (1, .ref 154), (0, .ref 64)], [.ref 64], jzv232) : jS)) rfl ?_
  refine jl_s (S' := ((113, [(3, .null), (2, .ref 158), (1, .ref 154), (0, .ref 64)], [.ref 154, .ref 64], jzv232) : jS)) rfl ?_
  refine jl_s (S' := ((116, [(3, .null), (2, .ref 158), (1, .ref 154), (0, .ref 64)], [.int (-1), .ref 64], jzv232) : jS)) rfl ?_
  refine jl_s (S' := ((119, [(3, .null), (2, .ref 158), (1, .ref 154), (0, .ref 64)], [], jzv232) : jS)) rfl ?_
  refine jl_s (S' := ((120, [(3, .null), (2, .ref 158), (1, .ref 154), (0, .ref 64)], [.ref 64], jzv232) : jS)) rfl ?_
  refine jl_s (S' := ((121, [(3, .null), (2, .ref 158), (1, .ref 154), (0, .ref 64)], [.ref 154, .ref 64], jzv232) : jS)) rfl ?_
  refine jl_s (S' := ((124, [(3, .null), (2, .ref 158), (1, .ref 154), (0, .ref 64)], [.int (-1), .ref 64], jzv232) : jS)) rfl ?_
  refine jl_s (S' := ((127, [(3, .null), (2, .ref 158), (1, .ref 154), (0, .ref 64)], [], jzv232) : jS)) rfl ?_
  refine jl_s (S' := ((128, [(3, .null), (2, .ref 158), (1, .ref 154), (0, .ref 64)], [.ref 64], jzv232) : jS)) rfl ?_
  refine jl_s (S' := ((129, [(3, .null), (2, .ref 158), (1, .ref 154), (0, .ref 64)], [.null, .ref 64], jzv232) : jS)) rfl ?_
  refine jl_s (S' := ((132, [(3, .null), (2, .ref 158), (1, .ref 154), (0, .ref 64)], [], jzv232) : jS)) rfl ?_
  refine jl_s (S' := ((133, [(3, .null), (2, .ref 158), (1, .ref 154), (0, .ref 64)], [.null], jzv232) : jS)) rfl ?_
  refine jl_s (S' := ((136, [(3, .null), (2, .ref 158), (1, .ref 154), (0, .ref 64)], [], jzv232) : jS)) rfl ?_
  refine jl_s (S' := ((137, [(3, .null), (2, .ref 158), (1, .ref 154), (0, .ref 64)], [.int (-1)], jzv232) : jS)) rfl ?_
  refine jl_s (S' := ((144, [(3, .null), (2, .ref 158), (1, .ref 154), (0, .ref 64)], [.int (-1)], jzv232) : jS)) rfl ?_
  exact jl_r (r := (.inl (some (.int (-1))), jzv232)) rfl
def jzc162 : jC := .inr (12, [.int 0, .ref 67, .int 0, .int 0, .ref 68, .ref 69, .ref 70, .ref 71, .ref 72, .int 0, .int 0, .int 0, .int 0, .int 0, .long 0, .int 0, .int 0, .int (-1), .int (-1), .int 0, .ref 73, .ref 74, .ref 75, .ref 76, .ref 77, .ref 78, .ref 79, .ref 80, .int 0, .int 0, .ref 81, .int 1, .ref 82, .ref 83, .ref 84, .ref 85, .ref 86, .ref 87, .ref 88, .ref 89, .ref 90, .ref 91, .ref 92, .ref 93, .ref 94, .ref 95, .int 0, .ref 96, .ref 97, .ref 98, .ref 99, .ref 100, .int 0, .ref 101, .ref 102, .ref 103, .ref 104, .ref 105, .int 0, .int 0, .int 0, .int 0, .int 0, .ref 106, .ref 107, .ref 108, .ref 109, .int 0, .int 0, .ref 110, .int 0, .ref 111, .ref 112, .ref 113, .ref 114, .ref 115, .ref 116, .int 0, .ref 117, .int 0, .ref 118, .int 0, .ref 119, .ref 120, .ref 121, .ref 122, .ref 123, .ref 124, .ref 125, .int 0, .ref 126, .ref 127, .ref 128, .ref 129, .ref 130, .ref 131, .ref 132, .ref 133, .ref 134, .ref 135, .ref 136, .ref 137, .ref 138, .ref 139, .ref 140, .ref 141, .ref 142, .ref 143, .ref 144, .ref 145, .int 0, .int 0, .ref 146, .int 0, .ref 147, .ref 148, .ref 149, .ref 150, .ref 151, .ref 152, .int 0, .int 0])
def jzv233 : jH := [jzc161, jzc2, jzc162, jzc7, jzc9, jzc9, jzc9, jzc9, jzc9, jzc17, jzc19, jzc19, jzc19, jzc19, jzc19, jzc19, jzc19, jzc19, jzc28, jzc28, jzc28, jzc28, jzc28, jzc28, jzc28, jzc28, jzc28, jzc28, jzc28, jzc28, jzc28, jzc28, jzc43, jzc43, jzc43, jzc43, jzc43, jzc49, jzc49, jzc52, jzc52, jzc52, jzc56, jzc56, jzc59, jzc56, jzc62, jzc28, jzc28, jzc28, jzc28, jzc28, jzc69, jzc71, jzc73, jzc43, jzc76, jzc52, jzc52, jzc80, jzc80, jzc80, jzc84, jzc52, jzc52, jzc52, jzc52, jzc52, jzc52, jzc52, jzc93, jzc93, jzc52, jzc52, jzc98, jzc100, jzc93, jzc52, jzc52, jzc52, jzc52, jzc107, jzc109, jzc111, jzc100, jzc100, jzc100, jzc111, jzc111, jzc118, jzc160, jzc127, jzc129, jzc131, jzc159, jzc136, jzc138, jzc118, jzc138, jzc136, jzc145, jzc150, jzc155, jzc123]
def jzc163 : jC := .inl (1, 6, .inl (upd (fun _ => 0) 0 0))
def jzv234 : jH := [jzc161, jzc2, jzc162, jzc7, jzc9, jzc9, jzc9, jzc9, jzc9, jzc17, jzc19, jzc19, jzc19, jzc19, jzc19, jzc19, jzc19, jzc19, jzc28, jzc28, jzc28, jzc28, jzc28, jzc28, jzc28, jzc28, jzc28, jzc28, jzc28, jzc28, jzc28, jzc28, jzc43, jzc43, jzc43, jzc43, jzc43, jzc49, jzc49, jzc163, jzc52, jzc52, jzc56, jzc56, jzc59, jzc56, jzc62, jzc28, jzc28, jzc28, jzc28, jzc28, jzc69, jzc71, jzc73, jzc43, jzc76, jzc52, jzc52, jzc80, jzc80, jzc80, jzc84, jzc52, jzc52, jzc52, jzc52, jzc52, jzc52, jzc52, jzc93, jzc93, jzc52, jzc52, jzc98, jzc100, jzc93, jzc52, jzc52, jzc52, jzc52, jzc107, jzc109, jzc111, jzc100, jzc100, jzc100, jzc111, jzc111, jzc118, jzc160, jzc127, jzc129, jzc131, jzc159, jzc136, jzc138, jzc118, jzc138, jzc136, jzc145, jzc150, jzc155, jzc123]
def jzc164 : jC := .inl (1, 6, .inl (upd (upd (fun _ => 0) 0 0) 1 0))
def jzv235 : jH := [jzc161, jzc2, jzc162, jzc7, jzc9, jzc9, jzc9, jzc9, jzc9, jzc17, jzc19, jzc19, jzc19, jzc19, jzc19, jzc19, jzc19, jzc19, jzc28, jzc28, jzc28, jzc28, jzc28, jzc28, jzc28, jzc28, jzc28, jzc28, jzc28, jzc28, jzc28, jzc28, jzc43, jzc43, jzc43, jzc43, jzc43, jzc49, jzc49, jzc164, jzc52, jzc52, jzc56, jzc56, jzc59, jzc56, jzc62, jzc28, jzc28, jzc28, jzc28, jzc28, jzc69, jzc71, jzc73, jzc43, jzc76, jzc52, jzc52, jzc80, jzc80, jzc80, jzc84, jzc52, jzc52, jzc52, jzc52, jzc52, jzc52, jzc52, jzc93, jzc93, jzc52, jzc52, jzc98, jzc100, jzc93, jzc52, jzc52, jzc52, jzc52, jzc107, jzc109, jzc111, jzc100, jzc100, jzc100, jzc111, jzc111, jzc118, jzc160, jzc127, jzc129, jzc131, jzc159, jzc136, jzc138, jzc118, jzc138, jzc136, jzc145, jzc150, jzc155, jzc123]
def jzc165 : jC := .inl (1, 6, .inl (upd (upd (upd (fun _ => 0) 0 0) 1 0) 2 0))
def jzv236 : jH := [jzc161, jzc2, jzc162, jzc7, jzc9, jzc9, jzc9, jzc9, jzc9, jzc17, jzc19, jzc19, jzc19, jzc19, jzc19, jzc19, jzc19, jzc19, jzc28, jzc28, jzc28, jzc28, jzc28, jzc28, jzc28, jzc28, jzc28, jzc28, jzc28, jzc28, jzc28, jzc28, jzc43, jzc43, jzc43, jzc43, jzc43, jzc49, jzc49, jzc165, jzc52, jzc52, jzc56, jzc56, jzc59, jzc56, jzc62, jzc28, jzc28, jzc28, jzc28, jzc28, jzc69, jzc71, jzc73, jzc43, jzc76, jzc52, jzc52, jzc80, jzc80, jzc80, jzc84, jzc52, jzc52, jzc52, jzc52, jzc52, jzc52, jzc52, jzc93, jzc93, jzc52, jzc52, jzc98, jzc100, jzc93, jzc52, jzc52, jzc52, jzc52, jzc107, jzc109, jzc111, jzc100, jzc100, jzc100, jzc111, jzc111, jzc118, jzc160, jzc127, jzc129, jzc131, jzc159, jzc136, jzc138, jzc118, jzc138, jzc136, jzc145, jzc150, jzc155, jzc123]
def jzc166 : jC := .inl (1, 6, .inl (upd (upd (upd (upd (fun _ => 0) 0 0) 1 0) 2 0) 3 0))
def jzv237 : jH := [jzc161, jzc2, jzc162, jzc7, jzc9, jzc9, jzc9, jzc9, jzc9, jzc17, jzc19, jzc19, jzc19, jzc19, jzc19, jzc19, jzc19, jzc19, jzc28, jzc28, jzc28, jzc28, jzc28, jzc28, jzc28, jzc28, jzc28, jzc28, jzc28, jzc28, jzc28, jzc28, jzc43, jzc43, jzc43, jzc43, jzc43, jzc49, jzc49, jzc166, jzc52, jzc52, jzc56, jzc56, jzc59, jzc56, jzc62, jzc28, jzc28, jzc28, jzc28, jzc28, jzc69, jzc71, jzc73, jzc43, jzc76, jzc52, jzc52, jzc80, jzc80, jzc80, jzc84, jzc52, jzc52, jzc52, jzc52, jzc52, jzc52, jzc52, jzc93, jzc93, jzc52, jzc52, jzc98, jzc100, jzc93, jzc52, jzc52, jzc52, jzc52, jzc107, jzc109, jzc111, jzc100, jzc100, jzc100, jzc111, jzc111, jzc118, jzc160, jzc127, jzc129, jzc131, jzc159, jzc136, jzc138, jzc118, jzc138, jzc136, jzc145, jzc150, jzc155, jzc123]
def jzc167 : jC := .inl (1, 6, .inl (upd (upd (upd (upd (upd (fun _ => 0) 0 0) 1 0) 2 0) 3 0) 4 0))
def jzv238 : jH := [jzc161, jzc2, jzc162, jzc7, jzc9, jzc9, jzc9, jzc9, jzc9, jzc17, jzc19, jzc19, jzc19, jzc19, jzc19, jzc19, jzc19, jzc19, jzc28, jzc28, jzc28, jzc28, jzc28, jzc28, jzc28, jzc28, jzc28, jzc28, jzc28, jzc28, jzc28, jzc28, jzc43, jzc43, jzc43, jzc43, jzc43, jzc49, jzc49, jzc167, jzc52, jzc52, jzc56, jzc56, jzc59, jzc56, jzc62, jzc28, jzc28, jzc28, jzc28, jzc28, jzc69, jzc71, jzc73, jzc43, jzc76, jzc52, jzc52, jzc80, jzc80, jzc80, jzc84, jzc52, jzc52, jzc52, jzc52, jzc52, jzc52, jzc52, jzc93, jzc93, jzc52, jzc52, jzc98, jzc100, jzc93, jzc52, jzc52, jzc52, jzc52, jzc107, jzc109, jzc111, jzc100, jzc100, jzc100, jzc111, jzc111, jzc118, jzc160, jzc127, jzc129, jzc131, jzc159, jzc136, jzc138, jzc118, jzc138, jzc136, jzc145, jzc150, jzc155, jzc123]
def jzc168 : jC := .inl (1, 6, .inl (upd (upd (upd (upd (upd (upd (fun _ => 0) 0 0) 1 0) 2 0) 3 0) 4 0) 5 0))
def jzv239 : jH := [jzc161, jzc2, jzc162, jzc7, jzc9, jzc9, jzc9, jzc9, jzc9, jzc17, jzc19, jzc19, jzc19, jzc19, jzc19, jzc19, jzc19, jzc19, jzc28, jzc28, jzc28, jzc28, jzc28, jzc28, jzc28, jzc28, jzc28, jzc28, jzc28, jzc28, jzc28, jzc28, jzc43, jzc43, jzc43, jzc43, jzc43, jzc49, jzc49, jzc168, jzc52, jzc52, jzc56, jzc56, jzc59, jzc56, jzc62, jzc28, jzc28, jzc28, jzc28, jzc28, jzc69, jzc71, jzc73, jzc43, jzc76, jzc52, jzc52, jzc80, jzc80, jzc80, jzc84, jzc52, jzc52, jzc52, jzc52, jzc52, jzc52, jzc52, jzc93, jzc93, jzc52, jzc52, jzc98, jzc100, jzc93, jzc52, jzc52, jzc52, jzc52, jzc107, jzc109, jzc111, jzc100, jzc100, jzc100, jzc111, jzc111, jzc118, jzc160, jzc127, jzc129, jzc131, jzc159, jzc136, jzc138, jzc118, jzc138, jzc136, jzc145, jzc150, jzc155, jzc123]
set_option maxHeartbeats 4000000 in
set_option maxRecDepth 100000 in
theorem jzl220 (xs : Nat → Int32) (hop : xs 0 &&& 31 = 2)  : jRun ((4, xs) : jX) 2000 38 252 [.ref 66] jzv239 = some (.inl none, jzv239) := by
  refine jr_run (e := jm252) rfl (Nat.le_of_ble_eq_true rfl) ?_
  refine jl_s (S' := ((1, [(0, .ref 66)], [.ref 66], jzv239) : jS)) rfl ?_
  refine jl_s (S' := ((2, [(0, .ref 66)], [.int 0, .ref 66], jzv239) : jS)) rfl ?_
  refine jl_s (S' := ((5, [(0, .ref 66)], [], jzv239) : jS)) rfl ?_
  refine jl_s (S' := ((6, [(0, .ref 66)], [.int 0], jzv239) : jS)) rfl ?_
  refine jl_s (S' := ((7, [(1, .int 0), (0, .ref 66)], [], jzv239) : jS)) rfl ?_
  refine jl_s (S' := ((8, [(1, .int 0), (0, .ref 66)], [.int 0], jzv239) : jS)) rfl ?_
  refine jl_s (S' := ((9, [(2, .int 0), (1, .int 0), (0, .ref 66)], [], jzv239) : jS)) rfl ?_
  refine jl_s (S' := ((10, [(2, .int 0), (1, .int 0), (0, .ref 66)], [.int 0], jzv239) : jS)) rfl ?_
  refine jl_s (S' := ((11, [(2, .int 0), (1, .int 0), (0, .ref 66)], [.ref 66, .int 0], jzv239) : jS)) rfl ?_
  refine jl_s (S' := ((14, [(2, .int 0), (1, .int 0), (0, .ref 66)], [.int 0, .int 0], jzv239) : jS)) rfl ?_
  refine jl_s (S' := ((17, [(2, .int 0), (1, .int 0), (0, .ref 66)], [], jzv239) : jS)) rfl ?_
  refine jl_s (S' := ((18, [(2, .int 0), (1, .int 0), (0, .ref 66)], [.int 0], jzv239) : jS)) rfl ?_
  refine jl_s (S' := ((19, [(3, .int 0), (2, .int 0), (1, .int 0), (0, .ref 66)], [], jzv239) : jS)) rfl ?_
  refine jl_s (S' := ((20, [(3, .int 0), (2, .int 0), (1, .int 0), (0, .ref 66)], [.int 0], jzv239) : jS)) rfl ?_
  refine jl_s (S' := ((21, [(3, .int 0), (2, .int 0), (1, .int 0), (0, .ref 66)], [.ref 66, .int 0], jzv239) : jS)) rfl ?_
  refine jl_s (S' := ((24, [(3, .int 0), (2, .int 0), (1, .int 0), (0, .ref 66)], [.int 0, .int 0], jzv239) : jS)) rfl ?_
  refine jl_s (S' := ((44, [(3, .int 0), (2, .int 0), (1, .int 0), (0, .ref 66)], [], jzv239) : jS)) rfl ?_
  refine jl_s (S' := ((45, [(3, .int 0), (2, .int 0), (1, .int 0), (0, .ref 66)], [.int 0], jzv239) : jS)) rfl ?_
  refine jl_s (S' := ((47, [(4, .int 0), (3, .int 0), (2, .int 0), (1, .int 0), (0, .ref 66)], [], jzv239) : jS)) rfl ?_
  refine jl_s (S' := ((49, [(4, .int 0), (3, .int 0), (2, .int 0), (1, .int 0), (0, .ref 66)], [.int 0], jzv239) : jS)) rfl ?_
  refine jl_s (S' := ((50, [(4, .int 0), (3, .int 0), (2, .int 0), (1, .int 0), (0, .ref 66)], [.int 0, .int 0], jzv239) : jS)) rfl ?_
  refine jl_s (S' := ((93, [(4, .int 0), (3, .int 0), (2, .int 0), (1, .int 0), (0, .ref 66)], [], jzv239) : jS)) rfl ?_
  refine jl_s (S' := ((94, [(4, .int 0), (3, .int 0), (2, .int 0), (1, .int 0), (0, .ref 66)], [.int 0], jzv239) : jS)) rfl ?_
  refine jl_s (S' := ((96, [(5, .int 0), (4, .int 0), (3, .int 0), (2, .int 0), (1, .int 0), (0, .ref 66)], [], jzv239) : jS)) rfl ?_
  refine jl_s (S' := ((98, [(5, .int 0), (4, .int 0), (3, .int 0), (2, .int 0), (1, .int 0), (0, .ref 66)], [.int 0], jzv239) : jS)) rfl ?_
  refine jl_s (S' := ((100, [(5, .int 0), (4, .int 0), (3, .int 0), (2, .int 0), (1, .int 0), (0, .ref 66)], [.int 0, .int 0], jzv239) : jS)) rfl ?_
  refine jl_s (S' := ((121, [(5, .int 0), (4, .int 0), (3, .int 0), (2, .int 0), (1, .int 0), (0, .ref 66)], [], jzv239) : jS)) rfl ?_
  refine jl_s (S' := ((123, [(5, .int 0), (4, .int 0), (3, .int 0), (2, .int 0), (1, .int 0), (0, .ref 66)], [.int 0], jzv239) : jS)) rfl ?_
  refine jl_s (S' := ((125, [(5, .int 0), (4, .int 0), (3, .int 0), (2, .int 0), (1, .int 0), (0, .ref 66)], [.int 0, .int 0], jzv239) : jS)) rfl ?_
  refine jl_s (S' := ((217, [(5, .int 0), (4, .int 0), (3, .int 0), (2, .int 0), (1, .int 0), (0, .ref 66)], [], jzv239) : jS)) rfl ?_
  refine jl_s (S' := ((220, [(2, .int 1), (5, .int 0), (4, .int 0), (3, .int 0), (1, .int 0), (0, .ref 66)], [], jzv239) : jS)) rfl ?_
  refine jl_s (S' := ((221, [(2, .int 1), (5, .int 0), (4, .int 0), (3, .int 0), (1, .int 0), (0, .ref 66)], [.int 0], jzv239) : jS)) rfl ?_
  refine jl_s (S' := ((222, [(2, .int 1), (5, .int 0), (4, .int 0), (3, .int 0), (1, .int 0), (0, .ref 66)], [.int 1, .int 0], jzv239) : jS)) rfl ?_
  refine jl_s (S' := ((223, [(2, .int 1), (5, .int 0), (4, .int 0), (3, .int 0), (1, .int 0), (0, .ref 66)], [.int 1], jzv239) : jS)) rfl ?_
  refine jl_s (S' := ((224, [(1, .int 1), (2, .int 1), (5, .int 0), (4, .int 0), (3, .int 0), (0, .ref 66)], [], jzv239) : jS)) rfl ?_
  refine jl_s (S' := ((9, [(1, .int 1), (2, .int 1), (5, .int 0), (4, .int 0), (3, .int 0), (0, .ref 66)], [], jzv239) : jS)) rfl ?_
  refine jl_s (S' := ((10, [(1, .int 1), (2, .int 1), (5, .int 0), (4, .int 0), (3, .int 0), (0, .ref 66)], [.int 1], jzv239) : jS)) rfl ?_
  refine jl_s (S' := ((11, [(1, .int 1), (2, .int 1), (5, .int 0), (4, .int 0), (3, .int 0), (0, .ref 66)], [.ref 66, .int 1], jzv239) : jS)) rfl ?_
  refine jl_s (S' := ((14, [(1, .int 1), (2, .int 1), (5, .int 0), (4, .int 0), (3, .int 0), (0, .ref 66)], [.int 0, .int 1], jzv239) : jS)) rfl ?_
  refine jl_s (S' := ((227, [(1, .int 1), (2, .int 1), (5, .int 0), (4, .int 0), (3, .int 0), (0, .ref 66)], [], jzv239) : jS)) rfl ?_
  exact jl_r (r := (.inl none, jzv239)) rfl
set_option maxHeartbeats 4000000 in
set_option maxRecDepth 100000 in
theorem jzl221 (xs : Nat → Int32) (hop : xs 0 &&& 31 = 2)  : jRun ((4, xs) : jX) 2000 35 254 [.int 115] jzv239 = some (.inl (some (.int 1)), jzv239) := by
  refine jr_run (e := jm254) rfl (Nat.le_of_ble_eq_true rfl) ?_
  refine jl_s (S' := ((1, [(0, .int 115)], [.int 115], jzv239) : jS)) rfl ?_
  refine jl_s (S' := ((3, [(0, .int 115)], [.int 97, .int 115], jzv239) : jS)) rfl ?_
  refine jl_s (S' := ((6, [(0, .int 115)], [], jzv239) : jS)) rfl ?_
  refine jl_s (S' := ((7, [(0, .int 115)], [.int 115], jzv239) : jS)) rfl ?_
  refine jl_s (S' := ((9, [(0, .int 115)], [.int 122, .int 115], jzv239) : jS)) rfl ?_
  refine jl_s (S' := ((12, [(0, .int 115)], [], jzv239) : jS)) rfl ?_
  refine jl_s (S' := ((13, [(0, .int 115)], [.int 1], jzv239) : jS)) rfl ?_
  refine jl_s (S' := ((17, [(0, .int 115)], [.int 1], jzv239) : jS)) rfl ?_
  exact jl_r (r := (.inl (some (.int 1)), jzv239)) rfl
set_option maxHeartbeats 4000000 in
set_option maxRecDepth 100000 in
theorem jzl222 (xs : Nat → Int32) (hop : xs 0 &&& 31 = 2)  : jRun ((4, xs) : jX) 2000 36 257 [.int 115] jzv239 = some (.inl (some (.long 19)), jzv239) := by
  refine jr_run (e := jm257) rfl (Nat.le_of_ble_eq_true rfl) ?_
  refine jl_s (S' := ((1, [(0, .int 115)], [.int 115], jzv239) : jS)) rfl ?_
  refine jl_c (t := 254) (as := [.int 115]) (V := jzv239) (r := (.inl (some (.int 1)), jzv239)) (S' := ((4, [(0, .int 115)], [.int 1], jzv239) : jS)) rfl (jzl221 xs hop ) rfl ?_
  refine jl_s (S' := ((7, [(0, .int 115)], [], jzv239) : jS)) rfl ?_
  refine jl_s (S' := ((8, [(0, .int 115)], [.int 115], jzv239) : jS)) rfl ?_
  refine jl_s (S' := ((10, [(0, .int 115)], [.int 97, .int 115], jzv239) : jS)) rfl ?_
  refine jl_s (S' := ((11, [(0, .int 115)], [.int 18], jzv239) : jS)) rfl ?_
  refine jl_s (S' := ((12, [(0, .int 115)], [.long 18], jzv239) : jS)) rfl ?_
  refine jl_s (S' := ((13, [(0, .int 115)], [.long 1, .long 18], jzv239) : jS)) rfl ?_
  refine jl_s (S' := ((14, [(0, .int 115)], [.long 19], jzv239) : jS)) rfl ?_
  refine jl_s (S' := ((39, [(0, .int 115)], [.long 19], jzv239) : jS)) rfl ?_
  exact jl_r (r := (.inl (some (.long 19)), jzv239)) rfl
set_option maxHeartbeats 4000000 in
set_option maxRecDepth 100000 in
theorem jzl223 (xs : Nat → Int32) (hop : xs 0 &&& 31 = 2)  : jRun ((4, xs) : jX) 2000 35 254 [.int 99] jzv239 = some (.inl (some (.int 1)), jzv239) := by
  refine jr_run (e := jm254) rfl (Nat.le_of_ble_eq_true rfl) ?_
  refine jl_s (S' := ((1, [(0, .int 99)], [.int 99], jzv239) : jS)) rfl ?_
  refine jl_s (S' := ((3, [(0, .int 99)], [.int 97, .int 99], jzv239) : jS)) rfl ?_
  refine jl_s (S' := ((6, [(0, .int 99)], [], jzv239) : jS)) rfl ?_
  refine jl_s (S' := ((7, [(0, .int 99)], [.int 99], jzv239) : jS)) rfl ?_
  refine jl_s (S' := ((9, [(0, .int 99)], [.int 122, .int 99], jzv239) : jS)) rfl ?_
  refine jl_s (S' := ((12, [(0, .int 99)], [], jzv239) : jS)) rfl ?_
  refine jl_s (S' := ((13, [(0, .int 99)], [.int 1], jzv239) : jS)) rfl ?_
  refine jl_s (S' := ((17, [(0, .int 99)], [.int 1], jzv239) : jS)) rfl ?_
  exact jl_r (r := (.inl (some (.int 1)), jzv239)) rfl
set_option maxHeartbeats 4000000 in
set_option maxRecDepth 100000 in
theorem jzl224 (xs : Nat → Int32) (hop : xs 0 &&& 31 = 2)  : jRun ((4, xs) : jX) 2000 36 257 [.int 99] jzv239 = some (.inl (some (.long 3)), jzv239) := by
  refine jr_run (e := jm257) rfl (Nat.le_of_ble_eq_true rfl) ?_
  refine jl_s (S' := ((1, [(0, .int 99)], [.int 99], jzv239) : jS)) rfl ?_
  refine jl_c (t := 254) (as := [.int 99]) (V := jzv239) (r := (.inl (some (.int 1)), jzv239)) (S' := ((4, [(0, .int 99)], [.int 1], jzv239) : jS)) rfl (jzl223 xs hop ) rfl ?_
  refine jl_s (S' := ((7, [(0, .int 99)], [], jzv239) : jS)) rfl ?_
  refine jl_s (S' := ((8, [(0, .int 99)], [.int 99], jzv239) : jS)) rfl ?_
  refine jl_s (S' := ((10, [(0, .int 99)], [.int 97, .int 99], jzv239) : jS)) rfl ?_
  refine jl_s (S' := ((11, [(0, .int 99)], [.int 2], jzv239) : jS)) rfl ?_
  refine jl_s (S' := ((12, [(0, .int 99)], [.long 2], jzv239) : jS)) rfl ?_
  refine jl_s (S' := ((13, [(0, .int 99)], [.long 1, .long 2], jzv239) : jS)) rfl ?_
  refine jl_s (S' := ((14, [(0, .int 99)], [.long 3], jzv239) : jS)) rfl ?_
  refine jl_s (S' := ((39, [(0, .int 99)], [.long 3], jzv239) : jS)) rfl ?_
  exact jl_r (r := (.inl (some (.long 3)), jzv239)) rfl
set_option maxHeartbeats 4000000 in
set_option maxRecDepth 100000 in
theorem jzl225 (xs : Nat → Int32) (hop : xs 0 &&& 31 = 2)  : jRun ((4, xs) : jX) 2000 35 254 [.int 114] jzv239 = some (.inl (some (.int 1)), jzv239) := by
  refine jr_run (e := jm254) rfl (Nat.le_of_ble_eq_true rfl) ?_
  refine jl_s (S' := ((1, [(0, .int 114)], [.int 114], jzv239) : jS)) rfl ?_
  refine jl_s (S' := ((3, [(0, .int 114)], [.int 97, .int 114], jzv239) : jS)) rfl ?_
  refine jl_s (S' := ((6, [(0, .int 114)], [], jzv239) : jS)) rfl ?_
  refine jl_s (S' := ((7, [(0, .int 114)], [.int 114], jzv239) : jS)) rfl ?_
  refine jl_s (S' := ((9, [(0, .int 114)], [.int 122, .int 114], jzv239) : jS)) rfl ?_
  refine jl_s (S' := ((12, [(0, .int 114)], [], jzv239) : jS)) rfl ?_
  refine jl_s (S' := ((13, [(0, .int 114)], [.int 1], jzv239) : jS)) rfl ?_
  refine jl_s (S' := ((17, [(0, .int 114)], [.int 1], jzv239) : jS)) rfl ?_
  exact jl_r (r := (.inl (some (.int 1)), jzv239)) rfl
set_option maxHeartbeats 4000000 in
set_option maxRecDepth 100000 in
theorem jzl226 (xs : Nat → Int32) (hop : xs 0 &&& 31 = 2)  : jRun ((4, xs) : jX) 2000 36 257 [.int 114] jzv239 = some (.inl (some (.long 18)), jzv239) := by
  refine jr_run (e := jm257) rfl (Nat.le_of_ble_eq_true rfl) ?_
  refine jl_s (S' := ((1, [(0, .int 114)], [.int 114], jzv239) : jS)) rfl ?_
  refine jl_c (t := 254) (as := [.int 114]) (V := jzv239) (r := (.inl (some (.int 1)), jzv239)) (S' := ((4, [(0, .int 114)], [.int 1], jzv239) : jS)) rfl (jzl225 xs hop ) rfl ?_
  refine jl_s (S' := ((7, [(0, .int 114)], [], jzv239) : jS)) rfl ?_
  refine jl_s (S' := ((8, [(0, .int 114)], [.int 114], jzv239) : jS)) rfl ?_
  refine jl_s (S' := ((10, [(0, .int 114)], [.int 97, .int 114], jzv239) : jS)) rfl ?_
  refine jl_s (S' := ((11, [(0, .int 114)], [.int 17], jzv239) : jS)) rfl ?_
  refine jl_s (S' := ((12, [(0, .int 114)], [.long 17], jzv239) : jS)) rfl ?_
  refine jl_s (S' := ((13, [(0, .int 114)], [.long 1, .long 17], jzv239) : jS)) rfl ?_
  refine jl_s (S' := ((14, [(0, .int 114)], [.long 18], jzv239) : jS)) rfl ?_
  refine jl_s (S' := ((39, [(0, .int 114)], [.long 18], jzv239) : jS)) rfl ?_
  exact jl_r (r := (.inl (some (.long 18)), jzv239)) rfl
set_option maxHeartbeats 4000000 in
set_option maxRecDepth 100000 in
theorem jzl227 (xs : Nat → Int32) (hop : xs 0 &&& 31 = 2)  : jRun ((4, xs) : jX) 2000 35 254 [.int 101] jzv239 = some (.inl (some (.int 1)), jzv239) := by
  refine jr_run (e := jm254) rfl (Nat.le_of_ble_eq_true rfl) ?_
  refine jl_s (S' := ((1, [(0, .int 101)], [.int 101], jzv239) : jS)) rfl ?_
  refine jl_s (S' := ((3, [(0, .int 101)], [.int 97, .int 101], jzv239) : jS)) rfl ?_
  refine jl_s (S' := ((6, [(0, .int 101)], [], jzv239) : jS)) rfl ?_
  refine jl_s (S' := ((7, [(0, .int 101)], [.int 101], jzv239) : jS)) rfl ?_
  refine jl_s (S' := ((9, [(0, .int 101)], [.int 122, .int 101], jzv239) : jS)) rfl ?_
  refine jl_s (S' := ((12, [(0, .int 101)], [], jzv239) : jS)) rfl ?_
  refine jl_s (S' := ((13, [(0, .int 101)], [.int 1], jzv239) : jS)) rfl ?_
  refine jl_s (S' := ((17, [(0, .int 101)], [.int 1], jzv239) : jS)) rfl ?_
  exact jl_r (r := (.inl (some (.int 1)), jzv239)) rfl
set_option maxHeartbeats 4000000 in
set_option maxRecDepth 100000 in
theorem jzl228 (xs : Nat → Int32) (hop : xs 0 &&& 31 = 2)  : jRun ((4, xs) : jX) 2000 36 257 [.int 101] jzv239 = some (.inl (some (.long 5)), jzv239) := by
  refine jr_run (e := jm257) rfl (Nat.le_of_ble_eq_true rfl) ?_
  refine jl_s (S' := ((1, [(0, .int 101)], [.int 101], jzv239) : jS)) rfl ?_
  refine jl_c (t := 254) (as := [.int 101]) (V := jzv239) (r := (.inl (some (.int 1)), jzv239)) (S' := ((4, [(0, .int 101)], [.int 1], jzv239) : jS)) rfl (jzl227 xs hop ) rfl ?_
  refine jl_s (S' := ((7, [(0, .int 101)], [], jzv239) : jS)) rfl ?_
  refine jl_s (S' := ((8, [(0, .int 101)], [.int 101], jzv239) : jS)) rfl ?_
  refine jl_s (S' := ((10, [(0, .int 101)], [.int 97, .int 101], jzv239) : jS)) rfl ?_
  refine jl_s (S' := ((11, [(0, .int 101)], [.int 4], jzv239) : jS)) rfl ?_
  refine jl_s (S' := ((12, [(0, .int 101)], [.long 4], jzv239) : jS)) rfl ?_
  refine jl_s (S' := ((13, [(0, .int 101)], [.long 1, .long 4], jzv239) : jS)) rfl ?_
  refine jl_s (S' := ((14, [(0, .int 101)], [.long 5], jzv239) : jS)) rfl ?_
  refine jl_s (S' := ((39, [(0, .int 101)], [.long 5], jzv239) : jS)) rfl ?_
  exact jl_r (r := (.inl (some (.long 5)), jzv239)) rfl
set_option maxHeartbeats 4000000 in
set_option maxRecDepth 100000 in
theorem jzl229 (xs : Nat → Int32) (hop : xs 0 &&& 31 = 2)  : jRun ((4, xs) : jX) 2000 35 254 [.int 101] jzv239 = some (.inl (some (.int 1)), jzv239) := by
  refine jr_run (e := jm254) rfl (Nat.le_of_ble_eq_true rfl) ?_
  refine jl_s (S' := ((1, [(0, .int 101)], [.int 101], jzv239) : jS)) rfl ?_
  refine jl_s (S' := ((3, [(0, .int 101)], [.int 97, .int 101], jzv239) : jS)) rfl ?_
  refine jl_s (S' := ((6, [(0, .int 101)], [], jzv239) : jS)) rfl ?_
  refine jl_s (S' := ((7, [(0, .int 101)], [.int 101], jzv239) : jS)) rfl ?_
  refine jl_s (S' := ((9, [(0, .int 101)], [.int 122, .int 101], jzv239) : jS)) rfl ?_
  refine jl_s (S' := ((12, [(0, .int 101)], [], jzv239) : jS)) rfl ?_
  refine jl_s (S' := ((13, [(0, .int 101)], [.int 1], jzv239) : jS)) rfl ?_
  refine jl_s (S' := ((17, [(0, .int 101)], [.int 1], jzv239) : jS)) rfl ?_
  exact jl_r (r := (.inl (some (.int 1)), jzv239)) rfl
set_option maxHeartbeats 4000000 in
set_option maxRecDepth 100000 in
theorem jzl230 (xs : Nat → Int32) (hop : xs 0 &&& 31 = 2)  : jRun ((4, xs) : jX) 2000 36 257 [.int 101] jzv239 = some (.inl (some (.long 5)), jzv239) := by
  refine jr_run (e := jm257) rfl (Nat.le_of_ble_eq_true rfl) ?_
  refine jl_s (S' := ((1, [(0, .int 101)], [.int 101], jzv239) : jS)) rfl ?_
  refine jl_c (t := 254) (as := [.int 101]) (V := jzv239) (r := (.inl (some (.int 1)), jzv239)) (S' := ((4, [(0, .int 101)], [.int 1], jzv239) : jS)) rfl (jzl229 xs hop ) rfl ?_
  refine jl_s (S' := ((7, [(0, .int 101)], [], jzv239) : jS)) rfl ?_
  refine jl_s (S' := ((8, [(0, .int 101)], [.int 101], jzv239) : jS)) rfl ?_
  refine jl_s (S' := ((10, [(0, .int 101)], [.int 97, .int 101], jzv239) : jS)) rfl ?_
  refine jl_s (S' := ((11, [(0, .int 101)], [.int 4], jzv239) : jS)) rfl ?_
  refine jl_s (S' := ((12, [(0, .int 101)], [.long 4], jzv239) : jS)) rfl ?_
  refine jl_s (S' := ((13, [(0, .int 101)], [.long 1, .long 4], jzv239) : jS)) rfl ?_
  refine jl_s (S' := ((14, [(0, .int 101)], [.long 5], jzv239) : jS)) rfl ?_
  refine jl_s (S' := ((39, [(0, .int 101)], [.long 5], jzv239) : jS)) rfl ?_
  exact jl_r (r := (.inl (some (.long 5)), jzv239)) rfl
set_option maxHeartbeats 4000000 in
set_option maxRecDepth 100000 in
theorem jzl231 (xs : Nat → Int32) (hop : xs 0 &&& 31 = 2)  : jRun ((4, xs) : jX) 2000 35 254 [.int 110] jzv239 = some (.inl (some (.int 1)), jzv239) := by
  refine jr_run (e := jm254) rfl (Nat.le_of_ble_eq_true rfl) ?_
  refine jl_s (S' := ((1, [(0, .int 110)], [.int 110], jzv239) : jS)) rfl ?_
  refine jl_s (S' := ((3, [(0, .int 110)], [.int 97, .int 110], jzv239) : jS)) rfl ?_
  refine jl_s (S' := ((6, [(0, .int 110)], [], jzv239) : jS)) rfl ?_
  refine jl_s (S' := ((7, [(0, .int 110)], [.int 110], jzv239) : jS)) rfl ?_
  refine jl_s (S' := ((9, [(0, .int 110)], [.int 122, .int 110], jzv239) : jS)) rfl ?_
  refine jl_s (S' := ((12, [(0, .int 110)], [], jzv239) : jS)) rfl ?_
  refine jl_s (S' := ((13, [(0, .int 110)], [.int 1], jzv239) : jS)) rfl ?_
  refine jl_s (S' := ((17, [(0, .int 110)], [.int 1], jzv239) : jS)) rfl ?_
  exact jl_r (r := (.inl (some (.int 1)), jzv239)) rfl
set_option maxHeartbeats 4000000 in
set_option maxRecDepth 100000 in
theorem jzl232 (xs : Nat → Int32) (hop : xs 0 &&& 31 = 2)  : jRun ((4, xs) : jX) 2000 36 257 [.int 110] jzv239 = some (.inl (some (.long 14)), jzv239) := by
  refine jr_run (e := jm257) rfl (Nat.le_of_ble_eq_true rfl) ?_
  refine jl_s (S' := ((1, [(0, .int 110)], [.int 110], jzv239) : jS)) rfl ?_
  refine jl_c (t := 254) (as := [.int 110]) (V := jzv239) (r := (.inl (some (.int 1)), jzv239)) (S' := ((4, [(0, .int 110)], [.int 1], jzv239) : jS)) rfl (jzl231 xs hop ) rfl ?_
  refine jl_s (S' := ((7, [(0, .int 110)], [], jzv239) : jS)) rfl ?_
  refine jl_s (S' := ((8, [(0, .int 110)], [.int 110], jzv239) : jS)) rfl ?_
  refine jl_s (S' := ((10, [(0, .int 110)], [.int 97, .int 110], jzv239) : jS)) rfl ?_
  refine jl_s (S' := ((11, [(0, .int 110)], [.int 13], jzv239) : jS)) rfl ?_
  refine jl_s (S' := ((12, [(0, .int 110)], [.long 13], jzv239) : jS)) rfl ?_
  refine jl_s (S' := ((13, [(0, .int 110)], [.long 1, .long 13], jzv239) : jS)) rfl ?_
  refine jl_s (S' := ((14, [(0, .int 110)], [.long 14], jzv239) : jS)) rfl ?_
  refine jl_s (S' := ((39, [(0, .int 110)], [.long 14], jzv239) : jS)) rfl ?_
  exact jl_r (r := (.inl (some (.long 14)), jzv239)) rfl
set_option maxHeartbeats 4000000 in
set_option maxRecDepth 100000 in
theorem jzl233 (xs : Nat → Int32) (hop : xs 0 &&& 31 = 2)  : jRun ((4, xs) : jX) 2000 37 261 [.ref 27] jzv239 = some (.inl (some (.long 1512718720)), jzv239) := by
  refine jr_run (e := jm261) rfl (Nat.le_of_ble_eq_true rfl) ?_
  refine jl_s (S' := ((1, [(0, .ref 27)], [.long 0], jzv239) : jS)) rfl ?_
  refine jl_s (S' := ((2, [(1, .long 0), (0, .ref 27)], [], jzv239) : jS)) rfl ?_
  refine jl_s (S' := ((3, [(1, .long 0), (0, .ref 27)], [.int 0], jzv239) : jS)) rfl ?_
  refine jl_s (S' := ((4, [(3, .int 0), (1, .long 0), (0, .ref 27)], [], jzv239) : jS)) rfl ?_
  refine jl_s (S' := ((5, [(3, .int 0), (1, .long 0), (0, .ref 27)], [.int 0], jzv239) : jS)) rfl ?_
  refine jl_s (S' := ((6, [(3, .int 0), (1, .long 0), (0, .ref 27)], [.ref 27, .int 0], jzv239) : jS)) rfl ?_
  refine jl_s (S' := ((9, [(3, .int 0), (1, .long 0), (0, .ref 27)], [.int 6, .int 0], jzv239) : jS)) rfl ?_
  refine jl_s (S' := ((12, [(3, .int 0), (1, .long 0), (0, .ref 27)], [], jzv239) : jS)) rfl ?_
  refine jl_s (S' := ((15, [(3, .int 0), (1, .long 0), (0, .ref 27)], [.long 38], jzv239) : jS)) rfl ?_
  refine jl_s (S' := ((16, [(3, .int 0), (1, .long 0), (0, .ref 27)], [.long 0, .long 38], jzv239) : jS)) rfl ?_
  refine jl_s (S' := ((17, [(3, .int 0), (1, .long 0), (0, .ref 27)], [.long 0], jzv239) : jS)) rfl ?_
  refine jl_s (S' := ((18, [(3, .int 0), (1, .long 0), (0, .ref 27)], [.ref 27, .long 0], jzv239) : jS)) rfl ?_
  refine jl_s (S' := ((19, [(3, .int 0), (1, .long 0), (0, .ref 27)], [.int 0, .ref 27, .long 0], jzv239) : jS)) rfl ?_
  refine jl_s (S' := ((22, [(3, .int 0), (1, .long 0), (0, .ref 27)], [.int 115, .long 0], jzv239) : jS)) rfl ?_
  refine jl_c (t := 257) (as := [.int 115]) (V := jzv239) (r := (.inl (some (.long 19)), jzv239)) (S' := ((25, [(3, .int 0), (1, .long 0), (0, .ref 27)], [.long 19, .long 0], jzv239) : jS)) rfl (jzl222 xs hop ) rfl ?_
  refine jl_s (S' := ((26, [(3, .int 0), (1, .long 0), (0, .ref 27)], [.long 19], jzv239) : jS)) rfl ?_
  refine jl_s (S' := ((27, [(1, .long 19), (3, .int 0), (0, .ref 27)], [], jzv239) : jS)) rfl ?_
  refine jl_s (S' := ((30, [(3, .int 1), (1, .long 19), (0, .ref 27)], [], jzv239) : jS)) rfl ?_
  refine jl_s (S' := ((4, [(3, .int 1), (1, .long 19), (0, .ref 27)], [], jzv239) : jS)) rfl ?_
  refine jl_s (S' := ((5, [(3, .int 1), (1, .long 19), (0, .ref 27)], [.int 1], jzv239) : jS)) rfl ?_
  refine jl_s (S' := ((6, [(3, .int 1), (1, .long 19), (0, .ref 27)], [.ref 27, .int 1], jzv239) : jS)) rfl ?_
  refine jl_s (S' := ((9, [(3, .int 1), (1, .long 19), (0, .ref 27)], [.int 6, .int 1], jzv239) : jS)) rfl ?_
  refine jl_s (S' := ((12, [(3, .int 1), (1, .long 19), (0, .ref 27)], [], jzv239) : jS)) rfl ?_
  refine jl_s (S' := ((15, [(3, .int 1), (1, .long 19), (0, .ref 27)], [.long 38], jzv239) : jS)) rfl ?_
  refine jl_s (S' := ((16, [(3, .int 1), (1, .long 19), (0, .ref 27)], [.long 19, .long 38], jzv239) : jS)) rfl ?_
  refine jl_s (S' := ((17, [(3, .int 1), (1, .long 19), (0, .ref 27)], [.long 722], jzv239) : jS)) rfl ?_
  refine jl_s (S' := ((18, [(3, .int 1), (1, .long 19), (0, .ref 27)], [.ref 27, .long 722], jzv239) : jS)) rfl ?_
  refine jl_s (S' := ((19, [(3, .int 1), (1, .long 19), (0, .ref 27)], [.int 1, .ref 27, .long 722], jzv239) : jS)) rfl ?_
  refine jl_s (S' := ((22, [(3, .int 1), (1, .long 19), (0, .ref 27)], [.int 99, .long 722], jzv239) : jS)) rfl ?_
  refine jl_c (t := 257) (as := [.int 99]) (V := jzv239) (r := (.inl (some (.long 3)), jzv239)) (S' := ((25, [(3, .int 1), (1, .long 19), (0, .ref 27)], [.long 3, .long 722], jzv239) : jS)) rfl (jzl224 xs hop ) rfl ?_
  refine jl_s (S' := ((26, [(3, .int 1), (1, .long 19), (0, .ref 27)], [.long 725], jzv239) : jS)) rfl ?_
  refine jl_s (S' := ((27, [(1, .long 725), (3, .int 1), (0, .ref 27)], [], jzv239) : jS)) rfl ?_
  refine jl_s (S' := ((30, [(3, .int 2), (1, .long 725), (0, .ref 27)], [], jzv239) : jS)) rfl ?_
  refine jl_s (S' := ((4, [(3, .int 2), (1, .long 725), (0, .ref 27)], [], jzv239) : jS)) rfl ?_
  refine jl_s (S' := ((5, [(3, .int 2), (1, .long 725), (0, .ref 27)], [.int 2], jzv239) : jS)) rfl ?_
  refine jl_s (S' := ((6, [(3, .int 2), (1, .long 725), (0, .ref 27)], [.ref 27, .int 2], jzv239) : jS)) rfl ?_
  refine jl_s (S' := ((9, [(3, .int 2), (1, .long 725), (0, .ref 27)], [.int 6, .int 2], jzv239) : jS)) rfl ?_
  refine jl_s (S' := ((12, [(3, .int 2), (1, .long 725), (0, .ref 27)], [], jzv239) : jS)) rfl ?_
  refine jl_s (S' := ((15, [(3, .int 2), (1, .long 725), (0, .ref 27)], [.long 38], jzv239) : jS)) rfl ?_
  refine jl_s (S' := ((16, [(3, .int 2), (1, .long 725), (0, .ref 27)], [.long 725, .long 38], jzv239) : jS)) rfl ?_
  refine jl_s (S' := ((17, [(3, .int 2), (1, .long 725), (0, .ref 27)], [.long 27550], jzv239) : jS)) rfl ?_
  refine jl_s (S' := ((18, [(3, .int 2), (1, .long 725), (0, .ref 27)], [.ref 27, .long 27550], jzv239) : jS)) rfl ?_
  refine jl_s (S' := ((19, [(3, .int 2), (1, .long 725), (0, .ref 27)], [.int 2, .ref 27, .long 27550], jzv239) : jS)) rfl ?_
  refine jl_s (S' := ((22, [(3, .int 2), (1, .long 725), (0, .ref 27)], [.int 114, .long 27550], jzv239) : jS)) rfl ?_
  refine jl_c (t := 257) (as := [.int 114]) (V := jzv239) (r := (.inl (some (.long 18)), jzv239)) (S' := ((25, [(3, .int 2), (1, .long 725), (0, .ref 27)], [.long 18, .long 27550], jzv239) : jS)) rfl (jzl226 xs hop ) rfl ?_
  refine jl_s (S' := ((26, [(3, .int 2), (1, .long 725), (0, .ref 27)], [.long 27568], jzv239) : jS)) rfl ?_
  refine jl_s (S' := ((27, [(1, .long 27568), (3, .int 2), (0, .ref 27)], [], jzv239) : jS)) rfl ?_
  refine jl_s (S' := ((30, [(3, .int 3), (1, .long 27568), (0, .ref 27)], [], jzv239) : jS)) rfl ?_
  refine jl_s (S' := ((4, [(3, .int 3), (1, .long 27568), (0, .ref 27)], [], jzv239) : jS)) rfl ?_
  refine jl_s (S' := ((5, [(3, .int 3), (1, .long 27568), (0, .ref 27)], [.int 3], jzv239) : jS)) rfl ?_
  refine jl_s (S' := ((6, [(3, .int 3), (1, .long 27568), (0, .ref 27)], [.ref 27, .int 3], jzv239) : jS)) rfl ?_
  refine jl_s (S' := ((9, [(3, .int 3), (1, .long 27568), (0, .ref 27)], [.int 6, .int 3], jzv239) : jS)) rfl ?_
  refine jl_s (S' := ((12, [(3, .int 3), (1, .long 27568), (0, .ref 27)], [], jzv239) : jS)) rfl ?_
  refine jl_s (S' := ((15, [(3, .int 3), (1, .long 27568), (0, .ref 27)], [.long 38], jzv239) : jS)) rfl ?_
  refine jl_s (S' := ((16, [(3, .int 3), (1, .long 27568), (0, .ref 27)], [.long 27568, .long 38], jzv239) : jS)) rfl ?_
  refine jl_s (S' := ((17, [(3, .int 3), (1, .long 27568), (0, .ref 27)], [.long 1047584], jzv239) : jS)) rfl ?_
  refine jl_s (S' := ((18, [(3, .int 3), (1, .long 27568), (0, .ref 27)], [.ref 27, .long 1047584], jzv239) : jS)) rfl ?_
  refine jl_s (S' := ((19, [(3, .int 3), (1, .long 27568), (0, .ref 27)], [.int 3, .ref 27, .long 1047584], jzv239) : jS)) rfl ?_
  refine jl_s (S' := ((22, [(3, .int 3), (1, .long 27568), (0, .ref 27)], [.int 101, .long 1047584], jzv239) : jS)) rfl ?_
  refine jl_c (t := 257) (as := [.int 101]) (V := jzv239) (r := (.inl (some (.long 5)), jzv239)) (S' := ((25, [(3, .int 3), (1, .long 27568), (0, .ref 27)], [.long 5, .long 1047584], jzv239) : jS)) rfl (jzl228 xs hop ) rfl ?_
  refine jl_s (S' := ((26, [(3, .int 3), (1, .long 27568), (0, .ref 27)], [.long 1047589], jzv239) : jS)) rfl ?_
  refine jl_s (S' := ((27, [(1, .long 1047589), (3, .int 3), (0, .ref 27)], [], jzv239) : jS)) rfl ?_
  refine jl_s (S' := ((30, [(3, .int 4), (1, .long 1047589), (0, .ref 27)], [], jzv239) : jS)) rfl ?_
  refine jl_s (S' := ((4, [(3, .int 4), (1, .long 1047589), (0, .ref 27)], [], jzv239) : jS)) rfl ?_
  refine jl_s (S' := ((5, [(3, .int 4), (1, .long 1047589), (0, .ref 27)], [.int 4], jzv239) : jS)) rfl ?_
  refine jl_s (S' := ((6, [(3, .int 4), (1, .long 1047589), (0, .ref 27)], [.ref 27, .int 4], jzv239) : jS)) rfl ?_
  refine jl_s (S' := ((9, [(3, .int 4), (1, .long 1047589), (0, .ref 27)], [.int 6, .int 4], jzv239) : jS)) rfl ?_
  refine jl_s (S' := ((12, [(3, .int 4), (1, .long 1047589), (0, .ref 27)], [], jzv239) : jS)) rfl ?_
  refine jl_s (S' := ((15, [(3, .int 4), (1, .long 1047589), (0, .ref 27)], [.long 38], jzv239) : jS)) rfl ?_
  refine jl_s (S' := ((16, [(3, .int 4), (1, .long 1047589), (0, .ref 27)], [.long 1047589, .long 38], jzv239) : jS)) rfl ?_
  refine jl_s (S' := ((17, [(3, .int 4), (1, .long 1047589), (0, .ref 27)], [.long 39808382], jzv239) : jS)) rfl ?_
  refine jl_s (S' := ((18, [(3, .int 4), (1, .long 1047589), (0, .ref 27)], [.ref 27, .long 39808382], jzv239) : jS)) rfl ?_
  refine jl_s (S' := ((19, [(3, .int 4), (1, .long 1047589), (0, .ref 27)], [.int 4, .ref 27, .long 39808382], jzv239) : jS)) rfl ?_
  refine jl_s (S' := ((22, [(3, .int 4), (1, .long 1047589), (0, .ref 27)], [.int 101, .long 39808382], jzv239) : jS)) rfl ?_
  refine jl_c (t := 257) (as := [.int 101]) (V := jzv239) (r := (.inl (some (.long 5)), jzv239)) (S' := ((25, [(3, .int 4), (1, .long 1047589), (0, .ref 27)], [.long 5, .long 39808382], jzv239) : jS)) rfl (jzl230 xs hop ) rfl ?_
  refine jl_s (S' := ((26, [(3, .int 4), (1, .long 1047589), (0, .ref 27)], [.long 39808387], jzv239) : jS)) rfl ?_
  refine jl_s (S' := ((27, [(1, .long 39808387), (3, .int 4), (0, .ref 27)], [], jzv239) : jS)) rfl ?_
  refine jl_s (S' := ((30, [(3, .int 5), (1, .long 39808387), (0, .ref 27)], [], jzv239) : jS)) rfl ?_
  refine jl_s (S' := ((4, [(3, .int 5), (1, .long 39808387), (0, .ref 27)], [], jzv239) : jS)) rfl ?_
  refine jl_s (S' := ((5, [(3, .int 5), (1, .long 39808387), (0, .ref 27)], [.int 5], jzv239) : jS)) rfl ?_
  refine jl_s (S' := ((6, [(3, .int 5), (1, .long 39808387), (0, .ref 27)], [.ref 27, .int 5], jzv239) : jS)) rfl ?_
  refine jl_s (S' := ((9, [(3, .int 5), (1, .long 39808387), (0, .ref 27)], [.int 6, .int 5], jzv239) : jS)) rfl ?_
  refine jl_s (S' := ((12, [(3, .int 5), (1, .long 39808387), (0, .ref 27)], [], jzv239) : jS)) rfl ?_
  refine jl_s (S' := ((15, [(3, .int 5), (1, .long 39808387), (0, .ref 27)], [.long 38], jzv239) : jS)) rfl ?_
  refine jl_s (S' := ((16, [(3, .int 5), (1, .long 39808387), (0, .ref 27)], [.long 39808387, .long 38], jzv239) : jS)) rfl ?_
  refine jl_s (S' := ((17, [(3, .int 5), (1, .long 39808387), (0, .ref 27)], [.long 1512718706], jzv239) : jS)) rfl ?_
  refine jl_s (S' := ((18, [(3, .int 5), (1, .long 39808387), (0, .ref 27)], [.ref 27, .long 1512718706], jzv239) : jS)) rfl ?_
  refine jl_s (S' := ((19, [(3, .int 5), (1, .long 39808387), (0, .ref 27)], [.int 5, .ref 27, .long 1512718706], jzv239) : jS)) rfl ?_
  refine jl_s (S' := ((22, [(3, .int 5), (1, .long 39808387), (0, .ref 27)], [.int 110, .long 1512718706], jzv239) : jS)) rfl ?_
  refine jl_c (t := 257) (as := [.int 110]) (V := jzv239) (r := (.inl (some (.long 14)), jzv239)) (S' := ((25, [(3, .int 5), (1, .long 39808387), (0, .ref 27)], [.long 14, .long 1512718706], jzv239) : jS)) rfl (jzl232 xs hop ) rfl ?_
  refine jl_s (S' := ((26, [(3, .int 5), (1, .long 39808387), (0, .ref 27)], [.long 1512718720], jzv239) : jS)) rfl ?_
  refine jl_s (S' := ((27, [(1, .long 1512718720), (3, .int 5), (0, .ref 27)], [], jzv239) : jS)) rfl ?_
  refine jl_s (S' := ((30, [(3, .int 6), (1, .long 1512718720), (0, .ref 27)], [], jzv239) : jS)) rfl ?_
  refine jl_s (S' := ((4, [(3, .int 6), (1, .long 1512718720), (0, .ref 27)], [], jzv239) : jS)) rfl ?_
  refine jl_s (S' := ((5, [(3, .int 6), (1, .long 1512718720), (0, .ref 27)], [.int 6], jzv239) : jS)) rfl ?_
  refine jl_s (S' := ((6, [(3, .int 6), (1, .long 1512718720), (0, .ref 27)], [.ref 27, .int 6], jzv239) : jS)) rfl ?_
  refine jl_s (S' := ((9, [(3, .int 6), (1, .long 1512718720), (0, .ref 27)], [.int 6, .int 6], jzv239) : jS)) rfl ?_
  refine jl_s (S' := ((33, [(3, .int 6), (1, .long 1512718720), (0, .ref 27)], [], jzv239) : jS)) rfl ?_
  refine jl_s (S' := ((34, [(3, .int 6), (1, .long 1512718720), (0, .ref 27)], [.long 1512718720], jzv239) : jS)) rfl ?_
  exact jl_r (r := (.inl (some (.long 1512718720)), jzv239)) rfl
def jzc169 : jC := .inl (2, 260, .inr (.inl (vp_updL (fun _ => 0) 0 1512718720)))
def jzv240 : jH := [jzc161, jzc2, jzc162, jzc7, jzc9, jzc9, jzc9, jzc9, jzc9, jzc169, jzc19, jzc19, jzc19, jzc19, jzc19, jzc19, jzc19, jzc19, jzc28, jzc28, jzc28, jzc28, jzc28, jzc28, jzc28, jzc28, jzc28, jzc28, jzc28, jzc28, jzc28, jzc28, jzc43, jzc43, jzc43, jzc43, jzc43, jzc49, jzc49, jzc168, jzc52, jzc52, jzc56, jzc56, jzc59, jzc56, jzc62, jzc28, jzc28, jzc28, jzc28, jzc28, jzc69, jzc71, jzc73, jzc43, jzc76, jzc52, jzc52, jzc80, jzc80, jzc80, jzc84, jzc52, jzc52, jzc52, jzc52, jzc52, jzc52, jzc52, jzc93, jzc93, jzc52, jzc52, jzc98, jzc100, jzc93, jzc52, jzc52, jzc52, jzc52, jzc107, jzc109, jzc111, jzc100, jzc100, jzc100, jzc111, jzc111, jzc118, jzc160, jzc127, jzc129, jzc131, jzc159, jzc136, jzc138, jzc118, jzc138, jzc136, jzc145, jzc150, jzc155, jzc123]
def jzc170 : jC := .inl (1, 260, .inl (upd (fun _ => 0) 0 12))
def jzv241 : jH := [jzc161, jzc2, jzc162, jzc7, jzc9, jzc9, jzc9, jzc9, jzc9, jzc169, jzc170, jzc19, jzc19, jzc19, jzc19, jzc19, jzc19, jzc19, jzc28, jzc28, jzc28, jzc28, jzc28, jzc28, jzc28, jzc28, jzc28, jzc28, jzc28, jzc28, jzc28, jzc28, jzc43, jzc43, jzc43, jzc43, jzc43, jzc49, jzc49, jzc168, jzc52, jzc52, jzc56, jzc56, jzc59, jzc56, jzc62, jzc28, jzc28, jzc28, jzc28, jzc28, jzc69, jzc71, jzc73, jzc43, jzc76, jzc52, jzc52, jzc80, jzc80, jzc80, jzc84, jzc52, jzc52, jzc52, jzc52, jzc52, jzc52, jzc52, jzc93, jzc93, jzc52, jzc52, jzc98, jzc100, jzc93, jzc52, jzc52, jzc52, jzc52, jzc107, jzc109, jzc111, jzc100, jzc100, jzc100, jzc111, jzc111, jzc118, jzc160, jzc127, jzc129, jzc131, jzc159, jzc136, jzc138, jzc118, jzc138, jzc136, jzc145, jzc150, jzc155, jzc123]
def jzc171 : jC := .inl (1, 260, .inl (upd (fun _ => 0) 0 0))
def jzv242 : jH := [jzc161, jzc2, jzc162, jzc7, jzc9, jzc9, jzc9, jzc9, jzc9, jzc169, jzc170, jzc171, jzc19, jzc19, jzc19, jzc19, jzc19, jzc19, jzc28, jzc28, jzc28, jzc28, jzc28, jzc28, jzc28, jzc28, jzc28, jzc28, jzc28, jzc28, jzc28, jzc28, jzc43, jzc43, jzc43, jzc43, jzc43, jzc49, jzc49, jzc168, jzc52, jzc52, jzc56, jzc56, jzc59, jzc56, jzc62, jzc28, jzc28, jzc28, jzc28, jzc28, jzc69, jzc71, jzc73, jzc43, jzc76, jzc52, jzc52, jzc80, jzc80, jzc80, jzc84, jzc52, jzc52, jzc52, jzc52, jzc52, jzc52, jzc52, jzc93, jzc93, jzc52, jzc52, jzc98, jzc100, jzc93, jzc52, jzc52, jzc52, jzc52, jzc107, jzc109, jzc111, jzc100, jzc100, jzc100, jzc111, jzc111, jzc118, jzc160, jzc127, jzc129, jzc131, jzc159, jzc136, jzc138, jzc118, jzc138, jzc136, jzc145, jzc150, jzc155, jzc123]
def jzv243 : jH := [jzc161, jzc2, jzc162, jzc7, jzc9, jzc9, jzc9, jzc9, jzc9, jzc169, jzc170, jzc171, jzc171, jzc19, jzc19, jzc19, jzc19, jzc19, jzc28, jzc28, jzc28, jzc28, jzc28, jzc28, jzc28, jzc28, jzc28, jzc28, jzc28, jzc28, jzc28, jzc28, jzc43, jzc43, jzc43, jzc43, jzc43, jzc49, jzc49, jzc168, jzc52, jzc52, jzc56, jzc56, jzc59, jzc56, jzc62, jzc28, jzc28, jzc28, jzc28, jzc28, jzc69, jzc71, jzc73, jzc43, jzc76, jzc52, jzc52, jzc80, jzc80, jzc80, jzc84, jzc52, jzc52, jzc52, jzc52, jzc52, jzc52, jzc52, jzc93, jzc93, jzc52, jzc52, jzc98, jzc100, jzc93, jzc52, jzc52, jzc52, jzc52, jzc107, jzc109, jzc111, jzc100, jzc100, jzc100, jzc111, jzc111, jzc118, jzc160, jzc127, jzc129, jzc131, jzc159, jzc136, jzc138, jzc118, jzc138, jzc136, jzc145, jzc150, jzc155, jzc123]
def jzv244 : jH := [jzc161, jzc2, jzc162, jzc7, jzc9, jzc9, jzc9, jzc9, jzc9, jzc169, jzc170, jzc171, jzc171, jzc171, jzc19, jzc19, jzc19, jzc19, jzc28, jzc28, jzc28, jzc28, jzc28, jzc28, jzc28, jzc28, jzc28, jzc28, jzc28, jzc28, jzc28, jzc28, jzc43, jzc43, jzc43, jzc43, jzc43, jzc49, jzc49, jzc168, jzc52, jzc52, jzc56, jzc56, jzc59, jzc56, jzc62, jzc28, jzc28, jzc28, jzc28, jzc28, jzc69, jzc71, jzc73, jzc43, jzc76, jzc52, jzc52, jzc80, jzc80, jzc80, jzc84, jzc52, jzc52, jzc52, jzc52, jzc52, jzc52, jzc52, jzc93, jzc93, jzc52, jzc52, jzc98, jzc100, jzc93, jzc52, jzc52, jzc52, jzc52, jzc107, jzc109, jzc111, jzc100, jzc100, jzc100, jzc111, jzc111, jzc118, jzc160, jzc127, jzc129, jzc131, jzc159, jzc136, jzc138, jzc118, jzc138, jzc136, jzc145, jzc150, jzc155, jzc123]
def jzv245 : jH := [jzc161, jzc2, jzc162, jzc7, jzc9, jzc9, jzc9, jzc9, jzc9, jzc169, jzc170, jzc171, jzc171, jzc171, jzc171, jzc19, jzc19, jzc19, jzc28, jzc28, jzc28, jzc28, jzc28, jzc28, jzc28, jzc28, jzc28, jzc28, jzc28, jzc28, jzc28, jzc28, jzc43, jzc43, jzc43, jzc43, jzc43, jzc49, jzc49, jzc168, jzc52, jzc52, jzc56, jzc56, jzc59, jzc56, jzc62, jzc28, jzc28, jzc28, jzc28, jzc28, jzc69, jzc71, jzc73, jzc43, jzc76, jzc52, jzc52, jzc80, jzc80, jzc80, jzc84, jzc52, jzc52, jzc52, jzc52, jzc52, jzc52, jzc52, jzc93, jzc93, jzc52, jzc52, jzc98, jzc100, jzc93, jzc52, jzc52, jzc52, jzc52, jzc107, jzc109, jzc111, jzc100, jzc100, jzc100, jzc111, jzc111, jzc118, jzc160, jzc127, jzc129, jzc131, jzc159, jzc136, jzc138, jzc118, jzc138, jzc136, jzc145, jzc150, jzc155, jzc123]
def jzv246 : jH := [jzc161, jzc2, jzc162, jzc7, jzc9, jzc9, jzc9, jzc9, jzc9, jzc169, jzc170, jzc171, jzc171, jzc171, jzc171, jzc171, jzc19, jzc19, jzc28, jzc28, jzc28, jzc28, jzc28, jzc28, jzc28, jzc28, jzc28, jzc28, jzc28, jzc28, jzc28, jzc28, jzc43, jzc43, jzc43, jzc43, jzc43, jzc49, jzc49, jzc168, jzc52, jzc52, jzc56, jzc56, jzc59, jzc56, jzc62, jzc28, jzc28, jzc28, jzc28, jzc28, jzc69, jzc71, jzc73, jzc43, jzc76, jzc52, jzc52, jzc80, jzc80, jzc80, jzc84, jzc52, jzc52, jzc52, jzc52, jzc52, jzc52, jzc52, jzc93, jzc93, jzc52, jzc52, jzc98, jzc100, jzc93, jzc52, jzc52, jzc52, jzc52, jzc107, jzc109, jzc111, jzc100, jzc100, jzc100, jzc111, jzc111, jzc118, jzc160, jzc127, jzc129, jzc131, jzc159, jzc136, jzc138, jzc118, jzc138, jzc136, jzc145, jzc150, jzc155, jzc123]
def jzc172 : jC := .inr (12, [.int 0, .ref 67, .int 0, .int 0, .ref 68, .ref 69, .ref 70, .ref 71, .ref 72, .int 0, .int 0, .int 0, .int 0, .int 0, .long 0, .int 0, .int 0, .int (-1), .int (-1), .int 1, .ref 73, .ref 74, .ref 75, .ref 76, .ref 77, .ref 78, .ref 79, .ref 80, .int 0, .int 0, .ref 81, .int 1, .ref 82, .ref 83, .ref 84, .ref 85, .ref 86, .ref 87, .ref 88, .ref 89, .ref 90, .ref 91, .ref 92, .ref 93, .ref 94, .ref 95, .int 0, .ref 96, .ref 97, .ref 98, .ref 99, .ref 100, .int 0, .ref 101, .ref 102, .ref 103, .ref 104, .ref 105, .int 0, .int 0, .int 0, .int 0, .int 0, .ref 106, .ref 107, .ref 108, .ref 109, .int 0, .int 0, .ref 110, .int 0, .ref 111, .ref 112, .ref 113, .ref 114, .ref 115, .ref 116, .int 0, .ref 117, .int 0, .ref 118, .int 0, .ref 119, .ref 120, .ref 121, .ref 122, .ref 123, .ref 124, .ref 125, .int 0, .ref 126, .ref 127, .ref 128, .ref 129, .ref 130, .ref 131, .ref 132, .ref 133, .ref 134, .ref 135, .ref 136, .ref 137, .ref 138, .ref 139, .ref 140, .ref 141, .ref 142, .ref 143, .ref 144, .ref 145, .int 0, .int 0, .ref 146, .int 0, .ref 147, .ref 148, .ref 149, .ref 150, .ref 151, .ref 152, .int 0, .int 0])
def jzv247 : jH := [jzc161, jzc2, jzc172, jzc7, jzc9, jzc9, jzc9, jzc9, jzc9, jzc169, jzc170, jzc171, jzc171, jzc171, jzc171, jzc171, jzc19, jzc19, jzc28, jzc28, jzc28, jzc28, jzc28, jzc28, jzc28, jzc28, jzc28, jzc28, jzc28, jzc28, jzc28, jzc28, jzc43, jzc43, jzc43, jzc43, jzc43, jzc49, jzc49, jzc168, jzc52, jzc52, jzc56, jzc56, jzc59, jzc56, jzc62, jzc28, jzc28, jzc28, jzc28, jzc28, jzc69, jzc71, jzc73, jzc43, jzc76, jzc52, jzc52, jzc80, jzc80, jzc80, jzc84, jzc52, jzc52, jzc52, jzc52, jzc52, jzc52, jzc52, jzc93, jzc93, jzc52, jzc52, jzc98, jzc100, jzc93, jzc52, jzc52, jzc52, jzc52, jzc107, jzc109, jzc111, jzc100, jzc100, jzc100, jzc111, jzc111, jzc118, jzc160, jzc127, jzc129, jzc131, jzc159, jzc136, jzc138, jzc118, jzc138, jzc136, jzc145, jzc150, jzc155, jzc123]
set_option maxHeartbeats 4000000 in
set_option maxRecDepth 100000 in
theorem jzl234 (xs : Nat → Int32) (hop : xs 0 &&& 31 = 2)  : jRun ((4, xs) : jX) 2000 37 277 [.ref 66, .long 1512718720, .int 12, .int 0] jzv239 = some (.inl (some (.int 0)), jzv247) := by
  refine jr_run (e := jm277) rfl (Nat.le_of_ble_eq_true rfl) ?_
  refine jl_s (S' := ((1, [(0, .ref 66), (1, .long 1512718720), (3, .int 12), (4, .int 0)], [.ref 66], jzv239) : jS)) rfl ?_
  refine jl_s (S' := ((4, [(0, .ref 66), (1, .long 1512718720), (3, .int 12), (4, .int 0)], [.int 0], jzv239) : jS)) rfl ?_
  refine jl_s (S' := ((6, [(5, .int 0), (0, .ref 66), (1, .long 1512718720), (3, .int 12), (4, .int 0)], [], jzv239) : jS)) rfl ?_
  refine jl_s (S' := ((7, [(5, .int 0), (0, .ref 66), (1, .long 1512718720), (3, .int 12), (4, .int 0)], [.ref 66], jzv239) : jS)) rfl ?_
  refine jl_s (S' := ((10, [(5, .int 0), (0, .ref 66), (1, .long 1512718720), (3, .int 12), (4, .int 0)], [.ref 73], jzv239) : jS)) rfl ?_
  refine jl_s (S' := ((12, [(5, .int 0), (0, .ref 66), (1, .long 1512718720), (3, .int 12), (4, .int 0)], [.int 0, .ref 73], jzv239) : jS)) rfl ?_
  refine jl_s (S' := ((13, [(5, .int 0), (0, .ref 66), (1, .long 1512718720), (3, .int 12), (4, .int 0)], [.long 1512718720, .int 0, .ref 73], jzv239) : jS)) rfl ?_
  refine jl_s (S' := ((14, [(5, .int 0), (0, .ref 66), (1, .long 1512718720), (3, .int 12), (4, .int 0)], [], jzv240) : jS)) rfl ?_
  refine jl_s (S' := ((15, [(5, .int 0), (0, .ref 66), (1, .long 1512718720), (3, .int 12), (4, .int 0)], [.ref 66], jzv240) : jS)) rfl ?_
  refine jl_s (S' := ((18, [(5, .int 0), (0, .ref 66), (1, .long 1512718720), (3, .int 12), (4, .int 0)], [.ref 74], jzv240) : jS)) rfl ?_
  refine jl_s (S' := ((20, [(5, .int 0), (0, .ref 66), (1, .long 1512718720), (3, .int 12), (4, .int 0)], [.int 0, .ref 74], jzv240) : jS)) rfl ?_
  refine jl_s (S' := ((21, [(5, .int 0), (0, .ref 66), (1, .long 1512718720), (3, .int 12), (4, .int 0)], [.int 12, .int 0, .ref 74], jzv240) : jS)) rfl ?_
  refine jl_s (S' := ((22, [(5, .int 0), (0, .ref 66), (1, .long 1512718720), (3, .int 12), (4, .int 0)], [], jzv241) : jS)) rfl ?_
  refine jl_s (S' := ((23, [(5, .int 0), (0, .ref 66), (1, .long 1512718720), (3, .int 12), (4, .int 0)], [.ref 66], jzv241) : jS)) rfl ?_
  refine jl_s (S' := ((26, [(5, .int 0), (0, .ref 66), (1, .long 1512718720), (3, .int 12), (4, .int 0)], [.ref 75], jzv241) : jS)) rfl ?_
  refine jl_s (S' := ((28, [(5, .int 0), (0, .ref 66), (1, .long 1512718720), (3, .int 12), (4, .int 0)], [.int 0, .ref 75], jzv241) : jS)) rfl ?_
  refine jl_s (S' := ((30, [(5, .int 0), (0, .ref 66), (1, .long 1512718720), (3, .int 12), (4, .int 0)], [.int 0, .int 0, .ref 75], jzv241) : jS)) rfl ?_
  refine jl_s (S' := ((31, [(5, .int 0), (0, .ref 66), (1, .long 1512718720), (3, .int 12), (4, .int 0)], [], jzv242) : jS)) rfl ?_
  refine jl_s (S' := ((32, [(5, .int 0), (0, .ref 66), (1, .long 1512718720), (3, .int 12), (4, .int 0)], [.ref 66], jzv242) : jS)) rfl ?_
  refine jl_s (S' := ((35, [(5, .int 0), (0, .ref 66), (1, .long 1512718720), (3, .int 12), (4, .int 0)], [.ref 76], jzv242) : jS)) rfl ?_
  refine jl_s (S' := ((37, [(5, .int 0), (0, .ref 66), (1, .long 1512718720), (3, .int 12), (4, .int 0)], [.int 0, .ref 76], jzv242) : jS)) rfl ?_
  refine jl_s (S' := ((38, [(5, .int 0), (0, .ref 66), (1, .long 1512718720), (3, .int 12), (4, .int 0)], [.int 0, .int 0, .ref 76], jzv242) : jS)) rfl ?_
  refine jl_s (S' := ((39, [(5, .int 0), (0, .ref 66), (1, .long 1512718720), (3, .int 12), (4, .int 0)], [], jzv243) : jS)) rfl ?_
  refine jl_s (S' := ((40, [(5, .int 0), (0, .ref 66), (1, .long 1512718720), (3, .int 12), (4, .int 0)], [.ref 66], jzv243) : jS)) rfl ?_
  refine jl_s (S' := ((43, [(5, .int 0), (0, .ref 66), (1, .long 1512718720), (3, .int 12), (4, .int 0)], [.ref 77], jzv243) : jS)) rfl ?_
  refine jl_s (S' := ((45, [(5, .int 0), (0, .ref 66), (1, .long 1512718720), (3, .int 12), (4, .int 0)], [.int 0, .ref 77], jzv243) : jS)) rfl ?_
  refine jl_s (S' := ((46, [(5, .int 0), (0, .ref 66), (1, .long 1512718720), (3, .int 12), (4, .int 0)], [.int 0, .int 0, .ref 77], jzv243) : jS)) rfl ?_
  refine jl_s (S' := ((47, [(5, .int 0), (0, .ref 66), (1, .long 1512718720), (3, .int 12), (4, .int 0)], [], jzv244) : jS)) rfl ?_
  refine jl_s (S' := ((48, [(5, .int 0), (0, .ref 66), (1, .long 1512718720), (3, .int 12), (4, .int 0)], [.ref 66], jzv244) : jS)) rfl ?_
  refine jl_s (S' := ((51, [(5, .int 0), (0, .ref 66), (1, .long 1512718720), (3, .int 12), (4, .int 0)], [.ref 78], jzv244) : jS)) rfl ?_
  refine jl_s (S' := ((53, [(5, .int 0), (0, .ref 66), (1, .long 1512718720), (3, .int 12), (4, .int 0)], [.int 0, .ref 78], jzv244) : jS)) rfl ?_
  refine jl_s (S' := ((54, [(5, .int 0), (0, .ref 66), (1, .long 1512718720), (3, .int 12), (4, .int 0)], [.int 0, .int 0, .ref 78], jzv244) : jS)) rfl ?_
  refine jl_s (S' := ((55, [(5, .int 0), (0, .ref 66), (1, .long 1512718720), (3, .int 12), (4, .int 0)], [], jzv245) : jS)) rfl ?_
  refine jl_s (S' := ((56, [(5, .int 0), (0, .ref 66), (1, .long 1512718720), (3, .int 12), (4, .int 0)], [.ref 66], jzv245) : jS)) rfl ?_
  refine jl_s (S' := ((59, [(5, .int 0), (0, .ref 66), (1, .long 1512718720), (3, .int 12), (4, .int 0)], [.ref 79], jzv245) : jS)) rfl ?_
  refine jl_s (S' := ((61, [(5, .int 0), (0, .ref 66), (1, .long 1512718720), (3, .int 12), (4, .int 0)], [.int 0, .ref 79], jzv245) : jS)) rfl ?_
  refine jl_s (S' := ((62, [(5, .int 0), (0, .ref 66), (1, .long 1512718720), (3, .int 12), (4, .int 0)], [.int 0, .int 0, .ref 79], jzv245) : jS)) rfl ?_
  refine jl_s (S' := ((63, [(5, .int 0), (0, .ref 66), (1, .long 1512718720), (3, .int 12), (4, .int 0)], [], jzv246) : jS)) rfl ?_
  refine jl_s (S' := ((64, [(5, .int 0), (0, .ref 66), (1, .long 1512718720), (3, .int 12), (4, .int 0)], [.ref 66], jzv246) : jS)) rfl ?_
  refine jl_s (S' := ((65, [(5, .int 0), (0, .ref 66), (1, .long 1512718720), (3, .int 12), (4, .int 0)], [.ref 66, .ref 66], jzv246) : jS)) rfl ?_
  refine jl_s (S' := ((68, [(5, .int 0), (0, .ref 66), (1, .long 1512718720), (3, .int 12), (4, .int 0)], [.int 0, .ref 66], jzv246) : jS)) rfl ?_
  refine jl_s (S' := ((69, [(5, .int 0), (0, .ref 66), (1, .long 1512718720), (3, .int 12), (4, .int 0)], [.int 1, .int 0, .ref 66], jzv246) : jS)) rfl ?_
  refine jl_s (S' := ((70, [(5, .int 0), (0, .ref 66), (1, .long 1512718720), (3, .int 12), (4, .int 0)], [.int 1, .ref 66], jzv246) : jS)) rfl ?_
  refine jl_s (S' := ((73, [(5, .int 0), (0, .ref 66), (1, .long 1512718720), (3, .int 12), (4, .int 0)], [], jzv247) : jS)) rfl ?_
  refine jl_s (S' := ((75, [(5, .int 0), (0, .ref 66), (1, .long 1512718720), (3, .int 12), (4, .int 0)], [.int 0], jzv247) : jS)) rfl ?_
  exact jl_r (r := (.inl (some (.int 0)), jzv247)) rfl
set_option maxHeartbeats 4000000 in
set_option maxRecDepth 100000 in
theorem jzl235 (xs : Nat → Int32) (hop : xs 0 &&& 31 = 2)  : jRun ((4, xs) : jX) 2000 35 254 [.int 107] jzv247 = some (.inl (some (.int 1)), jzv247) := by
  refine jr_run (e := jm254) rfl (Nat.le_of_ble_eq_true rfl) ?_
  refine jl_s (S' := ((1, [(0, .int 107)], [.int 107], jzv247) : jS)) rfl ?_
  refine jl_s (S' := ((3, [(0, .int 107)], [.int 97, .int 107], jzv247) : jS)) rfl ?_
  refine jl_s (S' := ((6, [(0, .int 107)], [], jzv247) : jS)) rfl ?_
  refine jl_s (S' := ((7, [(0, .int 107)], [.int 107], jzv247) : jS)) rfl ?_
  refine jl_s (S' := ((9, [(0, .int 107)], [.int 122, .int 107], jzv247) : jS)) rfl ?_
  refine jl_s (S' := ((12, [(0, .int 107)], [], jzv247) : jS)) rfl ?_
  refine jl_s (S' := ((13, [(0, .int 107)], [.int 1], jzv247) : jS)) rfl ?_
  refine jl_s (S' := ((17, [(0, .int 107)], [.int 1], jzv247) : jS)) rfl ?_
  exact jl_r (r := (.inl (some (.int 1)), jzv247)) rfl
set_option maxHeartbeats 4000000 in
set_option maxRecDepth 100000 in
theorem jzl236 (xs : Nat → Int32) (hop : xs 0 &&& 31 = 2)  : jRun ((4, xs) : jX) 2000 36 257 [.int 107] jzv247 = some (.inl (some (.long 11)), jzv247) := by
  refine jr_run (e := jm257) rfl (Nat.le_of_ble_eq_true rfl) ?_
  refine jl_s (S' := ((1, [(0, .int 107)], [.int 107], jzv247) : jS)) rfl ?_
  refine jl_c (t := 254) (as := [.int 107]) (V := jzv247) (r := (.inl (some (.int 1)), jzv247)) (S' := ((4, [(0, .int 107)], [.int 1], jzv247) : jS)) rfl (jzl235 xs hop ) rfl ?_
  refine jl_s (S' := ((7, [(0, .int 107)], [], jzv247) : jS)) rfl ?_
  refine jl_s (S' := ((8, [(0, .int 107)], [.int 107], jzv247) : jS)) rfl ?_
  refine jl_s (S' := ((10, [(0, .int 107)], [.int 97, .int 107], jzv247) : jS)) rfl ?_
  refine jl_s (S' := ((11, [(0, .int 107)], [.int 10], jzv247) : jS)) rfl ?_
  refine jl_s (S' := ((12, [(0, .int 107)], [.long 10], jzv247) : jS)) rfl ?_
  refine jl_s (S' := ((13, [(0, .int 107)], [.long 1, .long 10], jzv247) : jS)) rfl ?_
  refine jl_s (S' := ((14, [(0, .int 107)], [.long 11], jzv247) : jS)) rfl ?_
  refine jl_s (S' := ((39, [(0, .int 107)], [.long 11], jzv247) : jS)) rfl ?_
  exact jl_r (r := (.inl (some (.long 11)), jzv247)) rfl
set_option maxHeartbeats 4000000 in
set_option maxRecDepth 100000 in
theorem jzl237 (xs : Nat → Int32) (hop : xs 0 &&& 31 = 2)  : jRun ((4, xs) : jX) 2000 35 254 [.int 101] jzv247 = some (.inl (some (.int 1)), jzv247) := by
  refine jr_run (e := jm254) rfl (Nat.le_of_ble_eq_true rfl) ?_
  refine jl_s (S' := ((1, [(0, .int 101)], [.int 101], jzv247) : jS)) rfl ?_
  refine jl_s (S' := ((3, [(0, .int 101)], [.int 97, .int 101], jzv247) : jS)) rfl ?_
  refine jl_s (S' := ((6, [(0, .int 101)], [], jzv247) : jS)) rfl ?_
  refine jl_s (S' := ((7, [(0, .int 101)], [.int 101], jzv247) : jS)) rfl ?_
  refine jl_s (S' := ((9, [(0, .int 101)], [.int 122, .int 101], jzv247) : jS)) rfl ?_
  refine jl_s (S' := ((12, [(0, .int 101)], [], jzv247) : jS)) rfl ?_
  refine jl_s (S' := ((13, [(0, .int 101)], [.int 1], jzv247) : jS)) rfl ?_
  refine jl_s (S' := ((17, [(0, .int 101)], [.int 1], jzv247) : jS)) rfl ?_
  exact jl_r (r := (.inl (some (.int 1)), jzv247)) rfl
set_option maxHeartbeats 4000000 in
set_option maxRecDepth 100000 in
theorem jzl238 (xs : Nat → Int32) (hop : xs 0 &&& 31 = 2)  : jRun ((4, xs) : jX) 2000 36 257 [.int 101] jzv247 = some (.inl (some (.long 5)), jzv247) := by
  refine jr_run (e := jm257) rfl (Nat.le_of_ble_eq_true rfl) ?_
  refine jl_s (S' := ((1, [(0, .int 101)], [.int 101], jzv247) : jS)) rfl ?_
  refine jl_c (t := 254) (as := [.int 101]) (V := jzv247) (r := (.inl (some (.int 1)), jzv247)) (S' := ((4, [(0, .int 101)], [.int 1], jzv247) : jS)) rfl (jzl237 xs hop ) rfl ?_
  refine jl_s (S' := ((7, [(0, .int 101)], [], jzv247) : jS)) rfl ?_
  refine jl_s (S' := ((8, [(0, .int 101)], [.int 101], jzv247) : jS)) rfl ?_
  refine jl_s (S' := ((10, [(0, .int 101)], [.int 97, .int 101], jzv247) : jS)) rfl ?_
  refine jl_s (S' := ((11, [(0, .int 101)], [.int 4], jzv247) : jS)) rfl ?_
  refine jl_s (S' := ((12, [(0, .int 101)], [.long 4], jzv247) : jS)) rfl ?_
  refine jl_s (S' := ((13, [(0, .int 101)], [.long 1, .long 4], jzv247) : jS)) rfl ?_
  refine jl_s (S' := ((14, [(0, .int 101)], [.long 5], jzv247) : jS)) rfl ?_
  refine jl_s (S' := ((39, [(0, .int 101)], [.long 5], jzv247) : jS)) rfl ?_
  exact jl_r (r := (.inl (some (.long 5)), jzv247)) rfl
set_option maxHeartbeats 4000000 in
set_option maxRecDepth 100000 in
theorem jzl239 (xs : Nat → Int32) (hop : xs 0 &&& 31 = 2)  : jRun ((4, xs) : jX) 2000 35 254 [.int 121] jzv247 = some (.inl (some (.int 1)), jzv247) := by
  refine jr_run (e := jm254) rfl (Nat.le_of_ble_eq_true rfl) ?_
  refine jl_s (S' := ((1, [(0, .int 121)], [.int 121], jzv247) : jS)) rfl ?_
  refine jl_s (S' := ((3, [(0, .int 121)], [.int 97, .int 121], jzv247) : jS)) rfl ?_
  refine jl_s (S' := ((6, [(0, .int 121)], [], jzv247) : jS)) rfl ?_
  refine jl_s (S' := ((7, [(0, .int 121)], [.int 121], jzv247) : jS)) rfl ?_
  refine jl_s (S' := ((9, [(0, .int 121)], [.int 122, .int 121], jzv247) : jS)) rfl ?_
  refine jl_s (S' := ((12, [(0, .int 121)], [], jzv247) : jS)) rfl ?_
  refine jl_s (S' := ((13, [(0, .int 121)], [.int 1], jzv247) : jS)) rfl ?_
  refine jl_s (S' := ((17, [(0, .int 121)], [.int 1], jzv247) : jS)) rfl ?_
  exact jl_r (r := (.inl (some (.int 1)), jzv247)) rfl
set_option maxHeartbeats 4000000 in
set_option maxRecDepth 100000 in
theorem jzl240 (xs : Nat → Int32) (hop : xs 0 &&& 31 = 2)  : jRun ((4, xs) : jX) 2000 36 257 [.int 121] jzv247 = some (.inl (some (.long 25)), jzv247) := by
  refine jr_run (e := jm257) rfl (Nat.le_of_ble_eq_true rfl) ?_
  refine jl_s (S' := ((1, [(0, .int 121)], [.int 121], jzv247) : jS)) rfl ?_
  refine jl_c (t := 254) (as := [.int 121]) (V := jzv247) (r := (.inl (some (.int 1)), jzv247)) (S' := ((4, [(0, .int 121)], [.int 1], jzv247) : jS)) rfl (jzl239 xs hop ) rfl ?_
  refine jl_s (S' := ((7, [(0, .int 121)], [], jzv247) : jS)) rfl ?_
  refine jl_s (S' := ((8, [(0, .int 121)], [.int 121], jzv247) : jS)) rfl ?_
  refine jl_s (S' := ((10, [(0, .int 121)], [.int 97, .int 121], jzv247) : jS)) rfl ?_
  refine jl_s (S' := ((11, [(0, .int 121)], [.int 24], jzv247) : jS)) rfl ?_
  refine jl_s (S' := ((12, [(0, .int 121)], [.long 24], jzv247) : jS)) rfl ?_
  refine jl_s (S' := ((13, [(0, .int 121)], [.long 1, .long 24], jzv247) : jS)) rfl ?_
  refine jl_s (S' := ((14, [(0, .int 121)], [.long 25], jzv247) : jS)) rfl ?_
  refine jl_s (S' := ((39, [(0, .int 121)], [.long 25], jzv247) : jS)) rfl ?_
  exact jl_r (r := (.inl (some (.long 25)), jzv247)) rfl
set_option maxHeartbeats 4000000 in
set_option maxRecDepth 100000 in
theorem jzl241 (xs : Nat → Int32) (hop : xs 0 &&& 31 = 2)  : jRun ((4, xs) : jX) 2000 35 254 [.int 115] jzv247 = some (.inl (some (.int 1)), jzv247) := by
  refine jr_run (e := jm254) rfl (Nat.le_of_ble_eq_true rfl) ?_
  refine jl_s (S' := ((1, [(0, .int 115)], [.int 115], jzv247) : jS)) rfl ?_
  refine jl_s (S' := ((3, [(0, .int 115)], [.int 97, .int 115], jzv247) : jS)) rfl ?_
  refine jl_s (S' := ((6, [(0, .int 115)], [], jzv247) : jS)) rfl ?_
  refine jl_s (S' := ((7, [(0, .int 115)], [.int 115], jzv247) : jS)) rfl ?_
  refine jl_s (S' := ((9, [(0, .int 115)], [.int 122, .int 115], jzv247) : jS)) rfl ?_
  refine jl_s (S' := ((12, [(0, .int 115)], [], jzv247) : jS)) rfl ?_
  refine jl_s (S' := ((13, [(0, .int 115)], [.int 1], jzv247) : jS)) rfl ?_
  refine jl_s (S' := ((17, [(0, .int 115)], [.int 1], jzv247) : jS)) rfl ?_
  exact jl_r (r := (.inl (some (.int 1)), jzv247)) rfl
set_option maxHeartbeats 4000000 in
set_option maxRecDepth 100000 in
theorem jzl242 (xs : Nat → Int32) (hop : xs 0 &&& 31 = 2)  : jRun ((4, xs) : jX) 2000 36 257 [.int 115] jzv247 = some (.inl (some (.long 19)), jzv247) := by
  refine jr_run (e := jm257) rfl (Nat.le_of_ble_eq_true rfl) ?_
  refine jl_s (S' := ((1, [(0, .int 115)], [.int 115], jzv247) : jS)) rfl ?_
  refine jl_c (t := 254) (as := [.int 115]) (V := jzv247) (r := (.inl (some (.int 1)), jzv247)) (S' := ((4, [(0, .int 115)], [.int 1], jzv247) : jS)) rfl (jzl241 xs hop ) rfl ?_
  refine jl_s (S' := ((7, [(0, .int 115)], [], jzv247) : jS)) rfl ?_
  refine jl_s (S' := ((8, [(0, .int 115)], [.int 115], jzv247) : jS)) rfl ?_
  refine jl_s (S' := ((10, [(0, .int 115)], [.int 97, .int 115], jzv247) : jS)) rfl ?_
  refine jl_s (S' := ((11, [(0, .int 115)], [.int 18], jzv247) : jS)) rfl ?_
  refine jl_s (S' := ((12, [(0, .int 115)], [.long 18], jzv247) : jS)) rfl ?_
  refine jl_s (S' := ((13, [(0, .int 115)], [.long 1, .long 18], jzv247) : jS)) rfl ?_
  refine jl_s (S' := ((14, [(0, .int 115)], [.long 19], jzv247) : jS)) rfl ?_
  refine jl_s (S' := ((39, [(0, .int 115)], [.long 19], jzv247) : jS)) rfl ?_
  exact jl_r (r := (.inl (some (.long 19)), jzv247)) rfl
set_option maxHeartbeats 4000000 in
set_option maxRecDepth 100000 in
theorem jzl243 (xs : Nat → Int32) (hop : xs 0 &&& 31 = 2)  : jRun ((4, xs) : jX) 2000 37 261 [.ref 28] jzv247 = some (.inl (some (.long 611781)), jzv247) := by
  refine jr_run (e := jm261) rfl (Nat.le_of_ble_eq_true rfl) ?_
  refine jl_s (S' := ((1, [(0, .ref 28)], [.long 0], jzv247) : jS)) rfl ?_
  refine jl_s (S' := ((2, [(1, .long 0), (0, .ref 28)], [], jzv247) : jS)) rfl ?_
  refine jl_s (S' := ((3, [(1, .long 0), (0, .ref 28)], [.int 0], jzv247) : jS)) rfl ?_
  refine jl_s (S' := ((4, [(3, .int 0), (1, .long 0), (0, .ref 28)], [], jzv247) : jS)) rfl ?_
  refine jl_s (S' := ((5, [(3, .int 0), (1, .long 0), (0, .ref 28)], [.int 0], jzv247) : jS)) rfl ?_
  refine jl_s (S' := ((6, [(3, .int 0), (1, .long 0), (0, .ref 28)], [.ref 28, .int 0], jzv247) : jS)) rfl ?_
  refine jl_s (S' := ((9, [(3, .int 0), (1, .long 0), (0, .ref 28)], [.int 4, .int 0], jzv247) : jS)) rfl ?_
  refine jl_s (S' := ((12, [(3, .int 0), (1, .long 0), (0, .ref 28)], [], jzv247) : jS)) rfl ?_
  refine jl_s (S' := ((15, [(3, .int 0), (1, .long 0), (0, .ref 28)], [.long 38], jzv247) : jS)) rfl ?_
  refine jl_s (S' := ((16, [(3, .int 0), (1, .long 0), (0, .ref 28)], [.long 0, .long 38], jzv247) : jS)) rfl ?_
  refine jl_s (S' := ((17, [(3, .int 0), (1, .long 0), (0, .ref 28)], [.long 0], jzv247) : jS)) rfl ?_
  refine jl_s (S' := ((18, [(3, .int 0), (1, .long 0), (0, .ref 28)], [.ref 28, .long 0], jzv247) : jS)) rfl ?_
  refine jl_s (S' := ((19, [(3, .int 0), (1, .long 0), (0, .ref 28)], [.int 0, .ref 28, .long 0], jzv247) : jS)) rfl ?_
  refine jl_s (S' := ((22, [(3, .int 0), (1, .long 0), (0, .ref 28)], [.int 107, .long 0], jzv247) : jS)) rfl ?_
  refine jl_c (t := 257) (as := [.int 107]) (V := jzv247) (r := (.inl (some (.long 11)), jzv247)) (S' := ((25, [(3, .int 0), (1, .long 0), (0, .ref 28)], [.long 11, .long 0], jzv247) : jS)) rfl (jzl236 xs hop ) rfl ?_
  refine jl_s (S' := ((26, [(3, .int 0), (1, .long 0), (0, .ref 28)], [.long 11], jzv247) : jS)) rfl ?_
  refine jl_s (S' := ((27, [(1, .long 11), (3, .int 0), (0, .ref 28)], [], jzv247) : jS)) rfl ?_
  refine jl_s (S' := ((30, [(3, .int 1), (1, .long 11), (0, .ref 28)], [], jzv247) : jS)) rfl ?_
  refine jl_s (S' := ((4, [(3, .int 1), (1, .long 11), (0, .ref 28)], [], jzv247) : jS)) rfl ?_
  refine jl_s (S' := ((5, [(3, .int 1), (1, .long 11), (0, .ref 28)], [.int 1], jzv247) : jS)) rfl ?_
  refine jl_s (S' := ((6, [(3, .int 1), (1, .long 11), (0, .ref 28)], [.ref 28, .int 1], jzv247) : jS)) rfl ?_
  refine jl_s (S' := ((9, [(3, .int 1), (1, .long 11), (0, .ref 28)], [.int 4, .int 1], jzv247) : jS)) rfl ?_
  refine jl_s (S' := ((12, [(3, .int 1), (1, .long 11), (0, .ref 28)], [], jzv247) : jS)) rfl ?_
  refine jl_s (S' := ((15, [(3, .int 1), (1, .long 11), (0, .ref 28)], [.long 38], jzv247) : jS)) rfl ?_
  refine jl_s (S' := ((16, [(3, .int 1), (1, .long 11), (0, .ref 28)], [.long 11, .long 38], jzv247) : jS)) rfl ?_
  refine jl_s (S' := ((17, [(3, .int 1), (1, .long 11), (0, .ref 28)], [.long 418], jzv247) : jS)) rfl ?_
  refine jl_s (S' := ((18, [(3, .int 1), (1, .long 11), (0, .ref 28)], [.ref 28, .long 418], jzv247) : jS)) rfl ?_
  refine jl_s (S' := ((19, [(3, .int 1), (1, .long 11), (0, .ref 28)], [.int 1, .ref 28, .long 418], jzv247) : jS)) rfl ?_
  refine jl_s (S' := ((22, [(3, .int 1), (1, .long 11), (0, .ref 28)], [.int 101, .long 418], jzv247) : jS)) rfl ?_
  refine jl_c (t := 257) (as := [.int 101]) (V := jzv247) (r := (.inl (some (.long 5)), jzv247)) (S' := ((25, [(3, .int 1), (1, .long 11), (0, .ref 28)], [.long 5, .long 418], jzv247) : jS)) rfl (jzl238 xs hop ) rfl ?_
  refine jl_s (S' := ((26, [(3, .int 1), (1, .long 11), (0, .ref 28)], [.long 423], jzv247) : jS)) rfl ?_
  refine jl_s (S' := ((27, [(1, .long 423), (3, .int 1), (0, .ref 28)], [], jzv247) : jS)) rfl ?_
  refine jl_s (S' := ((30, [(3, .int 2), (1, .long 423), (0, .ref 28)], [], jzv247) : jS)) rfl ?_
  refine jl_s (S' := ((4, [(3, .int 2), (1, .long 423), (0, .ref 28)], [], jzv247) : jS)) rfl ?_
  refine jl_s (S' := ((5, [(3, .int 2), (1, .long 423), (0, .ref 28)], [.int 2], jzv247) : jS)) rfl ?_
  refine jl_s (S' := ((6, [(3, .int 2), (1, .long 423), (0, .ref 28)], [.ref 28, .int 2], jzv247) : jS)) rfl ?_
  refine jl_s (S' := ((9, [(3, .int 2), (1, .long 423), (0, .ref 28)], [.int 4, .int 2], jzv247) : jS)) rfl ?_
  refine jl_s (S' := ((12, [(3, .int 2), (1, .long 423), (0, .ref 28)], [], jzv247) : jS)) rfl ?_
  refine jl_s (S' := ((15, [(3, .int 2), (1, .long 423), (0, .ref 28)], [.long 38], jzv247) : jS)) rfl ?_
  refine jl_s (S' := ((16, [(3, .int 2), (1, .long 423), (0, .ref 28)], [.long 423, .long 38], jzv247) : jS)) rfl ?_
  refine jl_s (S' := ((17, [(3, .int 2), (1, .long 423), (0, .ref 28)], [.long 16074], jzv247) : jS)) rfl ?_
  refine jl_s (S' := ((18, [(3, .int 2), (1, .long 423), (0, .ref 28)], [.ref 28, .long 16074], jzv247) : jS)) rfl ?_
  refine jl_s (S' := ((19, [(3, .int 2), (1, .long 423), (0, .ref 28)], [.int 2, .ref 28, .long 16074], jzv247) : jS)) rfl ?_
  refine jl_s (S' := ((22, [(3, .int 2), (1, .long 423), (0, .ref 28)], [.int 121, .long 16074], jzv247) : jS)) rfl ?_
  refine jl_c (t := 257) (as := [.int 121]) (V := jzv247) (r := (.inl (some (.long 25)), jzv247)) (S' := ((25, [(3, .int 2), (1, .long 423), (0, .ref 28)], [.long 25, .long 16074], jzv247) : jS)) rfl (jzl240 xs hop ) rfl ?_
  refine jl_s (S' := ((26, [(3, .int 2), (1, .long 423), (0, .ref 28)], [.long 16099], jzv247) : jS)) rfl ?_
  refine jl_s (S' := ((27, [(1, .long 16099), (3, .int 2), (0, .ref 28)], [], jzv247) : jS)) rfl ?_
  refine jl_s (S' := ((30, [(3, .int 3), (1, .long 16099), (0, .ref 28)], [], jzv247) : jS)) rfl ?_
  refine jl_s (S' := ((4, [(3, .int 3), (1, .long 16099), (0, .ref 28)], [], jzv247) : jS)) rfl ?_
  refine jl_s (S' := ((5, [(3, .int 3), (1, .long 16099), (0, .ref 28)], [.int 3], jzv247) : jS)) rfl ?_
  refine jl_s (S' := ((6, [(3, .int 3), (1, .long 16099), (0, .ref 28)], [.ref 28, .int 3], jzv247) : jS)) rfl ?_
  refine jl_s (S' := ((9, [(3, .int 3), (1, .long 16099), (0, .ref 28)], [.int 4, .int 3], jzv247) : jS)) rfl ?_
  refine jl_s (S' := ((12, [(3, .int 3), (1, .long 16099), (0, .ref 28)], [], jzv247) : jS)) rfl ?_
  refine jl_s (S' := ((15, [(3, .int 3), (1, .long 16099), (0, .ref 28)], [.long 38], jzv247) : jS)) rfl ?_
  refine jl_s (S' := ((16, [(3, .int 3), (1, .long 16099), (0, .ref 28)], [.long 16099, .long 38], jzv247) : jS)) rfl ?_
  refine jl_s (S' := ((17, [(3, .int 3), (1, .long 16099), (0, .ref 28)], [.long 611762], jzv247) : jS)) rfl ?_
  refine jl_s (S' := ((18, [(3, .int 3), (1, .long 16099), (0, .ref 28)], [.ref 28, .long 611762], jzv247) : jS)) rfl ?_
  refine jl_s (S' := ((19, [(3, .int 3), (1, .long 16099), (0, .ref 28)], [.int 3, .ref 28, .long 611762], jzv247) : jS)) rfl ?_
  refine jl_s (S' := ((22, [(3, .int 3), (1, .long 16099), (0, .ref 28)], [.int 115, .long 611762], jzv247) : jS)) rfl ?_
  refine jl_c (t := 257) (as := [.int 115]) (V := jzv247) (r := (.inl (some (.long 19)), jzv247)) (S' := ((25, [(3, .int 3), (1, .long 16099), (0, .ref 28)], [.long 19, .long 611762], jzv247) : jS)) rfl (jzl242 xs hop ) rfl ?_
  refine jl_s (S' := ((26, [(3, .int 3), (1, .long 16099), (0, .ref 28)], [.long 611781], jzv247) : jS)) rfl ?_
  refine jl_s (S' := ((27, [(1, .long 611781), (3, .int 3), (0, .ref 28)], [], jzv247) : jS)) rfl ?_
  refine jl_s (S' := ((30, [(3, .int 4), (1, .long 611781), (0, .ref 28)], [], jzv247) : jS)) rfl ?_
  refine jl_s (S' := ((4, [(3, .int 4), (1, .long 611781), (0, .ref 28)], [], jzv247) : jS)) rfl ?_
  refine jl_s (S' := ((5, [(3, .int 4), (1, .long 611781), (0, .ref 28)], [.int 4], jzv247) : jS)) rfl ?_
  refine jl_s (S' := ((6, [(3, .int 4), (1, .long 611781), (0, .ref 28)], [.ref 28, .int 4], jzv247) : jS)) rfl ?_
  refine jl_s (S' := ((9, [(3, .int 4), (1, .long 611781), (0, .ref 28)], [.int 4, .int 4], jzv247) : jS)) rfl ?_
  refine jl_s (S' := ((33, [(3, .int 4), (1, .long 611781), (0, .ref 28)], [], jzv247) : jS)) rfl ?_
  refine jl_s (S' := ((34, [(3, .int 4), (1, .long 611781), (0, .ref 28)], [.long 611781], jzv247) : jS)) rfl ?_
  exact jl_r (r := (.inl (some (.long 611781)), jzv247)) rfl
def jzc173 : jC := .inl (2, 260, .inr (.inl (vp_updL (vp_updL (fun _ => 0) 0 1512718720) 1 611781)))
def jzv248 : jH := [jzc161, jzc2, jzc172, jzc7, jzc9, jzc9, jzc9, jzc9, jzc9, jzc173, jzc170, jzc171, jzc171, jzc171, jzc171, jzc171, jzc19, jzc19, jzc28, jzc28, jzc28, jzc28, jzc28, jzc28, jzc28, jzc28, jzc28, jzc28, jzc28, jzc28, jzc28, jzc28, jzc43, jzc43, jzc43, jzc43, jzc43, jzc49, jzc49, jzc168, jzc52, jzc52, jzc56, jzc56, jzc59, jzc56, jzc62, jzc28, jzc28, jzc28, jzc28, jzc28, jzc69, jzc71, jzc73, jzc43, jzc76, jzc52, jzc52, jzc80, jzc80, jzc80, jzc84, jzc52, jzc52, jzc52, jzc52, jzc52, jzc52, jzc52, jzc93, jzc93, jzc52, jzc52, jzc98, jzc100, jzc93, jzc52, jzc52, jzc52, jzc52, jzc107, jzc109, jzc111, jzc100, jzc100, jzc100, jzc111, jzc111, jzc118, jzc160, jzc127, jzc129, jzc131, jzc159, jzc136, jzc138, jzc118, jzc138, jzc136, jzc145, jzc150, jzc155, jzc123]
def jzc174 : jC := .inl (1, 260, .inl (upd (upd (fun _ => 0) 0 12) 1 13))
def jzv249 : jH := [jzc161, jzc2, jzc172, jzc7, jzc9, jzc9, jzc9, jzc9, jzc9, jzc173, jzc174, jzc171, jzc171, jzc171, jzc171, jzc171, jzc19, jzc19, jzc28, jzc28, jzc28, jzc28, jzc28, jzc28, jzc28, jzc28, jzc28, jzc28, jzc28, jzc28, jzc28, jzc28, jzc43, jzc43, jzc43, jzc43, jzc43, jzc49, jzc49, jzc168, jzc52, jzc52, jzc56, jzc56, jzc59, jzc56, jzc62, jzc28, jzc28, jzc28, jzc28, jzc28, jzc69, jzc71, jzc73, jzc43, jzc76, jzc52, jzc52, jzc80, jzc80, jzc80, jzc84, jzc52, jzc52, jzc52, jzc52, jzc52, jzc52, jzc52, jzc93, jzc93, jzc52, jzc52, jzc98, jzc100, jzc93, jzc52, jzc52, jzc52, jzc52, jzc107, jzc109, jzc111, jzc100, jzc100, jzc100, jzc111, jzc111, jzc118, jzc160, jzc127, jzc129, jzc131, jzc159, jzc136, jzc138, jzc118, jzc138, jzc136, jzc145, jzc150, jzc155, jzc123]
def jzc175 : jC := .inl (1, 260, .inl (upd (upd (fun _ => 0) 0 0) 1 0))
def jzv250 : jH := [jzc161, jzc2, jzc172, jzc7, jzc9, jzc9, jzc9, jzc9, jzc9, jzc173, jzc174, jzc175, jzc171, jzc171, jzc171, jzc171, jzc19, jzc19, jzc28, jzc28, jzc28, jzc28, jzc28, jzc28, jzc28, jzc28, jzc28, jzc28, jzc28, jzc28, jzc28, jzc28, jzc43, jzc43, jzc43, jzc43, jzc43, jzc49, jzc49, jzc168, jzc52, jzc52, jzc56, jzc56, jzc59, jzc56, jzc62, jzc28, jzc28, jzc28, jzc28, jzc28, jzc69, jzc71, jzc73, jzc43, jzc76, jzc52, jzc52, jzc80, jzc80, jzc80, jzc84, jzc52, jzc52, jzc52, jzc52, jzc52, jzc52, jzc52, jzc93, jzc93, jzc52, jzc52, jzc98, jzc100, jzc93, jzc52, jzc52, jzc52, jzc52, jzc107, jzc109, jzc111, jzc100, jzc100, jzc100, jzc111, jzc111, jzc118, jzc160, jzc127, jzc129, jzc131, jzc159, jzc136, jzc138, jzc118, jzc138, jzc136, jzc145, jzc150, jzc155, jzc123]
def jzv251 : jH := [jzc161, jzc2, jzc172, jzc7, jzc9, jzc9, jzc9, jzc9, jzc9, jzc173, jzc174, jzc175, jzc175, jzc171, jzc171, jzc171, jzc19, jzc19, jzc28, jzc28, jzc28, jzc28, jzc28, jzc28, jzc28, jzc28, jzc28, jzc28, jzc28, jzc28, jzc28, jzc28, jzc43, jzc43, jzc43, jzc43, jzc43, jzc49, jzc49, jzc168, jzc52, jzc52, jzc56, jzc56, jzc59, jzc56, jzc62, jzc28, jzc28, jzc28, jzc28, jzc28, jzc69, jzc71, jzc73, jzc43, jzc76, jzc52, jzc52, jzc80, jzc80, jzc80, jzc84, jzc52, jzc52, jzc52, jzc52, jzc52, jzc52, jzc52, jzc93, jzc93, jzc52, jzc52, jzc98, jzc100, jzc93, jzc52, jzc52, jzc52, jzc52, jzc107, jzc109, jzc111, jzc100, jzc100, jzc100, jzc111, jzc111, jzc118, jzc160, jzc127, jzc129, jzc131, jzc159, jzc136, jzc138, jzc118, jzc138, jzc136, jzc145, jzc150, jzc155, jzc123]
def jzv252 : jH := [jzc161, jzc2, jzc172, jzc7, jzc9, jzc9, jzc9, jzc9, jzc9, jzc173, jzc174, jzc175, jzc175, jzc175, jzc171, jzc171, jzc19, jzc19, jzc28, jzc28, jzc28, jzc28, jzc28, jzc28, jzc28, jzc28, jzc28, jzc28, jzc28, jzc28, jzc28, jzc28, jzc43, jzc43, jzc43, jzc43, jzc43, jzc49, jzc49, jzc168, jzc52, jzc52, jzc56, jzc56, jzc59, jzc56, jzc62, jzc28, jzc28, jzc28, jzc28, jzc28, jzc69, jzc71, jzc73, jzc43, jzc76, jzc52, jzc52, jzc80, jzc80, jzc80, jzc84, jzc52, jzc52, jzc52, jzc52, jzc52, jzc52, jzc52, jzc93, jzc93, jzc52, jzc52, jzc98, jzc100, jzc93, jzc52, jzc52, jzc52, jzc52, jzc107, jzc109, jzc111, jzc100, jzc100, jzc100, jzc111, jzc111, jzc118, jzc160, jzc127, jzc129, jzc131, jzc159, jzc136, jzc138, jzc118, jzc138, jzc136, jzc145, jzc150, jzc155, jzc123]
def jzv253 : jH := [jzc161, jzc2, jzc172, jzc7, jzc9, jzc9, jzc9, jzc9, jzc9, jzc173, jzc174, jzc175, jzc175, jzc175, jzc175, jzc171, jzc19, jzc19, jzc28, jzc28, jzc28, jzc28, jzc28, jzc28, jzc28, jzc28, jzc28, jzc28, jzc28, jzc28, jzc28, jzc28, jzc43, jzc43, jzc43, jzc43, jzc43, jzc49, jzc49, jzc168, jzc52, jzc52, jzc56, jzc56, jzc59, jzc56, jzc62, jzc28, jzc28, jzc28, jzc28, jzc28, jzc69, jzc71, jzc73, jzc43, jzc76, jzc52, jzc52, jzc80, jzc80, jzc80, jzc84, jzc52, jzc52, jzc52, jzc52, jzc52, jzc52, jzc52, jzc93, jzc93, jzc52, jzc52, jzc98, jzc100, jzc93, jzc52, jzc52, jzc52, jzc52, jzc107, jzc109, jzc111, jzc100, jzc100, jzc100, jzc111, jzc111, jzc118, jzc160, jzc127, jzc129, jzc131, jzc159, jzc136, jzc138, jzc118, jzc138, jzc136, jzc145, jzc150, jzc155, jzc123]
def jzv254 : jH := [jzc161, jzc2, jzc172, jzc7, jzc9, jzc9, jzc9, jzc9, jzc9, jzc173, jzc174, jzc175, jzc175, jzc175, jzc175, jzc175, jzc19, jzc19, jzc28, jzc28, jzc28, jzc28, jzc28, jzc28, jzc28, jzc28, jzc28, jzc28, jzc28, jzc28, jzc28, jzc28, jzc43, jzc43, jzc43, jzc43, jzc43, jzc49, jzc49, jzc168, jzc52, jzc52, jzc56, jzc56, jzc59, jzc56, jzc62, jzc28, jzc28, jzc28, jzc28, jzc28, jzc69, jzc71, jzc73, jzc43, jzc76, jzc52, jzc52, jzc80, jzc80, jzc80, jzc84, jzc52, jzc52, jzc52, jzc52, jzc52, jzc52, jzc52, jzc93, jzc93, jzc52, jzc52, jzc98, jzc100, jzc93, jzc52, jzc52, jzc52, jzc52, jzc107, jzc109, jzc111, jzc100, jzc100, jzc100, jzc111, jzc111, jzc118, jzc160, jzc127, jzc129, jzc131, jzc159, jzc136, jzc138, jzc118, jzc138, jzc136, jzc145, jzc150, jzc155, jzc123]
def jzc176 : jC := .inr (12, [.int 0, .ref 67, .int 0, .int 0, .ref 68, .ref 69, .ref 70, .ref 71, .ref 72, .int 0, .int 0, .int 0, .int 0, .int 0, .long 0, .int 0, .int 0, .int (-1), .int (-1), .int 2, .ref 73, .ref 74, .ref 75, .ref 76, .ref 77, .ref 78, .ref 79, .ref 80, .int 0, .int 0, .ref 81, .int 1, .ref 82, .ref 83, .ref 84, .ref 85, .ref 86, .ref 87, .ref 88, .ref 89, .ref 90, .ref 91, .ref 92, .ref 93, .ref 94, .ref 95, .int 0, .ref 96, .ref 97, .ref 98, .ref 99, .ref 100, .int 0, .ref 101, .ref 102, .ref 103, .ref 104, .ref 105, .int 0, .int 0, .int 0, .int 0, .int 0, .ref 106, .ref 107, .ref 108, .ref 109, .int 0, .int 0, .ref 110, .int 0, .ref 111, .ref 112, .ref 113, .ref 114, .ref 115, .ref 116, .int 0, .ref 117, .int 0, .ref 118, .int 0, .ref 119, .ref 120, .ref 121, .ref 122, .ref 123, .ref 124, .ref 125, .int 0, .ref 126, .ref 127, .ref 128, .ref 129, .ref 130, .ref 131, .ref 132, .ref 133, .ref 134, .ref 135, .ref 136, .ref 137, .ref 138, .ref 139, .ref 140, .ref 141, .ref 142, .ref 143, .ref 144, .ref 145, .int 0, .int 0, .ref 146, .int 0, .ref 147, .ref 148, .ref 149, .ref 150, .ref 151, .ref 152, .int 0, .int 0])
def jzv255 : jH := [jzc161, jzc2, jzc176, jzc7, jzc9, jzc9, jzc9, jzc9, jzc9, jzc173, jzc174, jzc175, jzc175, jzc175, jzc175, jzc175, jzc19, jzc19, jzc28, jzc28, jzc28, jzc28, jzc28, jzc28, jzc28, jzc28, jzc28, jzc28, jzc28, jzc28, jzc28, jzc28, jzc43, jzc43, jzc43, jzc43, jzc43, jzc49, jzc49, jzc168, jzc52, jzc52, jzc56, jzc56, jzc59, jzc56, jzc62, jzc28, jzc28, jzc28, jzc28, jzc28, jzc69, jzc71, jzc73, jzc43, jzc76, jzc52, jzc52, jzc80, jzc80, jzc80, jzc84, jzc52, jzc52, jzc52, jzc52, jzc52, jzc52, jzc52, jzc93, jzc93, jzc52, jzc52, jzc98, jzc100, jzc93, jzc52, jzc52, jzc52, jzc52, jzc107, jzc109, jzc111, jzc100, jzc100, jzc100, jzc111, jzc111, jzc118, jzc160, jzc127, jzc129, jzc131, jzc159, jzc136, jzc138, jzc118, jzc138, jzc136, jzc145, jzc150, jzc155, jzc123]
set_option maxHeartbeats 4000000 in
set_option maxRecDepth 100000 in
theorem jzl244 (xs : Nat → Int32) (hop : xs 0 &&& 31 = 2)  : jRun ((4, xs) : jX) 2000 37 277 [.ref 66, .long 611781, .int 13, .int 0] jzv247 = some (.inl (some (.int 1)), jzv255) := by
  refine jr_run (e := jm277) rfl (Nat.le_of_ble_eq_true rfl) ?_
  refine jl_s (S' := ((1, [(0, .ref 66), (1, .long 611781), (3, .int 13), (4, .int 0)], [.ref 66], jzv247) : jS)) rfl ?_
  refine jl_s (S' := ((4, [(0, .ref 66), (1, .long 611781), (3, .int 13), (4, .int 0)], [.int 1], jzv247) : jS)) rfl ?_
  refine jl_s (S' := ((6, [(5, .int 1), (0, .ref 66), (1, .long 611781), (3, .int 13), (4, .int 0)], [], jzv247) : jS)) rfl ?_
  refine jl_s (S' := ((7, [(5, .int 1), (0, .ref 66), (1, .long 611781), (3, .int 13), (4, .int 0)], [.ref 66], jzv247) : jS)) rfl ?_
  refine jl_s (S' := ((10, [(5, .int 1), (0, .ref 66), (1, .long 611781), (3, .int 13), (4, .int 0)], [.ref 73], jzv247) : jS)) rfl ?_
  refine jl_s (S' := ((12, [(5, .int 1), (0, .ref 66), (1, .long 611781), (3, .int 13), (4, .int 0)], [.int 1, .ref 73], jzv247) : jS)) rfl ?_
  refine jl_s (S' := ((13, [(5, .int 1), (0, .ref 66), (1, .long 611781), (3, .int 13), (4, .int 0)], [.long 611781, .int 1, .ref 73], jzv247) : jS)) rfl ?_
  refine jl_s (S' := ((14, [(5, .int 1), (0, .ref 66), (1, .long 611781), (3, .int 13), (4, .int 0)], [], jzv248) : jS)) rfl ?_
  refine jl_s (S' := ((15, [(5, .int 1), (0, .ref 66), (1, .long 611781), (3, .int 13), (4, .int 0)], [.ref 66], jzv248) : jS)) rfl ?_
  refine jl_s (S' := ((18, [(5, .int 1), (0, .ref 66), (1, .long 611781), (3, .int 13), (4, .int 0)], [.ref 74], jzv248) : jS)) rfl ?_
  refine jl_s (S' := ((20, [(5, .int 1), (0, .ref 66), (1, .long 611781), (3, .int 13), (4, .int 0)], [.int 1, .ref 74], jzv248) : jS)) rfl ?_
  refine jl_s (S' := ((21, [(5, .int 1), (0, .ref 66), (1, .long 611781), (3, .int 13), (4, .int 0)], [.int 13, .int 1, .ref 74], jzv248) : jS)) rfl ?_
  refine jl_s (S' := ((22, [(5, .int 1), (0, .ref 66), (1, .long 611781), (3, .int 13), (4, .int 0)], [], jzv249) : jS)) rfl ?_
  refine jl_s (S' := ((23, [(5, .int 1), (0, .ref 66), (1, .long 611781), (3, .int 13), (4, .int 0)], [.ref 66], jzv249) : jS)) rfl ?_
  refine jl_s (S' := ((26, [(5, .int 1), (0, .ref 66), (1, .long 611781), (3, .int 13), (4, .int 0)], [.ref 75], jzv249) : jS)) rfl ?_
  refine jl_s (S' := ((28, [(5, .int 1), (0, .ref 66), (1, .long 611781), (3, .int 13), (4, .int 0)], [.int 1, .ref 75], jzv249) : jS)) rfl ?_
  refine jl_s (S' := ((30, [(5, .int 1), (0, .ref 66), (1, .long 611781), (3, .int 13), (4, .int 0)], [.int 0, .int 1, .ref 75], jzv249) : jS)) rfl ?_
  refine jl_s (S' := ((31, [(5, .int 1), (0, .ref 66), (1, .long 611781), (3, .int 13), (4, .int 0)], [], jzv250) : jS)) rfl ?_
  refine jl_s (S' := ((32, [(5, .int 1), (0, .ref 66), (1, .long 611781), (3, .int 13), (4, .int 0)], [.ref 66], jzv250) : jS)) rfl ?_
  refine jl_s (S' := ((35, [(5, .int 1), (0, .ref 66), (1, .long 611781), (3, .int 13), (4, .int 0)], [.ref 76], jzv250) : jS)) rfl ?_
  refine jl_s (S' := ((37, [(5, .int 1), (0, .ref 66), (1, .long 611781), (3, .int 13), (4, .int 0)], [.int 1, .ref 76], jzv250) : jS)) rfl ?_
  refine jl_s (S' := ((38, [(5, .int 1), (0, .ref 66), (1, .long 611781), (3, .int 13), (4, .int 0)], [.int 0, .int 1, .ref 76], jzv250) : jS)) rfl ?_
  refine jl_s (S' := ((39, [(5, .int 1), (0, .ref 66), (1, .long 611781), (3, .int 13), (4, .int 0)], [], jzv251) : jS)) rfl ?_
  refine jl_s (S' := ((40, [(5, .int 1), (0, .ref 66), (1, .long 611781), (3, .int 13), (4, .int 0)], [.ref 66], jzv251) : jS)) rfl ?_
  refine jl_s (S' := ((43, [(5, .int 1), (0, .ref 66), (1, .long 611781), (3, .int 13), (4, .int 0)], [.ref 77], jzv251) : jS)) rfl ?_
  refine jl_s (S' := ((45, [(5, .int 1), (0, .ref 66), (1, .long 611781), (3, .int 13), (4, .int 0)], [.int 1, .ref 77], jzv251) : jS)) rfl ?_
  refine jl_s (S' := ((46, [(5, .int 1), (0, .ref 66), (1, .long 611781), (3, .int 13), (4, .int 0)], [.int 0, .int 1, .ref 77], jzv251) : jS)) rfl ?_
  refine jl_s (S' := ((47, [(5, .int 1), (0, .ref 66), (1, .long 611781), (3, .int 13), (4, .int 0)], [], jzv252) : jS)) rfl ?_
  refine jl_s (S' := ((48, [(5, .int 1), (0, .ref 66), (1, .long 611781), (3, .int 13), (4, .int 0)], [.ref 66], jzv252) : jS)) rfl ?_
  refine jl_s (S' := ((51, [(5, .int 1), (0, .ref 66), (1, .long 611781), (3, .int 13), (4, .int 0)], [.ref 78], jzv252) : jS)) rfl ?_
  refine jl_s (S' := ((53, [(5, .int 1), (0, .ref 66), (1, .long 611781), (3, .int 13), (4, .int 0)], [.int 1, .ref 78], jzv252) : jS)) rfl ?_
  refine jl_s (S' := ((54, [(5, .int 1), (0, .ref 66), (1, .long 611781), (3, .int 13), (4, .int 0)], [.int 0, .int 1, .ref 78], jzv252) : jS)) rfl ?_
  refine jl_s (S' := ((55, [(5, .int 1), (0, .ref 66), (1, .long 611781), (3, .int 13), (4, .int 0)], [], jzv253) : jS)) rfl ?_
  refine jl_s (S' := ((56, [(5, .int 1), (0, .ref 66), (1, .long 611781), (3, .int 13), (4, .int 0)], [.ref 66], jzv253) : jS)) rfl ?_
  refine jl_s (S' := ((59, [(5, .int 1), (0, .ref 66), (1, .long 611781), (3, .int 13), (4, .int 0)], [.ref 79], jzv253) : jS)) rfl ?_
  refine jl_s (S' := ((61, [(5, .int 1), (0, .ref 66), (1, .long 611781), (3, .int 13), (4, .int 0)], [.int 1, .ref 79], jzv253) : jS)) rfl ?_
  refine jl_s (S' := ((62, [(5, .int 1), (0, .ref 66), (1, .long 611781), (3, .int 13), (4, .int 0)], [.int 0, .int 1, .ref 79], jzv253) : jS)) rfl ?_
  refine jl_s (S' := ((63, [(5, .int 1), (0, .ref 66), (1, .long 611781), (3, .int 13), (4, .int 0)], [], jzv254) : jS)) rfl ?_
  refine jl_s (S' := ((64, [(5, .int 1), (0, .ref 66), (1, .long 611781), (3, .int 13), (4, .int 0)], [.ref 66], jzv254) : jS)) rfl ?_
  refine jl_s (S' := ((65, [(5, .int 1), (0, .ref 66), (1, .long 611781), (3, .int 13), (4, .int 0)], [.ref 66, .ref 66], jzv254) : jS)) rfl ?_
  refine jl_s (S' := ((68, [(5, .int 1), (0, .ref 66), (1, .long 611781), (3, .int 13), (4, .int 0)], [.int 1, .ref 66], jzv254) : jS)) rfl ?_
  refine jl_s (S' := ((69, [(5, .int 1), (0, .ref 66), (1, .long 611781), (3, .int 13), (4, .int 0)], [.int 1, .int 1, .ref 66], jzv254) : jS)) rfl ?_
  refine jl_s (S' := ((70, [(5, .int 1), (0, .ref 66), (1, .long 611781), (3, .int 13), (4, .int 0)], [.int 2, .ref 66], jzv254) : jS)) rfl ?_
  refine jl_s (S' := ((73, [(5, .int 1), (0, .ref 66), (1, .long 611781), (3, .int 13), (4, .int 0)], [], jzv255) : jS)) rfl ?_
  refine jl_s (S' := ((75, [(5, .int 1), (0, .ref 66), (1, .long 611781), (3, .int 13), (4, .int 0)], [.int 1], jzv255) : jS)) rfl ?_
  exact jl_r (r := (.inl (some (.int 1)), jzv255)) rfl
def jzv256 : jH := [jzc161, jzc2, jzc176, jzc7, jzc9, jzc9, jzc9, jzc9, jzc9, jzc173, jzc174, jzc175, jzc175, jzc175, jzc175, jzc175, jzc19, jzc171, jzc28, jzc28, jzc28, jzc28, jzc28, jzc28, jzc28, jzc28, jzc28, jzc28, jzc28, jzc28, jzc28, jzc28, jzc43, jzc43, jzc43, jzc43, jzc43, jzc49, jzc49, jzc168, jzc52, jzc52, jzc56, jzc56, jzc59, jzc56, jzc62, jzc28, jzc28, jzc28, jzc28, jzc28, jzc69, jzc71, jzc73, jzc43, jzc76, jzc52, jzc52, jzc80, jzc80, jzc80, jzc84, jzc52, jzc52, jzc52, jzc52, jzc52, jzc52, jzc52, jzc93, jzc93, jzc52, jzc52, jzc98, jzc100, jzc93, jzc52, jzc52, jzc52, jzc52, jzc107, jzc109, jzc111, jzc100, jzc100, jzc100, jzc111, jzc111, jzc118, jzc160, jzc127, jzc129, jzc131, jzc159, jzc136, jzc138, jzc118, jzc138, jzc136, jzc145, jzc150, jzc155, jzc123]
def jzc177 : jC := .inr (12, [.int 0, .ref 67, .int 0, .int 0, .ref 68, .ref 69, .ref 70, .ref 71, .ref 72, .int 0, .int 0, .int 0, .int 0, .int 0, .long 0, .int 0, .int 0, .int (-1), .int (-1), .int 2, .ref 73, .ref 74, .ref 75, .ref 76, .ref 77, .ref 78, .ref 79, .ref 80, .int 0, .int 1, .ref 81, .int 1, .ref 82, .ref 83, .ref 84, .ref 85, .ref 86, .ref 87, .ref 88, .ref 89, .ref 90, .ref 91, .ref 92, .ref 93, .ref 94, .ref 95, .int 0, .ref 96, .ref 97, .ref 98, .ref 99, .ref 100, .int 0, .ref 101, .ref 102, .ref 103, .ref 104, .ref 105, .int 0, .int 0, .int 0, .int 0, .int 0, .ref 106, .ref 107, .ref 108, .ref 109, .int 0, .int 0, .ref 110, .int 0, .ref 111, .ref 112, .ref 113, .ref 114, .ref 115, .ref 116, .int 0, .ref 117, .int 0, .ref 118, .int 0, .ref 119, .ref 120, .ref 121, .ref 122, .ref 123, .ref 124, .ref 125, .int 0, .ref 126, .ref 127, .ref 128, .ref 129, .ref 130, .ref 131, .ref 132, .ref 133, .ref 134, .ref 135, .ref 136, .ref 137, .ref 138, .ref 139, .ref 140, .ref 141, .ref 142, .ref 143, .ref 144, .ref 145, .int 0, .int 0, .ref 146, .int 0, .ref 147, .ref 148, .ref 149, .ref 150, .ref 151, .ref 152, .int 0, .int 0])
def jzv257 : jH := [jzc161, jzc2, jzc177, jzc7, jzc9, jzc9, jzc9, jzc9, jzc9, jzc173, jzc174, jzc175, jzc175, jzc175, jzc175, jzc175, jzc19, jzc171, jzc28, jzc28, jzc28, jzc28, jzc28, jzc28, jzc28, jzc28, jzc28, jzc28, jzc28, jzc28, jzc28, jzc28, jzc43, jzc43, jzc43, jzc43, jzc43, jzc49, jzc49, jzc168, jzc52, jzc52, jzc56, jzc56, jzc59, jzc56, jzc62, jzc28, jzc28, jzc28, jzc28, jzc28, jzc69, jzc71, jzc73, jzc43, jzc76, jzc52, jzc52, jzc80, jzc80, jzc80, jzc84, jzc52, jzc52, jzc52, jzc52, jzc52, jzc52, jzc52, jzc93, jzc93, jzc52, jzc52, jzc98, jzc100, jzc93, jzc52, jzc52, jzc52, jzc52, jzc107, jzc109, jzc111, jzc100, jzc100, jzc100, jzc111, jzc111, jzc118, jzc160, jzc127, jzc129, jzc131, jzc159, jzc136, jzc138, jzc118, jzc138, jzc136, jzc145, jzc150, jzc155, jzc123]
set_option maxHeartbeats 4000000 in
set_option maxRecDepth 100000 in
theorem jzl245 (xs : Nat → Int32) (hop : xs 0 &&& 31 = 2)  : jRun ((4, xs) : jX) 2000 37 275 [.ref 66, .int 0] jzv255 = some (.inl none, jzv257) := by
  refine jr_run (e := jm275) rfl (Nat.le_of_ble_eq_true rfl) ?_
  refine jl_s (S' := ((1, [(0, .ref 66), (1, .int 0)], [.ref 66], jzv255) : jS)) rfl ?_
  refine jl_s (S' := ((4, [(0, .ref 66), (1, .int 0)], [.ref 81], jzv255) : jS)) rfl ?_
  refine jl_s (S' := ((5, [(0, .ref 66), (1, .int 0)], [.ref 66, .ref 81], jzv255) : jS)) rfl ?_
  refine jl_s (S' := ((8, [(0, .ref 66), (1, .int 0)], [.int 0, .ref 81], jzv255) : jS)) rfl ?_
  refine jl_s (S' := ((9, [(0, .ref 66), (1, .int 0)], [.int 0, .int 0, .ref 81], jzv255) : jS)) rfl ?_
  refine jl_s (S' := ((10, [(0, .ref 66), (1, .int 0)], [], jzv256) : jS)) rfl ?_
  refine jl_s (S' := ((11, [(0, .ref 66), (1, .int 0)], [.ref 66], jzv256) : jS)) rfl ?_
  refine jl_s (S' := ((12, [(0, .ref 66), (1, .int 0)], [.ref 66, .ref 66], jzv256) : jS)) rfl ?_
  refine jl_s (S' := ((15, [(0, .ref 66), (1, .int 0)], [.int 0, .ref 66], jzv256) : jS)) rfl ?_
  refine jl_s (S' := ((16, [(0, .ref 66), (1, .int 0)], [.int 1, .int 0, .ref 66], jzv256) : jS)) rfl ?_
  refine jl_s (S' := ((17, [(0, .ref 66), (1, .int 0)], [.int 1, .ref 66], jzv256) : jS)) rfl ?_
  refine jl_s (S' := ((20, [(0, .ref 66), (1, .int 0)], [], jzv257) : jS)) rfl ?_
  exact jl_r (r := (.inl none, jzv257)) rfl
def jzc178 : jC := .inl (1, 260, .inl (upd (upd (fun _ => 0) 0 0) 1 1))
def jzv258 : jH := [jzc161, jzc2, jzc177, jzc7, jzc9, jzc9, jzc9, jzc9, jzc9, jzc173, jzc174, jzc175, jzc175, jzc175, jzc175, jzc175, jzc19, jzc178, jzc28, jzc28, jzc28, jzc28, jzc28, jzc28, jzc28, jzc28, jzc28, jzc28, jzc28, jzc28, jzc28, jzc28, jzc43, jzc43, jzc43, jzc43, jzc43, jzc49, jzc49, jzc168, jzc52, jzc52, jzc56, jzc56, jzc59, jzc56, jzc62, jzc28, jzc28, jzc28, jzc28, jzc28, jzc69, jzc71, jzc73, jzc43, jzc76, jzc52, jzc52, jzc80, jzc80, jzc80, jzc84, jzc52, jzc52, jzc52, jzc52, jzc52, jzc52, jzc52, jzc93, jzc93, jzc52, jzc52, jzc98, jzc100, jzc93, jzc52, jzc52, jzc52, jzc52, jzc107, jzc109, jzc111, jzc100, jzc100, jzc100, jzc111, jzc111, jzc118, jzc160, jzc127, jzc129, jzc131, jzc159, jzc136, jzc138, jzc118, jzc138, jzc136, jzc145, jzc150, jzc155, jzc123]
def jzc179 : jC := .inr (12, [.int 0, .ref 67, .int 0, .int 0, .ref 68, .ref 69, .ref 70, .ref 71, .ref 72, .int 0, .int 0, .int 0, .int 0, .int 0, .long 0, .int 0, .int 0, .int (-1), .int (-1), .int 2, .ref 73, .ref 74, .ref 75, .ref 76, .ref 77, .ref 78, .ref 79, .ref 80, .int 0, .int 2, .ref 81, .int 1, .ref 82, .ref 83, .ref 84, .ref 85, .ref 86, .ref 87, .ref 88, .ref 89, .ref 90, .ref 91, .ref 92, .ref 93, .ref 94, .ref 95, .int 0, .ref 96, .ref 97, .ref 98, .ref 99, .ref 100, .int 0, .ref 101, .ref 102, .ref 103, .ref 104, .ref 105, .int 0, .int 0, .int 0, .int 0, .int 0, .ref 106, .ref 107, .ref 108, .ref 109, .int 0, .int 0, .ref 110, .int 0, .ref 111, .ref 112, .ref 113, .ref 114, .ref 115, .ref 116, .int 0, .ref 117, .int 0, .ref 118, .int 0, .ref 119, .ref 120, .ref 121, .ref 122, .ref 123, .ref 124, .ref 125, .int 0, .ref 126, .ref 127, .ref 128, .ref 129, .ref 130, .ref 131, .ref 132, .ref 133, .ref 134, .ref 135, .ref 136, .ref 137, .ref 138, .ref 139, .ref 140, .ref 141, .ref 142, .ref 143, .ref 144, .ref 145, .int 0, .int 0, .ref 146, .int 0, .ref 147, .ref 148, .ref 149, .ref 150, .ref 151, .ref 152, .int 0, .int 0])
def jzv259 : jH := [jzc161, jzc2, jzc179, jzc7, jzc9, jzc9, jzc9, jzc9, jzc9, jzc173, jzc174, jzc175, jzc175, jzc175, jzc175, jzc175, jzc19, jzc178, jzc28, jzc28, jzc28, jzc28, jzc28, jzc28, jzc28, jzc28, jzc28, jzc28, jzc28, jzc28, jzc28, jzc28, jzc43, jzc43, jzc43, jzc43, jzc43, jzc49, jzc49, jzc168, jzc52, jzc52, jzc56, jzc56, jzc59, jzc56, jzc62, jzc28, jzc28, jzc28, jzc28, jzc28, jzc69, jzc71, jzc73, jzc43, jzc76, jzc52, jzc52, jzc80, jzc80, jzc80, jzc84, jzc52, jzc52, jzc52, jzc52, jzc52, jzc52, jzc52, jzc93, jzc93, jzc52, jzc52, jzc98, jzc100, jzc93, jzc52, jzc52, jzc52, jzc52, jzc107, jzc109, jzc111, jzc100, jzc100, jzc100, jzc111, jzc111, jzc118, jzc160, jzc127, jzc129, jzc131, jzc159, jzc136, jzc138, jzc118, jzc138, jzc136, jzc145, jzc150, jzc155, jzc123]
set_option maxHeartbeats 4000000 in
set_option maxRecDepth 100000 in
theorem jzl246 (xs : Nat → Int32) (hop : xs 0 &&& 31 = 2)  : jRun ((4, xs) : jX) 2000 37 275 [.ref 66, .int 1] jzv257 = some (.inl none, jzv259) := by
  refine jr_run (e := jm275) rfl (Nat.le_of_ble_eq_true rfl) ?_
  refine jl_s (S' := ((1, [(0, .ref 66), (1, .int 1)], [.ref 66], jzv257) : jS)) rfl ?_
  refine jl_s (S' := ((4, [(0, .ref 66), (1, .int 1)], [.ref 81], jzv257) : jS)) rfl ?_
  refine jl_s (S' := ((5, [(0, .ref 66), (1, .int 1)], [.ref 66, .ref 81], jzv257) : jS)) rfl ?_
  refine jl_s (S' := ((8, [(0, .ref 66), (1, .int 1)], [.int 1, .ref 81], jzv257) : jS)) rfl ?_
  refine jl_s (S' := ((9, [(0, .ref 66), (1, .int 1)], [.int 1, .int 1, .ref 81], jzv257) : jS)) rfl ?_
  refine jl_s (S' := ((10, [(0, .ref 66), (1, .int 1)], [], jzv258) : jS)) rfl ?_
  refine jl_s (S' := ((11, [(0, .ref 66), (1, .int 1)], [.ref 66], jzv258) : jS)) rfl ?_
  refine jl_s (S' := ((12, [(0, .ref 66), (1, .int 1)], [.ref 66, .ref 66], jzv258) : jS)) rfl ?_
  refine jl_s (S' := ((15, [(0, .ref 66), (1, .int 1)], [.int 1, .ref 66], jzv258) : jS)) rfl ?_
  refine jl_s (S' := ((16, [(0, .ref 66), (1, .int 1)], [.int 1, .int 1, .ref 66], jzv258) : jS)) rfl ?_
  refine jl_s (S' := ((17, [(0, .ref 66), (1, .int 1)], [.int 2, .ref 66], jzv258) : jS)) rfl ?_
  refine jl_s (S' := ((20, [(0, .ref 66), (1, .int 1)], [], jzv259) : jS)) rfl ?_
  exact jl_r (r := (.inl none, jzv259)) rfl
set_option maxHeartbeats 4000000 in
set_option maxRecDepth 100000 in
theorem jzl247 (xs : Nat → Int32) (hop : xs 0 &&& 31 = 2)  : jRun ((4, xs) : jX) 2000 36 251 [.ref 66] jzv259 = some (.inl (some (.int 0)), jzv259) := by
  refine jr_run (e := jm251) rfl (Nat.le_of_ble_eq_true rfl) ?_
  refine jl_s (S' := ((1, [(0, .ref 66)], [.ref 66], jzv259) : jS)) rfl ?_
  refine jl_s (S' := ((4, [(0, .ref 66)], [.int 0], jzv259) : jS)) rfl ?_
  refine jl_s (S' := ((11, [(0, .ref 66)], [], jzv259) : jS)) rfl ?_
  refine jl_s (S' := ((12, [(0, .ref 66)], [.int 0], jzv259) : jS)) rfl ?_
  exact jl_r (r := (.inl (some (.int 0)), jzv259)) rfl
def jzc180 : jC := .inr (12, [.int 0, .ref 67, .int 0, .int 0, .ref 68, .ref 69, .ref 70, .ref 71, .ref 72, .int 0, .int 0, .int 0, .int 0, .int 0, .long 0, .int 0, .int 1, .int (-1), .int (-1), .int 2, .ref 73, .ref 74, .ref 75, .ref 76, .ref 77, .ref 78, .ref 79, .ref 80, .int 0, .int 2, .ref 81, .int 1, .ref 82, .ref 83, .ref 84, .ref 85, .ref 86, .ref 87, .ref 88, .ref 89, .ref 90, .ref 91, .ref 92, .ref 93, .ref 94, .ref 95, .int 0, .ref 96, .ref 97, .ref 98, .ref 99, .ref 100, .int 0, .ref 101, .ref 102, .ref 103, .ref 104, .ref 105, .int 0, .int 0, .int 0, .int 0, .int 0, .ref 106, .ref 107, .ref 108, .ref 109, .int 0, .int 0, .ref 110, .int 0, .ref 111, .ref 112, .ref 113, .ref 114, .ref 115, .ref 116, .int 0, .ref 117, .int 0, .ref 118, .int 0, .ref 119, .ref 120, .ref 121, .ref 122, .ref 123, .ref 124, .ref 125, .int 0, .ref 126, .ref 127, .ref 128, .ref 129, .ref 130, .ref 131, .ref 132, .ref 133, .ref 134, .ref 135, .ref 136, .ref 137, .ref 138, .ref 139, .ref 140, .ref 141, .ref 142, .ref 143, .ref 144, .ref 145, .int 0, .int 0, .ref 146, .int 0, .ref 147, .ref 148, .ref 149, .ref 150, .ref 151, .ref 152, .int 0, .int 0])
def jzv260 : jH := [jzc161, jzc2, jzc180, jzc7, jzc9, jzc9, jzc9, jzc9, jzc9, jzc173, jzc174, jzc175, jzc175, jzc175, jzc175, jzc175, jzc19, jzc178, jzc28, jzc28, jzc28, jzc28, jzc28, jzc28, jzc28, jzc28, jzc28, jzc28, jzc28, jzc28, jzc28, jzc28, jzc43, jzc43, jzc43, jzc43, jzc43, jzc49, jzc49, jzc168, jzc52, jzc52, jzc56, jzc56, jzc59, jzc56, jzc62, jzc28, jzc28, jzc28, jzc28, jzc28, jzc69, jzc71, jzc73, jzc43, jzc76, jzc52, jzc52, jzc80, jzc80, jzc80, jzc84, jzc52, jzc52, jzc52, jzc52, jzc52, jzc52, jzc52, jzc93, jzc93, jzc52, jzc52, jzc98, jzc100, jzc93, jzc52, jzc52, jzc52, jzc52, jzc107, jzc109, jzc111, jzc100, jzc100, jzc100, jzc111, jzc111, jzc118, jzc160, jzc127, jzc129, jzc131, jzc159, jzc136, jzc138, jzc118, jzc138, jzc136, jzc145, jzc150, jzc155, jzc123]
set_option maxHeartbeats 4000000 in
set_option maxRecDepth 100000 in
theorem jzl248 (xs : Nat → Int32) (hop : xs 0 &&& 31 = 2)  : jRun ((4, xs) : jX) 2000 36 250 [.ref 66, .int 1, .int (-1)] jzv259 = some (.inl none, jzv260) := by
  refine jr_run (e := jm250) rfl (Nat.le_of_ble_eq_true rfl) ?_
  refine jl_s (S' := ((1, [(0, .ref 66), (1, .int 1), (2, .int (-1))], [.ref 66], jzv259) : jS)) rfl ?_
  refine jl_s (S' := ((4, [(0, .ref 66), (1, .int 1), (2, .int (-1))], [.int 0], jzv259) : jS)) rfl ?_
  refine jl_s (S' := ((7, [(0, .ref 66), (1, .int 1), (2, .int (-1))], [], jzv259) : jS)) rfl ?_
  refine jl_s (S' := ((8, [(0, .ref 66), (1, .int 1), (2, .int (-1))], [.ref 66], jzv259) : jS)) rfl ?_
  refine jl_s (S' := ((9, [(0, .ref 66), (1, .int 1), (2, .int (-1))], [.int 1, .ref 66], jzv259) : jS)) rfl ?_
  refine jl_s (S' := ((12, [(0, .ref 66), (1, .int 1), (2, .int (-1))], [], jzv260) : jS)) rfl ?_
  refine jl_s (S' := ((13, [(0, .ref 66), (1, .int 1), (2, .int (-1))], [.ref 66], jzv260) : jS)) rfl ?_
  refine jl_s (S' := ((14, [(0, .ref 66), (1, .int 1), (2, .int (-1))], [.ref 66, .ref 66], jzv260) : jS)) rfl ?_
  refine jl_s (S' := ((17, [(0, .ref 66), (1, .int 1), (2, .int (-1))], [.int 0, .ref 66], jzv260) : jS)) rfl ?_
  refine jl_s (S' := ((18, [(0, .ref 66), (1, .int 1), (2, .int (-1))], [.ref 66, .int 0, .ref 66], jzv260) : jS)) rfl ?_
  refine jl_s (S' := ((21, [(0, .ref 66), (1, .int 1), (2, .int (-1))], [.int 0, .int 0, .ref 66], jzv260) : jS)) rfl ?_
  refine jl_s (S' := ((36, [(0, .ref 66), (1, .int 1), (2, .int (-1))], [.ref 66], jzv260) : jS)) rfl ?_
  refine jl_s (S' := ((37, [(0, .ref 66), (1, .int 1), (2, .int (-1))], [.int (-1), .ref 66], jzv260) : jS)) rfl ?_
  refine jl_s (S' := ((40, [(0, .ref 66), (1, .int 1), (2, .int (-1))], [], jzv260) : jS)) rfl ?_
  refine jl_s (S' := ((41, [(0, .ref 66), (1, .int 1), (2, .int (-1))], [.ref 66], jzv260) : jS)) rfl ?_
  refine jl_s (S' := ((42, [(0, .ref 66), (1, .int 1), (2, .int (-1))], [.ref 66, .ref 66], jzv260) : jS)) rfl ?_
  refine jl_s (S' := ((45, [(0, .ref 66), (1, .int 1), (2, .int (-1))], [.int 0, .ref 66], jzv260) : jS)) rfl ?_
  refine jl_s (S' := ((46, [(0, .ref 66), (1, .int 1), (2, .int (-1))], [.ref 66, .int 0, .ref 66], jzv260) : jS)) rfl ?_
  refine jl_s (S' := ((49, [(0, .ref 66), (1, .int 1), (2, .int (-1))], [.int 0, .int 0, .ref 66], jzv260) : jS)) rfl ?_
  refine jl_s (S' := ((56, [(0, .ref 66), (1, .int 1), (2, .int (-1))], [.ref 66], jzv260) : jS)) rfl ?_
  refine jl_s (S' := ((57, [(0, .ref 66), (1, .int 1), (2, .int (-1))], [.int (-1), .ref 66], jzv260) : jS)) rfl ?_
  refine jl_s (S' := ((60, [(0, .ref 66), (1, .int 1), (2, .int (-1))], [], jzv260) : jS)) rfl ?_
  exact jl_r (r := (.inl none, jzv260)) rfl
set_option maxHeartbeats 4000000 in
set_option maxRecDepth 100000 in
theorem jzl249 (xs : Nat → Int32) (hop : xs 0 &&& 31 = 2)  : jRun ((4, xs) : jX) 2000 36 251 [.ref 66] jzv260 = some (.inl (some (.int 1)), jzv260) := by
  refine jr_run (e := jm251) rfl (Nat.le_of_ble_eq_true rfl) ?_
  refine jl_s (S' := ((1, [(0, .ref 66)], [.ref 66], jzv260) : jS)) rfl ?_
  refine jl_s (S' := ((4, [(0, .ref 66)], [.int 1], jzv260) : jS)) rfl ?_
  refine jl_s (S' := ((7, [(0, .ref 66)], [], jzv260) : jS)) rfl ?_
  refine jl_s (S' := ((8, [(0, .ref 66)], [.int 1], jzv260) : jS)) rfl ?_
  refine jl_s (S' := ((12, [(0, .ref 66)], [.int 1], jzv260) : jS)) rfl ?_
  exact jl_r (r := (.inl (some (.int 1)), jzv260)) rfl
set_option maxHeartbeats 4000000 in
set_option maxRecDepth 100000 in
theorem jzl250 (xs : Nat → Int32) (hop : xs 0 &&& 31 = 2)  : jRun ((4, xs) : jX) 2000 37 272 [.ref 66, .int 0] jzv259 = some (.inl (some (.int 0)), jzv260) := by
  refine jr_run (e := jm272) rfl (Nat.le_of_ble_eq_true rfl) ?_
  refine jl_s (S' := ((1, [(0, .ref 66), (1, .int 0)], [.ref 66], jzv259) : jS)) rfl ?_
  refine jl_c (t := 251) (as := [.ref 66]) (V := jzv259) (r := (.inl (some (.int 0)), jzv259)) (S' := ((4, [(0, .ref 66), (1, .int 0)], [.int 0], jzv259) : jS)) rfl (jzl247 xs hop ) rfl ?_
  refine jl_s (S' := ((7, [(0, .ref 66), (1, .int 0)], [], jzv259) : jS)) rfl ?_
  refine jl_s (S' := ((8, [(0, .ref 66), (1, .int 0)], [.ref 66], jzv259) : jS)) rfl ?_
  refine jl_s (S' := ((11, [(0, .ref 66), (1, .int 0)], [.int 0], jzv259) : jS)) rfl ?_
  refine jl_s (S' := ((12, [(0, .ref 66), (1, .int 0)], [.ref 66, .int 0], jzv259) : jS)) rfl ?_
  refine jl_s (S' := ((15, [(0, .ref 66), (1, .int 0)], [.int 0, .int 0], jzv259) : jS)) rfl ?_
  refine jl_s (S' := ((31, [(0, .ref 66), (1, .int 0)], [], jzv259) : jS)) rfl ?_
  refine jl_s (S' := ((32, [(0, .ref 66), (1, .int 0)], [.ref 66], jzv259) : jS)) rfl ?_
  refine jl_s (S' := ((33, [(0, .ref 66), (1, .int 0)], [.int 1, .ref 66], jzv259) : jS)) rfl ?_
  refine jl_s (S' := ((34, [(0, .ref 66), (1, .int 0)], [.ref 66, .int 1, .ref 66], jzv259) : jS)) rfl ?_
  refine jl_s (S' := ((37, [(0, .ref 66), (1, .int 0)], [.int 0, .int 1, .ref 66], jzv259) : jS)) rfl ?_
  refine jl_s (S' := ((38, [(0, .ref 66), (1, .int 0)], [.ref 66, .int 0, .int 1, .ref 66], jzv259) : jS)) rfl ?_
  refine jl_s (S' := ((41, [(0, .ref 66), (1, .int 0)], [.int 0, .int 0, .int 1, .ref 66], jzv259) : jS)) rfl ?_
  refine jl_s (S' := ((66, [(0, .ref 66), (1, .int 0)], [.int 1, .ref 66], jzv259) : jS)) rfl ?_
  refine jl_s (S' := ((67, [(0, .ref 66), (1, .int 0)], [.int (-1), .int 1, .ref 66], jzv259) : jS)) rfl ?_
  refine jl_c (t := 250) (as := [.ref 66, .int 1, .int (-1)]) (V := jzv259) (r := (.inl none, jzv260)) (S' := ((70, [(0, .ref 66), (1, .int 0)], [], jzv260) : jS)) rfl (jzl248 xs hop ) rfl ?_
  refine jl_s (S' := ((71, [(0, .ref 66), (1, .int 0)], [.ref 66], jzv260) : jS)) rfl ?_
  refine jl_c (t := 251) (as := [.ref 66]) (V := jzv260) (r := (.inl (some (.int 1)), jzv260)) (S' := ((74, [(0, .ref 66), (1, .int 0)], [.int 1], jzv260) : jS)) rfl (jzl249 xs hop ) rfl ?_
  refine jl_s (S' := ((81, [(0, .ref 66), (1, .int 0)], [], jzv260) : jS)) rfl ?_
  refine jl_s (S' := ((82, [(0, .ref 66), (1, .int 0)], [.int 0], jzv260) : jS)) rfl ?_
  exact jl_r (r := (.inl (some (.int 0)), jzv260)) rfl
set_option maxHeartbeats 4000000 in
set_option maxRecDepth 100000 in
theorem jzl251 (xs : Nat → Int32) (hop : xs 0 &&& 31 = 2)  : jRun ((4, xs) : jX) 2000 37 251 [.ref 66] jzv260 = some (.inl (some (.int 1)), jzv260) := by
  refine jr_run (e := jm251) rfl (Nat.le_of_ble_eq_true rfl) ?_
  refine jl_s (S' := ((1, [(0, .ref 66)], [.ref 66], jzv260) : jS)) rfl ?_
  refine jl_s (S' := ((4, [(0, .ref 66)], [.int 1], jzv260) : jS)) rfl ?_
  refine jl_s (S' := ((7, [(0, .ref 66)], [], jzv260) : jS)) rfl ?_
  refine jl_s (S' := ((8, [(0, .ref 66)], [.int 1], jzv260) : jS)) rfl ?_
  refine jl_s (S' := ((12, [(0, .ref 66)], [.int 1], jzv260) : jS)) rfl ?_
  exact jl_r (r := (.inl (some (.int 1)), jzv260)) rfl
set_option maxHeartbeats 4000000 in
set_option maxRecDepth 100000 in
theorem jzl252 (xs : Nat → Int32) (hop : xs 0 &&& 31 = 2)  : jRun ((4, xs) : jX) 2000 38 312 [.ref 66] jzv239 = some (.inl none, jzv260) := by
  refine jr_run (e := jm312) rfl (Nat.le_of_ble_eq_true rfl) ?_
  refine jl_s (S' := ((1, [(0, .ref 66)], [.ref 66], jzv239) : jS)) rfl ?_
  refine jl_s (S' := ((4, [(0, .ref 66)], [.ref 27, .ref 66], jzv239) : jS)) rfl ?_
  refine jl_c (t := 261) (as := [.ref 27]) (V := jzv239) (r := (.inl (some (.long 1512718720)), jzv239)) (S' := ((7, [(0, .ref 66)], [.long 1512718720, .ref 66], jzv239) : jS)) rfl (jzl233 xs hop ) rfl ?_
  refine jl_s (S' := ((9, [(0, .ref 66)], [.int 12, .long 1512718720, .ref 66], jzv239) : jS)) rfl ?_
  refine jl_s (S' := ((10, [(0, .ref 66)], [.int 0, .int 12, .long 1512718720, .ref 66], jzv239) : jS)) rfl ?_
  refine jl_c (t := 277) (as := [.ref 66, .long 1512718720, .int 12, .int 0]) (V := jzv239) (r := (.inl (some (.int 0)), jzv247)) (S' := ((13, [(0, .ref 66)], [.int 0], jzv247) : jS)) rfl (jzl234 xs hop ) rfl ?_
  refine jl_s (S' := ((14, [(0, .ref 66)], [], jzv247) : jS)) rfl ?_
  refine jl_s (S' := ((15, [(0, .ref 66)], [.ref 66], jzv247) : jS)) rfl ?_
  refine jl_s (S' := ((18, [(0, .ref 66)], [.ref 28, .ref 66], jzv247) : jS)) rfl ?_
  refine jl_c (t := 261) (as := [.ref 28]) (V := jzv247) (r := (.inl (some (.long 611781)), jzv247)) (S' := ((21, [(0, .ref 66)], [.long 611781, .ref 66], jzv247) : jS)) rfl (jzl243 xs hop ) rfl ?_
  refine jl_s (S' := ((23, [(0, .ref 66)], [.int 13, .long 611781, .ref 66], jzv247) : jS)) rfl ?_
  refine jl_s (S' := ((24, [(0, .ref 66)], [.int 0, .int 13, .long 611781, .ref 66], jzv247) : jS)) rfl ?_
  refine jl_c (t := 277) (as := [.ref 66, .long 611781, .int 13, .int 0]) (V := jzv247) (r := (.inl (some (.int 1)), jzv255)) (S' := ((27, [(0, .ref 66)], [.int 1], jzv255) : jS)) rfl (jzl244 xs hop ) rfl ?_
  refine jl_s (S' := ((28, [(0, .ref 66)], [], jzv255) : jS)) rfl ?_
  refine jl_s (S' := ((29, [(0, .ref 66)], [.ref 66], jzv255) : jS)) rfl ?_
  refine jl_s (S' := ((30, [(0, .ref 66)], [.int 0, .ref 66], jzv255) : jS)) rfl ?_
  refine jl_c (t := 275) (as := [.ref 66, .int 0]) (V := jzv255) (r := (.inl none, jzv257)) (S' := ((33, [(0, .ref 66)], [], jzv257) : jS)) rfl (jzl245 xs hop ) rfl ?_
  refine jl_s (S' := ((34, [(0, .ref 66)], [.ref 66], jzv257) : jS)) rfl ?_
  refine jl_s (S' := ((35, [(0, .ref 66)], [.int 1, .ref 66], jzv257) : jS)) rfl ?_
  refine jl_c (t := 275) (as := [.ref 66, .int 1]) (V := jzv257) (r := (.inl none, jzv259)) (S' := ((38, [(0, .ref 66)], [], jzv259) : jS)) rfl (jzl246 xs hop ) rfl ?_
  refine jl_s (S' := ((39, [(0, .ref 66)], [.int 1], jzv259) : jS)) rfl ?_
  refine jl_s (S' := ((40, [(1, .int 1), (0, .ref 66)], [], jzv259) : jS)) rfl ?_
  refine jl_s (S' := ((41, [(1, .int 1), (0, .ref 66)], [.int 1], jzv259) : jS)) rfl ?_
  refine jl_s (S' := ((44, [(1, .int 1), (0, .ref 66)], [], jzv259) : jS)) rfl ?_
  refine jl_s (S' := ((45, [(1, .int 1), (0, .ref 66)], [.ref 66], jzv259) : jS)) rfl ?_
  refine jl_s (S' := ((46, [(1, .int 1), (0, .ref 66)], [.int 0, .ref 66], jzv259) : jS)) rfl ?_
  refine jl_c (t := 272) (as := [.ref 66, .int 0]) (V := jzv259) (r := (.inl (some (.int 0)), jzv260)) (S' := ((49, [(1, .int 1), (0, .ref 66)], [.int 0], jzv260) : jS)) rfl (jzl250 xs hop ) rfl ?_
  refine jl_s (S' := ((74, [(1, .int 1), (0, .ref 66)], [], jzv260) : jS)) rfl ?_
  refine jl_s (S' := ((75, [(1, .int 1), (0, .ref 66)], [.ref 66], jzv260) : jS)) rfl ?_
  refine jl_c (t := 251) (as := [.ref 66]) (V := jzv260) (r := (.inl (some (.int 1)), jzv260)) (S' := ((78, [(1, .int 1), (0, .ref 66)], [.int 1], jzv260) : jS)) rfl (jzl251 xs hop ) rfl ?_
  refine jl_s (S' := ((81, [(1, .int 1), (0, .ref 66)], [], jzv260) : jS)) rfl ?_
  exact jl_r (r := (.inl none, jzv260)) rfl
set_option maxHeartbeats 4000000 in
set_option maxRecDepth 100000 in
theorem jzl253 (xs : Nat → Int32) (hop : xs 0 &&& 31 = 2)  : jRun ((4, xs) : jX) 2000 38 251 [.ref 66] jzv260 = some (.inl (some (.int 1)), jzv260) := by
  refine jr_run (e := jm251) rfl (Nat.le_of_ble_eq_true rfl) ?_
  refine jl_s (S' := ((1, [(0, .ref 66)], [.ref 66], jzv260) : jS)) rfl ?_
  refine jl_s (S' := ((4, [(0, .ref 66)], [.int 1], jzv260) : jS)) rfl ?_
  refine jl_s (S' := ((7, [(0, .ref 66)], [], jzv260) : jS)) rfl ?_
  refine jl_s (S' := ((8, [(0, .ref 66)], [.int 1], jzv260) : jS)) rfl ?_
  refine jl_s (S' := ((12, [(0, .ref 66)], [.int 1], jzv260) : jS)) rfl ?_
  exact jl_r (r := (.inl (some (.int 1)), jzv260)) rfl
set_option maxHeartbeats 4000000 in
set_option maxRecDepth 100000 in
theorem jzl254 (xs : Nat → Int32) (hop : xs 0 &&& 31 = 2)  : jRun ((4, xs) : jX) 2000 38 251 [.ref 66] jzv260 = some (.inl (some (.int 1)), jzv260) := by
  refine jr_run (e := jm251) rfl (Nat.le_of_ble_eq_true rfl) ?_
  refine jl_s (S' := ((1, [(0, .ref 66)], [.ref 66], jzv260) : jS)) rfl ?_
  refine jl_s (S' := ((4, [(0, .ref 66)], [.int 1], jzv260) : jS)) rfl ?_
  refine jl_s (S' := ((7, [(0, .ref 66)], [], jzv260) : jS)) rfl ?_
  refine jl_s (S' := ((8, [(0, .ref 66)], [.int 1], jzv260) : jS)) rfl ?_
  refine jl_s (S' := ((12, [(0, .ref 66)], [.int 1], jzv260) : jS)) rfl ?_
  exact jl_r (r := (.inl (some (.int 1)), jzv260)) rfl
set_option maxHeartbeats 4000000 in
set_option maxRecDepth 100000 in
theorem jzl255 (xs : Nat → Int32) (hop : xs 0 &&& 31 = 2)  : jRun ((4, xs) : jX) 2000 38 251 [.ref 66] jzv260 = some (.inl (some (.int 1)), jzv260) := by
  refine jr_run (e := jm251) rfl (Nat.le_of_ble_eq_true rfl) ?_
  refine jl_s (S' := ((1, [(0, .ref 66)], [.ref 66], jzv260) : jS)) rfl ?_
  refine jl_s (S' := ((4, [(0, .ref 66)], [.int 1], jzv260) : jS)) rfl ?_
  refine jl_s (S' := ((7, [(0, .ref 66)], [], jzv260) : jS)) rfl ?_
  refine jl_s (S' := ((8, [(0, .ref 66)], [.int 1], jzv260) : jS)) rfl ?_
  refine jl_s (S' := ((12, [(0, .ref 66)], [.int 1], jzv260) : jS)) rfl ?_
  exact jl_r (r := (.inl (some (.int 1)), jzv260)) rfl
set_option maxHeartbeats 4000000 in
set_option maxRecDepth 100000 in
theorem jzl256 (xs : Nat → Int32) (hop : xs 0 &&& 31 = 2)  : jRun ((4, xs) : jX) 2000 38 251 [.ref 66] jzv260 = some (.inl (some (.int 1)), jzv260) := by
  refine jr_run (e := jm251) rfl (Nat.le_of_ble_eq_true rfl) ?_
  refine jl_s (S' := ((1, [(0, .ref 66)], [.ref 66], jzv260) : jS)) rfl ?_
  refine jl_s (S' := ((4, [(0, .ref 66)], [.int 1], jzv260) : jS)) rfl ?_
  refine jl_s (S' := ((7, [(0, .ref 66)], [], jzv260) : jS)) rfl ?_
  refine jl_s (S' := ((8, [(0, .ref 66)], [.int 1], jzv260) : jS)) rfl ?_
  refine jl_s (S' := ((12, [(0, .ref 66)], [.int 1], jzv260) : jS)) rfl ?_
  exact jl_r (r := (.inl (some (.int 1)), jzv260)) rfl
set_option maxHeartbeats 4000000 in
set_option maxRecDepth 100000 in
theorem jzl257 (xs : Nat → Int32) (hop : xs 0 &&& 31 = 2)  : jRun ((4, xs) : jX) 2000 39 366 [.ref 66] jzv232 = some (.inl (some (.int (-1))), jzv260) := by
  refine jr_run (e := jm366) rfl (Nat.le_of_ble_eq_true rfl) ?_
  refine jl_s (S' := ((1, [(0, .ref 66)], [.ref 66], jzv232) : jS)) rfl ?_
  refine jl_s (S' := ((2, [(0, .ref 66)], [.int 0, .ref 66], jzv232) : jS)) rfl ?_
  refine jl_s (S' := ((5, [(0, .ref 66)], [], jzv232) : jS)) rfl ?_
  refine jl_s (S' := ((6, [(0, .ref 66)], [.ref 66], jzv232) : jS)) rfl ?_
  refine jl_s (S' := ((7, [(0, .ref 66)], [.int 0, .ref 66], jzv232) : jS)) rfl ?_
  refine jl_s (S' := ((10, [(0, .ref 66)], [], jzv232) : jS)) rfl ?_
  refine jl_s (S' := ((11, [(0, .ref 66)], [.ref 66], jzv232) : jS)) rfl ?_
  refine jl_s (S' := ((12, [(0, .ref 66)], [.int (-1), .ref 66], jzv232) : jS)) rfl ?_
  refine jl_s (S' := ((15, [(0, .ref 66)], [], jzv232) : jS)) rfl ?_
  refine jl_s (S' := ((16, [(0, .ref 66)], [.ref 66], jzv232) : jS)) rfl ?_
  refine jl_s (S' := ((17, [(0, .ref 66)], [.int (-1), .ref 66], jzv232) : jS)) rfl ?_
  refine jl_s (S' := ((20, [(0, .ref 66)], [], jzv232) : jS)) rfl ?_
  refine jl_s (S' := ((21, [(0, .ref 66)], [.ref 66], jzv232) : jS)) rfl ?_
  refine jl_s (S' := ((22, [(0, .ref 66)], [.int 0, .ref 66], jzv232) : jS)) rfl ?_
  refine jl_s (S' := ((25, [(0, .ref 66)], [], jzv232) : jS)) rfl ?_
  refine jl_s (S' := ((26, [(0, .ref 66)], [.ref 66], jzv232) : jS)) rfl ?_
  refine jl_s (S' := ((27, [(0, .ref 66)], [.int 0, .ref 66], jzv232) : jS)) rfl ?_
  refine jl_s (S' := ((30, [(0, .ref 66)], [], jzv232) : jS)) rfl ?_
  refine jl_s (S' := ((31, [(0, .ref 66)], [.ref 66], jzv232) : jS)) rfl ?_
  refine jl_s (S' := ((32, [(0, .ref 66)], [.int 0, .ref 66], jzv232) : jS)) rfl ?_
  refine jl_s (S' := ((35, [(0, .ref 66)], [], jzv232) : jS)) rfl ?_
  refine jl_s (S' := ((36, [(0, .ref 66)], [.ref 66], jzv232) : jS)) rfl ?_
  refine jl_s (S' := ((37, [(0, .ref 66)], [.int 0, .ref 66], jzv232) : jS)) rfl ?_
  refine jl_s (S' := ((40, [(0, .ref 66)], [], jzv232) : jS)) rfl ?_
  refine jl_s (S' := ((41, [(0, .ref 66)], [.ref 66], jzv232) : jS)) rfl ?_
  refine jl_s (S' := ((42, [(0, .ref 66)], [.int 1, .ref 66], jzv232) : jS)) rfl ?_
  refine jl_s (S' := ((45, [(0, .ref 66)], [], jzv233) : jS)) rfl ?_
  refine jl_s (S' := ((46, [(0, .ref 66)], [.ref 66], jzv233) : jS)) rfl ?_
  refine jl_s (S' := ((47, [(0, .ref 66)], [.int 0, .ref 66], jzv233) : jS)) rfl ?_
  refine jl_s (S' := ((50, [(0, .ref 66)], [], jzv233) : jS)) rfl ?_
  refine jl_s (S' := ((51, [(0, .ref 66)], [.ref 66], jzv233) : jS)) rfl ?_
  refine jl_s (S' := ((52, [(0, .ref 66)], [.int 0, .ref 66], jzv233) : jS)) rfl ?_
  refine jl_s (S' := ((55, [(0, .ref 66)], [], jzv233) : jS)) rfl ?_
  refine jl_s (S' := ((56, [(0, .ref 66)], [.ref 66], jzv233) : jS)) rfl ?_
  refine jl_s (S' := ((57, [(0, .ref 66)], [.int 0, .ref 66], jzv233) : jS)) rfl ?_
  refine jl_s (S' := ((60, [(0, .ref 66)], [], jzv233) : jS)) rfl ?_
  refine jl_s (S' := ((61, [(0, .ref 66)], [.int 0], jzv233) : jS)) rfl ?_
  refine jl_s (S' := ((62, [(1, .int 0), (0, .ref 66)], [], jzv233) : jS)) rfl ?_
  refine jl_s (S' := ((63, [(1, .int 0), (0, .ref 66)], [.int 0], jzv233) : jS)) rfl ?_
  refine jl_s (S' := ((65, [(1, .int 0), (0, .ref 66)], [.int 6, .int 0], jzv233) : jS)) rfl ?_
  refine jl_s (S' := ((68, [(1, .int 0), (0, .ref 66)], [], jzv233) : jS)) rfl ?_
  refine jl_s (S' := ((69, [(1, .int 0), (0, .ref 66)], [.ref 66], jzv233) : jS)) rfl ?_
  refine jl_s (S' := ((72, [(1, .int 0), (0, .ref 66)], [.ref 103], jzv233) : jS)) rfl ?_
  refine jl_s (S' := ((73, [(1, .int 0), (0, .ref 66)], [.int 0, .ref 103], jzv233) : jS)) rfl ?_
  refine jl_s (S' := ((74, [(1, .int 0), (0, .ref 66)], [.int 0, .int 0, .ref 103], jzv233) : jS)) rfl ?_
  refine jl_s (S' := ((75, [(1, .int 0), (0, .ref 66)], [], jzv234) : jS)) rfl ?_
  refine jl_s (S' := ((78, [(1, .int 1), (0, .ref 66)], [], jzv234) : jS)) rfl ?_
  refine jl_s (S' := ((62, [(1, .int 1), (0, .ref 66)], [], jzv234) : jS)) rfl ?_
  refine jl_s (S' := ((63, [(1, .int 1), (0, .ref 66)], [.int 1], jzv234) : jS)) rfl ?_
  refine jl_s (S' := ((65, [(1, .int 1), (0, .ref 66)], [.int 6, .int 1], jzv234) : jS)) rfl ?_
  refine jl_s (S' := ((68, [(1, .int 1), (0, .ref 66)], [], jzv234) : jS)) rfl ?_
  refine jl_s (S' := ((69, [(1, .int 1), (0, .ref 66)], [.ref 66], jzv234) : jS)) rfl ?_
  refine jl_s (S' := ((72, [(1, .int 1), (0, .ref 66)], [.ref 103], jzv234) : jS)) rfl ?_
  refine jl_s (S' := ((73, [(1, .int 1), (0, .ref 66)], [.int 1, .ref 103], jzv234) : jS)) rfl ?_
  refine jl_s (S' := ((74, [(1, .int 1), (0, .ref 66)], [.int 0, .int 1, .ref 103], jzv234) : jS)) rfl ?_
  refine jl_s (S' := ((75, [(1, .int 1), (0, .ref 66)], [], jzv235) : jS)) rfl ?_
  refine jl_s (S' := ((78, [(1, .int 2), (0, .ref 66)], [], jzv235) : jS)) rfl ?_
  refine jl_s (S' := ((62, [(1, .int 2), (0, .ref 66)], [], jzv235) : jS)) rfl ?_
  refine jl_s (S' := ((63, [(1, .int 2), (0, .ref 66)], [.int 2], jzv235) : jS)) rfl ?_
  refine jl_s (S' := ((65, [(1, .int 2), (0, .ref 66)], [.int 6, .int 2], jzv235) : jS)) rfl ?_
  refine jl_s (S' := ((68, [(1, .int 2), (0, .ref 66)], [], jzv235) : jS)) rfl ?_
  refine jl_s (S' := ((69, [(1, .int 2), (0, .ref 66)], [.ref 66], jzv235) : jS)) rfl ?_
  refine jl_s (S' := ((72, [(1, .int 2), (0, .ref 66)], [.ref 103], jzv235) : jS)) rfl ?_
  refine jl_s (S' := ((73, [(1, .int 2), (0, .ref 66)], [.int 2, .ref 103], jzv235) : jS)) rfl ?_
  refine jl_s (S' := ((74, [(1, .int 2), (0, .ref 66)], [.int 0, .int 2, .ref 103], jzv235) : jS)) rfl ?_
  refine jl_s (S' := ((75, [(1, .int 2), (0, .ref 66)], [], jzv236) : jS)) rfl ?_
  refine jl_s (S' := ((78, [(1, .int 3), (0, .ref 66)], [], jzv236) : jS)) rfl ?_
  refine jl_s (S' := ((62, [(1, .int 3), (0, .ref 66)], [], jzv236) : jS)) rfl ?_
  refine jl_s (S' := ((63, [(1, .int 3), (0, .ref 66)], [.int 3], jzv236) : jS)) rfl ?_
  refine jl_s (S' := ((65, [(1, .int 3), (0, .ref 66)], [.int 6, .int 3], jzv236) : jS)) rfl ?_
  refine jl_s (S' := ((68, [(1, .int 3), (0, .ref 66)], [], jzv236) : jS)) rfl ?_
  refine jl_s (S' := ((69, [(1, .int 3), (0, .ref 66)], [.ref 66], jzv236) : jS)) rfl ?_
  refine jl_s (S' := ((72, [(1, .int 3), (0, .ref 66)], [.ref 103], jzv236) : jS)) rfl ?_
  refine jl_s (S' := ((73, [(1, .int 3), (0, .ref 66)], [.int 3, .ref 103], jzv236) : jS)) rfl ?_
  refine jl_s (S' := ((74, [(1, .int 3), (0, .ref 66)], [.int 0, .int 3, .ref 103], jzv236) : jS)) rfl ?_
  refine jl_s (S' := ((75, [(1, .int 3), (0, .ref 66)], [], jzv237) : jS)) rfl ?_
  refine jl_s (S' := ((78, [(1, .int 4), (0, .ref 66)], [], jzv237) : jS)) rfl ?_
  refine jl_s (S' := ((62, [(1, .int 4), (0, .ref 66)], [], jzv237) : jS)) rfl ?_
  refine jl_s (S' := ((63, [(1, .int 4), (0, .ref 66)], [.int 4], jzv237) : jS)) rfl ?_
  refine jl_s (S' := ((65, [(1, .int 4), (0, .ref 66)], [.int 6, .int 4], jzv237) : jS)) rfl ?_
  refine jl_s (S' := ((68, [(1, .int 4), (0, .ref 66)], [], jzv237) : jS)) rfl ?_
  refine jl_s (S' := ((69, [(1, .int 4), (0, .ref 66)], [.ref 66], jzv237) : jS)) rfl ?_
  refine jl_s (S' := ((72, [(1, .int 4), (0, .ref 66)], [.ref 103], jzv237) : jS)) rfl ?_
  refine jl_s (S' := ((73, [(1, .int 4), (0, .ref 66)], [.int 4, .ref 103], jzv237) : jS)) rfl ?_
  refine jl_s (S' := ((74, [(1, .int 4), (0, .ref 66)], [.int 0, .int 4, .ref 103], jzv237) : jS)) rfl ?_
  refine jl_s (S' := ((75, [(1, .int 4), (0, .ref 66)], [], jzv238) : jS)) rfl ?_
  refine jl_s (S' := ((78, [(1, .int 5), (0, .ref 66)], [], jzv238) : jS)) rfl ?_
  refine jl_s (S' := ((62, [(1, .int 5), (0, .ref 66)], [], jzv238) : jS)) rfl ?_
  refine jl_s (S' := ((63, [(1, .int 5), (0, .ref 66)], [.int 5], jzv238) : jS)) rfl ?_
  refine jl_s (S' := ((65, [(1, .int 5), (0, .ref 66)], [.int 6, .int 5], jzv238) : jS)) rfl ?_
  refine jl_s (S' := ((68, [(1, .int 5), (0, .ref 66)], [], jzv238) : jS)) rfl ?_
  refine jl_s (S' := ((69, [(1, .int 5), (0, .ref 66)], [.ref 66], jzv238) : jS)) rfl ?_
  refine jl_s (S' := ((72, [(1, .int 5), (0, .ref 66)], [.ref 103], jzv238) : jS)) rfl ?_
  refine jl_s (S' := ((73, [(1, .int 5), (0, .ref 66)], [.int 5, .ref 103], jzv238) : jS)) rfl ?_
  refine jl_s (S' := ((74, [(1, .int 5), (0, .ref 66)], [.int 0, .int 5, .ref 103], jzv238) : jS)) rfl ?_
  refine jl_s (S' := ((75, [(1, .int 5), (0, .ref 66)], [], jzv239) : jS)) rfl ?_
  refine jl_s (S' := ((78, [(1, .int 6), (0, .ref 66)], [], jzv239) : jS)) rfl ?_
  refine jl_s (S' := ((62, [(1, .int 6), (0, .ref 66)], [], jzv239) : jS)) rfl ?_
  refine jl_s (S' := ((63, [(1, .int 6), (0, .ref 66)], [.int 6], jzv239) : jS)) rfl ?_
  refine jl_s (S' := ((65, [(1, .int 6), (0, .ref 66)], [.int 6, .int 6], jzv239) : jS)) rfl ?_
  refine jl_s (S' := ((81, [(1, .int 6), (0, .ref 66)], [], jzv239) : jS)) rfl ?_
  refine jl_s (S' := ((82, [(1, .int 6), (0, .ref 66)], [.ref 66], jzv239) : jS)) rfl ?_
  refine jl_c (t := 252) (as := [.ref 66]) (V := jzv239) (r := (.inl none, jzv239)) (S' := ((85, [(1, .int 6), (0, .ref 66)], [], jzv239) : jS)) rfl (jzl220 xs hop ) rfl ?_
  refine jl_s (S' := ((86, [(1, .int 6), (0, .ref 66)], [.ref 66], jzv239) : jS)) rfl ?_
  refine jl_s (S' := ((87, [(1, .int 6), (0, .ref 66)], [.int 0, .ref 66], jzv239) : jS)) rfl ?_
  refine jl_s (S' := ((90, [(1, .int 6), (0, .ref 66)], [], jzv239) : jS)) rfl ?_
  refine jl_s (S' := ((91, [(1, .int 6), (0, .ref 66)], [.ref 66], jzv239) : jS)) rfl ?_
  refine jl_c (t := 312) (as := [.ref 66]) (V := jzv239) (r := (.inl none, jzv260)) (S' := ((94, [(1, .int 6), (0, .ref 66)], [], jzv260) : jS)) rfl (jzl252 xs hop ) rfl ?_
  refine jl_s (S' := ((95, [(1, .int 6), (0, .ref 66)], [.ref 66], jzv260) : jS)) rfl ?_
  refine jl_c (t := 251) (as := [.ref 66]) (V := jzv260) (r := (.inl (some (.int 1)), jzv260)) (S' := ((98, [(1, .int 6), (0, .ref 66)], [.int 1], jzv260) : jS)) rfl (jzl253 xs hop ) rfl ?_
  refine jl_s (S' := ((114, [(1, .int 6), (0, .ref 66)], [], jzv260) : jS)) rfl ?_
  refine jl_s (S' := ((115, [(1, .int 6), (0, .ref 66)], [.ref 66], jzv260) : jS)) rfl ?_
  refine jl_c (t := 251) (as := [.ref 66]) (V := jzv260) (r := (.inl (some (.int 1)), jzv260)) (S' := ((118, [(1, .int 6), (0, .ref 66)], [.int 1], jzv260) : jS)) rfl (jzl254 xs hop ) rfl ?_
  refine jl_s (S' := ((141, [(1, .int 6), (0, .ref 66)], [], jzv260) : jS)) rfl ?_
  refine jl_s (S' := ((142, [(1, .int 6), (0, .ref 66)], [.int 0], jzv260) : jS)) rfl ?_
  refine jl_s (S' := ((143, [(1, .int 0), (0, .ref 66)], [], jzv260) : jS)) rfl ?_
  refine jl_s (S' := ((144, [(1, .int 0), (0, .ref 66)], [.int 0], jzv260) : jS)) rfl ?_
  refine jl_s (S' := ((146, [(1, .int 0), (0, .ref 66)], [.int 6, .int 0], jzv260) : jS)) rfl ?_
  refine jl_s (S' := ((149, [(1, .int 0), (0, .ref 66)], [], jzv260) : jS)) rfl ?_
  refine jl_s (S' := ((150, [(1, .int 0), (0, .ref 66)], [.ref 66], jzv260) : jS)) rfl ?_
  refine jl_c (t := 251) (as := [.ref 66]) (V := jzv260) (r := (.inl (some (.int 1)), jzv260)) (S' := ((153, [(1, .int 0), (0, .ref 66)], [.int 1], jzv260) : jS)) rfl (jzl255 xs hop ) rfl ?_
  refine jl_s (S' := ((185, [(1, .int 0), (0, .ref 66)], [], jzv260) : jS)) rfl ?_
  refine jl_s (S' := ((186, [(1, .int 0), (0, .ref 66)], [.ref 66], jzv260) : jS)) rfl ?_
  refine jl_c (t := 251) (as := [.ref 66]) (V := jzv260) (r := (.inl (some (.int 1)), jzv260)) (S' := ((189, [(1, .int 0), (0, .ref 66)], [.int 1], jzv260) : jS)) rfl (jzl256 xs hop ) rfl ?_
  refine jl_s (S' := ((192, [(1, .int 0), (0, .ref 66)], [], jzv260) : jS)) rfl ?_
  refine jl_s (S' := ((193, [(1, .int 0), (0, .ref 66)], [.ref 66], jzv260) : jS)) rfl ?_
  refine jl_s (S' := ((194, [(1, .int 0), (0, .ref 66)], [.int 0, .ref 66], jzv260) : jS)) rfl ?_
  refine jl_s (S' := ((197, [(1, .int 0), (0, .ref 66)], [], jzv260) : jS)) rfl ?_
  refine jl_s (S' := ((198, [(1, .int 0), (0, .ref 66)], [.int (-1)], jzv260) : jS)) rfl ?_
  exact jl_r (r := (.inl (some (.int (-1))), jzv260)) rfl
set_option maxHeartbeats 4000000 in
set_option maxRecDepth 100000 in
theorem jzl258 (xs : Nat → Int32) (hop : xs 0 &&& 31 = 2)  : jLoop (jRun ((4, xs) : jX) 2000 39) ((4, xs) : jX) jm18 1000 ((23, [(4, .int 0), (3, .ref 153), (2, .ref 66), (1, .ref 64), (0, .ref 63)], [], jzv181) : jS) = some (.inl (some (.int 1)), jzv260) := by
  refine jl_s (S' := ((25, [(4, .int 0), (3, .ref 153), (2, .ref 66), (1, .ref 64), (0, .ref 63)], [.int 0], jzv181) : jS)) rfl ?_
  refine jl_s (S' := ((26, [(4, .int 0), (3, .ref 153), (2, .ref 66), (1, .ref 64), (0, .ref 63)], [.ref 63, .int 0], jzv181) : jS)) rfl ?_
  refine jl_s (S' := ((27, [(4, .int 0), (3, .ref 153), (2, .ref 66), (1, .ref 64), (0, .ref 63)], [.int 4, .int 0], jzv181) : jS)) rfl ?_
  refine jl_s (S' := ((28, [(4, .int 0), (3, .ref 153), (2, .ref 66), (1, .ref 64), (0, .ref 63)], [.int 4, .int 4, .int 0], jzv181) : jS)) rfl ?_
  refine jl_s (S' := ((29, [(4, .int 0), (3, .ref 153), (2, .ref 66), (1, .ref 64), (0, .ref 63)], [.int 0, .int 0], jzv181) : jS)) rfl ?_
  refine jl_s (S' := ((32, [(4, .int 0), (3, .ref 153), (2, .ref 66), (1, .ref 64), (0, .ref 63)], [], jzv181) : jS)) rfl ?_
  refine jl_s (S' := ((33, [(4, .int 0), (3, .ref 153), (2, .ref 66), (1, .ref 64), (0, .ref 63)], [.ref 63], jzv181) : jS)) rfl ?_
  refine jl_s (S' := ((35, [(4, .int 0), (3, .ref 153), (2, .ref 66), (1, .ref 64), (0, .ref 63)], [.int 0, .ref 63], jzv181) : jS)) rfl ?_
  refine jl_s (S' := ((36, [(4, .int 0), (3, .ref 153), (2, .ref 66), (1, .ref 64), (0, .ref 63)], [.int (xs 0)], jzv181) : jS)) rfl ?_
  refine jl_s (S' := ((38, [(4, .int 0), (3, .ref 153), (2, .ref 66), (1, .ref 64), (0, .ref 63)], [.int 31, .int (xs 0)], jzv181) : jS)) rfl ?_
  refine jl_s (S' := ((39, [(4, .int 0), (3, .ref 153), (2, .ref 66), (1, .ref 64), (0, .ref 63)], [.int ((xs 0) &&& 31)], jzv181) : jS)) rfl ?_
  rw [hop]
  refine jl_s (S' := ((220, [(4, .int 0), (3, .ref 153), (2, .ref 66), (1, .ref 64), (0, .ref 63)], [], jzv181) : jS)) rfl ?_
  refine jl_s (S' := ((221, [(4, .int 0), (3, .ref 153), (2, .ref 66), (1, .ref 64), (0, .ref 63)], [.ref 64], jzv181) : jS)) rfl ?_
  refine jl_c (t := 22) (as := [.ref 64]) (V := jzv181) (r := (.inl (some (.int (-1))), jzv232)) (S' := ((224, [(4, .int 0), (3, .ref 153), (2, .ref 66), (1, .ref 64), (0, .ref 63)], [.int (-1)], jzv232) : jS)) rfl (jzl219 xs hop ) rfl ?_
  refine jl_s (S' := ((225, [(4, .int 0), (3, .ref 153), (2, .ref 66), (1, .ref 64), (0, .ref 63)], [.ref 66, .int (-1)], jzv232) : jS)) rfl ?_
  refine jl_c (t := 366) (as := [.ref 66]) (V := jzv232) (r := (.inl (some (.int (-1))), jzv260)) (S' := ((228, [(4, .int 0), (3, .ref 153), (2, .ref 66), (1, .ref 64), (0, .ref 63)], [.int (-1), .int (-1)], jzv260) : jS)) rfl (jzl257 xs hop ) rfl ?_
  refine jl_s (S' := ((1193, [(4, .int 0), (3, .ref 153), (2, .ref 66), (1, .ref 64), (0, .ref 63)], [], jzv260) : jS)) rfl ?_
  refine jl_s (S' := ((1196, [(4, .int 4), (3, .ref 153), (2, .ref 66), (1, .ref 64), (0, .ref 63)], [], jzv260) : jS)) rfl ?_
  refine jl_s (S' := ((23, [(4, .int 4), (3, .ref 153), (2, .ref 66), (1, .ref 64), (0, .ref 63)], [], jzv260) : jS)) rfl ?_
  refine jl_s (S' := ((25, [(4, .int 4), (3, .ref 153), (2, .ref 66), (1, .ref 64), (0, .ref 63)], [.int 4], jzv260) : jS)) rfl ?_
  refine jl_s (S' := ((26, [(4, .int 4), (3, .ref 153), (2, .ref 66), (1, .ref 64), (0, .ref 63)], [.ref 63, .int 4], jzv260) : jS)) rfl ?_
  refine jl_s (S' := ((27, [(4, .int 4), (3, .ref 153), (2, .ref 66), (1, .ref 64), (0, .ref 63)], [.int 4, .int 4], jzv260) : jS)) rfl ?_
  refine jl_s (S' := ((28, [(4, .int 4), (3, .ref 153), (2, .ref 66), (1, .ref 64), (0, .ref 63)], [.int 4, .int 4, .int 4], jzv260) : jS)) rfl ?_
  refine jl_s (S' := ((29, [(4, .int 4), (3, .ref 153), (2, .ref 66), (1, .ref 64), (0, .ref 63)], [.int 0, .int 4], jzv260) : jS)) rfl ?_
  refine jl_s (S' := ((1199, [(4, .int 4), (3, .ref 153), (2, .ref 66), (1, .ref 64), (0, .ref 63)], [], jzv260) : jS)) rfl ?_
  refine jl_s (S' := ((1200, [(4, .int 4), (3, .ref 153), (2, .ref 66), (1, .ref 64), (0, .ref 63)], [.int 1], jzv260) : jS)) rfl ?_
  exact jl_r (r := (.inl (some (.int 1)), jzv260)) rfl
-- op 2 : jzl258
