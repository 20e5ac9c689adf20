set_option maxHeartbeats 4000000 in
set_option maxRecDepth 100000 in
theorem jzl504 (xs : Nat → Int32) (hop : xs 0 &&& 31 = 0) (b0 b1 b2 b3 : Int32) (e0 : ((Int32.toUInt32 (xs 1) >>> (Int32.toUInt32 0 &&& Int32.toUInt32 31)).toInt32) &&& 255 = b0) (e1 : ((Int32.toUInt32 (xs 1) >>> (Int32.toUInt32 8 &&& Int32.toUInt32 31)).toInt32) &&& 255 = b1) (e2 : ((Int32.toUInt32 (xs 1) >>> (Int32.toUInt32 16 &&& Int32.toUInt32 31)).toInt32) &&& 255 = b2) (e3 : ((Int32.toUInt32 (xs 1) >>> (Int32.toUInt32 24 &&& Int32.toUInt32 31)).toInt32) &&& 255 = b3) (g0 : ((xs 1) >>> (0 &&& 31)) &&& 255 = b0) (g1 : ((xs 1) >>> (8 &&& 31)) &&& 255 = b1) (g2 : ((xs 1) >>> (16 &&& 31)) &&& 255 = b2) (g3 : ((xs 1) >>> (24 &&& 31)) &&& 255 = b3) (h0 : jbz b0) (h1 : jbz b1) (h2 : jbz b2) (h3 : jbz b3) : jRun ((4, xs) : jX) 2000 39 0 [.ref 64, .int (xs 1), .ref 153] jzv181 = some (.inl (some (.int 0)), jzv184) := by
  refine jr_run (e := jm0) rfl (Nat.le_of_ble_eq_true rfl) ?_
  refine jl_s (S' := ((1, [(0, .ref 64), (1, .int (xs 1)), (2, .ref 153)], [.ref 153], jzv181) : jS)) rfl ?_
  refine jl_s (S' := ((2, [(0, .ref 64), (1, .int (xs 1)), (2, .ref 153)], [.int 0, .ref 153], jzv181) : jS)) rfl ?_
  refine jl_s (S' := ((3, [(0, .ref 64), (1, .int (xs 1)), (2, .ref 153)], [.ref 64, .int 0, .ref 153], jzv181) : jS)) rfl ?_
  refine jl_s (S' := ((4, [(0, .ref 64), (1, .int (xs 1)), (2, .ref 153)], [.int (xs 1), .ref 64, .int 0, .ref 153], jzv181) : jS)) rfl ?_
  refine jl_c (t := 20) (as := [.ref 64, .int (xs 1)]) (V := jzv181) (r := (.inl (some (.int 0)), jzv181)) (S' := ((7, [(0, .ref 64), (1, .int (xs 1)), (2, .ref 153)], [.int 0, .int 0, .ref 153], jzv181) : jS)) rfl (jzcp_ZZZZ xs b0 b1 b2 b3 e0 e1 e2 e3 h0 h1 h2 h3 ) rfl ?_
  refine jl_s (S' := ((8, [(0, .ref 64), (1, .int (xs 1)), (2, .ref 153)], [.long 0, .int 0, .ref 153], jzv181) : jS)) rfl ?_
  refine jl_s (S' := ((9, [(0, .ref 64), (1, .int (xs 1)), (2, .ref 153)], [], jzv184) : jS)) rfl ?_
  refine jl_s (S' := ((18, [(0, .ref 64), (1, .int (xs 1)), (2, .ref 153)], [], jzv184) : jS)) rfl ?_
  refine jl_s (S' := ((19, [(0, .ref 64), (1, .int (xs 1)), (2, .ref 153)], [.int 0], jzv184) : jS)) rfl ?_
  exact jl_r (r := (.inl (some (.int 0)), jzv184)) rfl
set_option maxHeartbeats 4000000 in
set_option maxRecDepth 100000 in
theorem jzq506 (xs : Nat → Int32) (b0 b1 b2 b3 : Int32) (V : jH) {f : Nat} {q : jO × jH} (hq : jLoop (jRun ((4, xs) : jX) 2000 38) ((4, xs) : jX) jm248 f ((7, [(4, .int 0), (3, .int 0), (2, .int 0), (0, .ref 66), (1, .int (xs 1))], [], V) : jS) = some q) : jLoop (jRun ((4, xs) : jX) 2000 38) ((4, xs) : jX) jm248 (f + 6) ((0, [(0, .ref 66), (1, .int (xs 1))], [], V) : jS) = some q := by
  refine jl_s (S' := ((1, [(0, .ref 66), (1, .int (xs 1))], [.int 0], V) : jS)) rfl ?_
  refine jl_s (S' := ((2, [(2, .int 0), (0, .ref 66), (1, .int (xs 1))], [], V) : jS)) rfl ?_
  refine jl_s (S' := ((3, [(2, .int 0), (0, .ref 66), (1, .int (xs 1))], [.int 0], V) : jS)) rfl ?_
  refine jl_s (S' := ((4, [(3, .int 0), (2, .int 0), (0, .ref 66), (1, .int (xs 1))], [], V) : jS)) rfl ?_
  refine jl_s (S' := ((5, [(3, .int 0), (2, .int 0), (0, .ref 66), (1, .int (xs 1))], [.int 0], V) : jS)) rfl ?_
  refine jl_s (S' := ((7, [(4, .int 0), (3, .int 0), (2, .int 0), (0, .ref 66), (1, .int (xs 1))], [], V) : jS)) rfl ?_
  exact hq
set_option maxHeartbeats 4000000 in
set_option maxRecDepth 100000 in
theorem jzq508 (xs : Nat → Int32) (b0 b1 b2 b3 : Int32) (V : jH) (e : ((xs 1) >>> (0 &&& 31)) &&& 255 = b0) (h : jbz b0) {f : Nat} {q : jO × jH} (hq : jLoop (jRun ((4, xs) : jX) 2000 38) ((4, xs) : jX) jm248 f ((7, [(4, .int 8), (3, .int 0), (2, .int 0), (5, .int (b0)), (0, .ref 66), (1, .int (xs 1))], [], V) : jS) = some q) : jLoop (jRun ((4, xs) : jX) 2000 38) ((4, xs) : jX) jm248 (f + 21) ((7, [(4, .int 0), (3, .int 0), (2, .int 0), (0, .ref 66), (1, .int (xs 1))], [], V) : jS) = some q := by
  refine jl_s (S' := ((9, [(4, .int 0), (3, .int 0), (2, .int 0), (0, .ref 66), (1, .int (xs 1))], [.int 0], V) : jS)) rfl ?_
  refine jl_s (S' := ((11, [(4, .int 0), (3, .int 0), (2, .int 0), (0, .ref 66), (1, .int (xs 1))], [.int 32, .int 0], V) : jS)) rfl ?_
  refine jl_s (S' := ((14, [(4, .int 0), (3, .int 0), (2, .int 0), (0, .ref 66), (1, .int (xs 1))], [], V) : jS)) rfl ?_
  refine jl_s (S' := ((15, [(4, .int 0), (3, .int 0), (2, .int 0), (0, .ref 66), (1, .int (xs 1))], [.int (xs 1)], V) : jS)) rfl ?_
  refine jl_s (S' := ((17, [(4, .int 0), (3, .int 0), (2, .int 0), (0, .ref 66), (1, .int (xs 1))], [.int 0, .int (xs 1)], V) : jS)) rfl ?_
  refine jl_s (S' := ((18, [(4, .int 0), (3, .int 0), (2, .int 0), (0, .ref 66), (1, .int (xs 1))], [.int ((xs 1) >>> (0 &&& 31))], V) : jS)) rfl ?_
  refine jl_s (S' := ((21, [(4, .int 0), (3, .int 0), (2, .int 0), (0, .ref 66), (1, .int (xs 1))], [.int 255, .int ((xs 1) >>> (0 &&& 31))], V) : jS)) rfl ?_
  refine jl_s (S' := ((22, [(4, .int 0), (3, .int 0), (2, .int 0), (0, .ref 66), (1, .int (xs 1))], [.int (((xs 1) >>> (0 &&& 31)) &&& 255)], V) : jS)) rfl ?_
  rw [e]
  refine jl_s (S' := ((24, [(5, .int (b0)), (4, .int 0), (3, .int 0), (2, .int 0), (0, .ref 66), (1, .int (xs 1))], [], V) : jS)) rfl ?_
  refine jl_s (S' := ((25, [(5, .int (b0)), (4, .int 0), (3, .int 0), (2, .int 0), (0, .ref 66), (1, .int (xs 1))], [.int 0], V) : jS)) rfl ?_
  refine jl_s (S' := ((28, [(5, .int (b0)), (4, .int 0), (3, .int 0), (2, .int 0), (0, .ref 66), (1, .int (xs 1))], [], V) : jS)) rfl ?_
  refine jl_s (S' := ((30, [(5, .int (b0)), (4, .int 0), (3, .int 0), (2, .int 0), (0, .ref 66), (1, .int (xs 1))], [.int (b0)], V) : jS)) rfl ?_
  refine jl_ift (e := jm248) (o := 15) rfl (h.1) (t := 45) rfl ?_
  refine jl_s (S' := ((46, [(5, .int (b0)), (4, .int 0), (3, .int 0), (2, .int 0), (0, .ref 66), (1, .int (xs 1))], [.int 0], V) : jS)) rfl ?_
  refine jl_s (S' := ((47, [(2, .int 0), (5, .int (b0)), (4, .int 0), (3, .int 0), (0, .ref 66), (1, .int (xs 1))], [], V) : jS)) rfl ?_
  refine jl_s (S' := ((49, [(2, .int 0), (5, .int (b0)), (4, .int 0), (3, .int 0), (0, .ref 66), (1, .int (xs 1))], [.int (b0)], V) : jS)) rfl ?_
  refine jl_ift (e := jm248) (o := 9) rfl (h.1) (t := 58) rfl ?_
  refine jl_s (S' := ((59, [(2, .int 0), (5, .int (b0)), (4, .int 0), (3, .int 0), (0, .ref 66), (1, .int (xs 1))], [.int 0], V) : jS)) rfl ?_
  refine jl_s (S' := ((60, [(3, .int 0), (2, .int 0), (5, .int (b0)), (4, .int 0), (0, .ref 66), (1, .int (xs 1))], [], V) : jS)) rfl ?_
  refine jl_s (S' := ((63, [(4, .int 8), (3, .int 0), (2, .int 0), (5, .int (b0)), (0, .ref 66), (1, .int (xs 1))], [], V) : jS)) rfl ?_
  refine jl_s (S' := ((7, [(4, .int 8), (3, .int 0), (2, .int 0), (5, .int (b0)), (0, .ref 66), (1, .int (xs 1))], [], V) : jS)) rfl ?_
  exact hq
set_option maxHeartbeats 4000000 in
set_option maxRecDepth 100000 in
theorem jzq510 (xs : Nat → Int32) (b0 b1 b2 b3 : Int32) (V : jH) (e : ((xs 1) >>> (8 &&& 31)) &&& 255 = b1) (h : jbz b1) {f : Nat} {q : jO × jH} (hq : jLoop (jRun ((4, xs) : jX) 2000 38) ((4, xs) : jX) jm248 f ((7, [(4, .int 16), (3, .int 0), (2, .int 0), (5, .int (b1)), (0, .ref 66), (1, .int (xs 1))], [], V) : jS) = some q) : jLoop (jRun ((4, xs) : jX) 2000 38) ((4, xs) : jX) jm248 (f + 21) ((7, [(4, .int 8), (3, .int 0), (2, .int 0), (5, .int (b0)), (0, .ref 66), (1, .int (xs 1))], [], V) : jS) = some q := by
  refine jl_s (S' := ((9, [(4, .int 8), (3, .int 0), (2, .int 0), (5, .int (b0)), (0, .ref 66), (1, .int (xs 1))], [.int 8], V) : jS)) rfl ?_
  refine jl_s (S' := ((11, [(4, .int 8), (3, .int 0), (2, .int 0), (5, .int (b0)), (0, .ref 66), (1, .int (xs 1))], [.int 32, .int 8], V) : jS)) rfl ?_
  refine jl_s (S' := ((14, [(4, .int 8), (3, .int 0), (2, .int 0), (5, .int (b0)), (0, .ref 66), (1, .int (xs 1))], [], V) : jS)) rfl ?_
  refine jl_s (S' := ((15, [(4, .int 8), (3, .int 0), (2, .int 0), (5, .int (b0)), (0, .ref 66), (1, .int (xs 1))], [.int (xs 1)], V) : jS)) rfl ?_
  refine jl_s (S' := ((17, [(4, .int 8), (3, .int 0), (2, .int 0), (5, .int (b0)), (0, .ref 66), (1, .int (xs 1))], [.int 8, .int (xs 1)], V) : jS)) rfl ?_
  refine jl_s (S' := ((18, [(4, .int 8), (3, .int 0), (2, .int 0), (5, .int (b0)), (0, .ref 66), (1, .int (xs 1))], [.int ((xs 1) >>> (8 &&& 31))], V) : jS)) rfl ?_
  refine jl_s (S' := ((21, [(4, .int 8), (3, .int 0), (2, .int 0), (5, .int (b0)), (0, .ref 66), (1, .int (xs 1))], [.int 255, .int ((xs 1) >>> (8 &&& 31))], V) : jS)) rfl ?_
  refine jl_s (S' := ((22, [(4, .int 8), (3, .int 0), (2, .int 0), (5, .int (b0)), (0, .ref 66), (1, .int (xs 1))], [.int (((xs 1) >>> (8 &&& 31)) &&& 255)], V) : jS)) rfl ?_
  rw [e]
  refine jl_s (S' := ((24, [(5, .int (b1)), (4, .int 8), (3, .int 0), (2, .int 0), (0, .ref 66), (1, .int (xs 1))], [], V) : jS)) rfl ?_
  refine jl_s (S' := ((25, [(5, .int (b1)), (4, .int 8), (3, .int 0), (2, .int 0), (0, .ref 66), (1, .int (xs 1))], [.int 0], V) : jS)) rfl ?_
  refine jl_s (S' := ((28, [(5, .int (b1)), (4, .int 8), (3, .int 0), (2, .int 0), (0, .ref 66), (1, .int (xs 1))], [], V) : jS)) rfl ?_
  refine jl_s (S' := ((30, [(5, .int (b1)), (4, .int 8), (3, .int 0), (2, .int 0), (0, .ref 66), (1, .int (xs 1))], [.int (b1)], V) : jS)) rfl ?_
  refine jl_ift (e := jm248) (o := 15) rfl (h.1) (t := 45) rfl ?_
  refine jl_s (S' := ((46, [(5, .int (b1)), (4, .int 8), (3, .int 0), (2, .int 0), (0, .ref 66), (1, .int (xs 1))], [.int 0], V) : jS)) rfl ?_
  refine jl_s (S' := ((47, [(2, .int 0), (5, .int (b1)), (4, .int 8), (3, .int 0), (0, .ref 66), (1, .int (xs 1))], [], V) : jS)) rfl ?_
  refine jl_s (S' := ((49, [(2, .int 0), (5, .int (b1)), (4, .int 8), (3, .int 0), (0, .ref 66), (1, .int (xs 1))], [.int (b1)], V) : jS)) rfl ?_
  refine jl_ift (e := jm248) (o := 9) rfl (h.1) (t := 58) rfl ?_
  refine jl_s (S' := ((59, [(2, .int 0), (5, .int (b1)), (4, .int 8), (3, .int 0), (0, .ref 66), (1, .int (xs 1))], [.int 0], V) : jS)) rfl ?_
  refine jl_s (S' := ((60, [(3, .int 0), (2, .int 0), (5, .int (b1)), (4, .int 8), (0, .ref 66), (1, .int (xs 1))], [], V) : jS)) rfl ?_
  refine jl_s (S' := ((63, [(4, .int 16), (3, .int 0), (2, .int 0), (5, .int (b1)), (0, .ref 66), (1, .int (xs 1))], [], V) : jS)) rfl ?_
  refine jl_s (S' := ((7, [(4, .int 16), (3, .int 0), (2, .int 0), (5, .int (b1)), (0, .ref 66), (1, .int (xs 1))], [], V) : jS)) rfl ?_
  exact hq
set_option maxHeartbeats 4000000 in
set_option maxRecDepth 100000 in
theorem jzq512 (xs : Nat → Int32) (b0 b1 b2 b3 : Int32) (V : jH) (e : ((xs 1) >>> (16 &&& 31)) &&& 255 = b2) (h : jbz b2) {f : Nat} {q : jO × jH} (hq : jLoop (jRun ((4, xs) : jX) 2000 38) ((4, xs) : jX) jm248 f ((7, [(4, .int 24), (3, .int 0), (2, .int 0), (5, .int (b2)), (0, .ref 66), (1, .int (xs 1))], [], V) : jS) = some q) : jLoop (jRun ((4, xs) : jX) 2000 38) ((4, xs) : jX) jm248 (f + 21) ((7, [(4, .int 16), (3, .int 0), (2, .int 0), (5, .int (b1)), (0, .ref 66), (1, .int (xs 1))], [], V) : jS) = some q := by
  refine jl_s (S' := ((9, [(4, .int 16), (3, .int 0), (2, .int 0), (5, .int (b1)), (0, .ref 66), (1, .int (xs 1))], [.int 16], V) : jS)) rfl ?_
  refine jl_s (S' := ((11, [(4, .int 16), (3, .int 0), (2, .int 0), (5, .int (b1)), (0, .ref 66), (1, .int (xs 1))], [.int 32, .int 16], V) : jS)) rfl ?_
  refine jl_s (S' := ((14, [(4, .int 16), (3, .int 0), (2, .int 0), (5, .int (b1)), (0, .ref 66), (1, .int (xs 1))], [], V) : jS)) rfl ?_
  refine jl_s (S' := ((15, [(4, .int 16), (3, .int 0), (2, .int 0), (5, .int (b1)), (0, .ref 66), (1, .int (xs 1))], [.int (xs 1)], V) : jS)) rfl ?_
  refine jl_s (S' := ((17, [(4, .int 16), (3, .int 0), (2, .int 0), (5, .int (b1)), (0, .ref 66), (1, .int (xs 1))], [.int 16, .int (xs 1)], V) : jS)) rfl ?_
  refine jl_s (S' := ((18, [(4, .int 16), (3, .int 0), (2, .int 0), (5, .int (b1)), (0, .ref 66), (1, .int (xs 1))], [.int ((xs 1) >>> (16 &&& 31))], V) : jS)) rfl ?_
  refine jl_s (S' := ((21, [(4, .int 16), (3, .int 0), (2, .int 0), (5, .int (b1)), (0, .ref 66), (1, .int (xs 1))], [.int 255, .int ((xs 1) >>> (16 &&& 31))], V) : jS)) rfl ?_
  refine jl_s (S' := ((22, [(4, .int 16), (3, .int 0), (2, .int 0), (5, .int (b1)), (0, .ref 66), (1, .int (xs 1))], [.int (((xs 1) >>> (16 &&& 31)) &&& 255)], V) : jS)) rfl ?_
  rw [e]
  refine jl_s (S' := ((24, [(5, .int (b2)), (4, .int 16), (3, .int 0), (2, .int 0), (0, .ref 66), (1, .int (xs 1))], [], V) : jS)) rfl ?_
  refine jl_s (S' := ((25, [(5, .int (b2)), (4, .int 16), (3, .int 0), (2, .int 0), (0, .ref 66), (1, .int (xs 1))], [.int 0], V) : jS)) rfl ?_
  refine jl_s (S' := ((28, [(5, .int (b2)), (4, .int 16), (3, .int 0), (2, .int 0), (0, .ref 66), (1, .int (xs 1))], [], V) : jS)) rfl ?_
  refine jl_s (S' := ((30, [(5, .int (b2)), (4, .int 16), (3, .int 0), (2, .int 0), (0, .ref 66), (1, .int (xs 1))], [.int (b2)], V) : jS)) rfl ?_
  refine jl_ift (e := jm248) (o := 15) rfl (h.1) (t := 45) rfl ?_
  refine jl_s (S' := ((46, [(5, .int (b2)), (4, .int 16), (3, .int 0), (2, .int 0), (0, .ref 66), (1, .int (xs 1))], [.int 0], V) : jS)) rfl ?_
  refine jl_s (S' := ((47, [(2, .int 0), (5, .int (b2)), (4, .int 16), (3, .int 0), (0, .ref 66), (1, .int (xs 1))], [], V) : jS)) rfl ?_
  refine jl_s (S' := ((49, [(2, .int 0), (5, .int (b2)), (4, .int 16), (3, .int 0), (0, .ref 66), (1, .int (xs 1))], [.int (b2)], V) : jS)) rfl ?_
  refine jl_ift (e := jm248) (o := 9) rfl (h.1) (t := 58) rfl ?_
  refine jl_s (S' := ((59, [(2, .int 0), (5, .int (b2)), (4, .int 16), (3, .int 0), (0, .ref 66), (1, .int (xs 1))], [.int 0], V) : jS)) rfl ?_
  refine jl_s (S' := ((60, [(3, .int 0), (2, .int 0), (5, .int (b2)), (4, .int 16), (0, .ref 66), (1, .int (xs 1))], [], V) : jS)) rfl ?_
  refine jl_s (S' := ((63, [(4, .int 24), (3, .int 0), (2, .int 0), (5, .int (b2)), (0, .ref 66), (1, .int (xs 1))], [], V) : jS)) rfl ?_
  refine jl_s (S' := ((7, [(4, .int 24), (3, .int 0), (2, .int 0), (5, .int (b2)), (0, .ref 66), (1, .int (xs 1))], [], V) : jS)) rfl ?_
  exact hq
set_option maxHeartbeats 4000000 in
set_option maxRecDepth 100000 in
theorem jzq514 (xs : Nat → Int32) (b0 b1 b2 b3 : Int32) (V : jH) (e : ((xs 1) >>> (24 &&& 31)) &&& 255 = b3) (h : jbz b3) {f : Nat} {q : jO × jH} (hq : jLoop (jRun ((4, xs) : jX) 2000 38) ((4, xs) : jX) jm248 f ((7, [(4, .int 32), (3, .int 0), (2, .int 0), (5, .int (b3)), (0, .ref 66), (1, .int (xs 1))], [], V) : jS) = some q) : jLoop (jRun ((4, xs) : jX) 2000 38) ((4, xs) : jX) jm248 (f + 21) ((7, [(4, .int 24), (3, .int 0), (2, .int 0), (5, .int (b2)), (0, .ref 66), (1, .int (xs 1))], [], V) : jS) = some q := by
  refine jl_s (S' := ((9, [(4, .int 24), (3, .int 0), (2, .int 0), (5, .int (b2)), (0, .ref 66), (1, .int (xs 1))], [.int 24], V) : jS)) rfl ?_
  refine jl_s (S' := ((11, [(4, .int 24), (3, .int 0), (2, .int 0), (5, .int (b2)), (0, .ref 66), (1, .int (xs 1))], [.int 32, .int 24], V) : jS)) rfl ?_
  refine jl_s (S' := ((14, [(4, .int 24), (3, .int 0), (2, .int 0), (5, .int (b2)), (0, .ref 66), (1, .int (xs 1))], [], V) : jS)) rfl ?_
  refine jl_s (S' := ((15, [(4, .int 24), (3, .int 0), (2, .int 0), (5, .int (b2)), (0, .ref 66), (1, .int (xs 1))], [.int (xs 1)], V) : jS)) rfl ?_
  refine jl_s (S' := ((17, [(4, .int 24), (3, .int 0), (2, .int 0), (5, .int (b2)), (0, .ref 66), (1, .int (xs 1))], [.int 24, .int (xs 1)], V) : jS)) rfl ?_
  refine jl_s (S' := ((18, [(4, .int 24), (3, .int 0), (2, .int 0), (5, .int (b2)), (0, .ref 66), (1, .int (xs 1))], [.int ((xs 1) >>> (24 &&& 31))], V) : jS)) rfl ?_
  refine jl_s (S' := ((21, [(4, .int 24), (3, .int 0), (2, .int 0), (5, .int (b2)), (0, .ref 66), (1, .int (xs 1))], [.int 255, .int ((xs 1) >>> (24 &&& 31))], V) : jS)) rfl ?_
  refine jl_s (S' := ((22, [(4, .int 24), (3, .int 0), (2, .int 0), (5, .int (b2)), (0, .ref 66), (1, .int (xs 1))], [.int (((xs 1) >>> (24 &&& 31)) &&& 255)], V) : jS)) rfl ?_
  rw [e]
  refine jl_s (S' := ((24, [(5, .int (b3)), (4, .int 24), (3, .int 0), (2, .int 0), (0, .ref 66), (1, .int (xs 1))], [], V) : jS)) rfl ?_
  refine jl_s (S' := ((25, [(5, .int (b3)), (4, .int 24), (3, .int 0), (2, .int 0), (0, .ref 66), (1, .int (xs 1))], [.int 0], V) : jS)) rfl ?_
  refine jl_s (S' := ((28, [(5, .int (b3)), (4, .int 24), (3, .int 0), (2, .int 0), (0, .ref 66), (1, .int (xs 1))], [], V) : jS)) rfl ?_
  refine jl_s (S' := ((30, [(5, .int (b3)), (4, .int 24), (3, .int 0), (2, .int 0), (0, .ref 66), (1, .int (xs 1))], [.int (b3)], V) : jS)) rfl ?_
  refine jl_ift (e := jm248) (o := 15) rfl (h.1) (t := 45) rfl ?_
  refine jl_s (S' := ((46, [(5, .int (b3)), (4, .int 24), (3, .int 0), (2, .int 0), (0, .ref 66), (1, .int (xs 1))], [.int 0], V) : jS)) rfl ?_
  refine jl_s (S' := ((47, [(2, .int 0), (5, .int (b3)), (4, .int 24), (3, .int 0), (0, .ref 66), (1, .int (xs 1))], [], V) : jS)) rfl ?_
  refine jl_s (S' := ((49, [(2, .int 0), (5, .int (b3)), (4, .int 24), (3, .int 0), (0, .ref 66), (1, .int (xs 1))], [.int (b3)], V) : jS)) rfl ?_
  refine jl_ift (e := jm248) (o := 9) rfl (h.1) (t := 58) rfl ?_
  refine jl_s (S' := ((59, [(2, .int 0), (5, .int (b3)), (4, .int 24), (3, .int 0), (0, .ref 66), (1, .int (xs 1))], [.int 0], V) : jS)) rfl ?_
  refine jl_s (S' := ((60, [(3, .int 0), (2, .int 0), (5, .int (b3)), (4, .int 24), (0, .ref 66), (1, .int (xs 1))], [], V) : jS)) rfl ?_
  refine jl_s (S' := ((63, [(4, .int 32), (3, .int 0), (2, .int 0), (5, .int (b3)), (0, .ref 66), (1, .int (xs 1))], [], V) : jS)) rfl ?_
  refine jl_s (S' := ((7, [(4, .int 32), (3, .int 0), (2, .int 0), (5, .int (b3)), (0, .ref 66), (1, .int (xs 1))], [], V) : jS)) rfl ?_
  exact hq
set_option maxHeartbeats 4000000 in
set_option maxRecDepth 100000 in
theorem jzl515 (xs : Nat → Int32) (b0 b1 b2 b3 : Int32) : jRun ((4, xs) : jX) 2000 38 245 [.ref 66, .int 0, .int 0, .int 0] jzv184 = some (.inl (some (.int 0)), jzv184) := by
  refine jr_run (e := jm245) rfl (Nat.le_of_ble_eq_true rfl) ?_
  refine jl_s (S' := ((1, [(0, .ref 66), (1, .int 0), (2, .int 0), (3, .int 0)], [.ref 66], jzv184) : jS)) rfl ?_
  refine jl_s (S' := ((2, [(0, .ref 66), (1, .int 0), (2, .int 0), (3, .int 0)], [.int 0, .ref 66], jzv184) : jS)) rfl ?_
  refine jl_s (S' := ((9, [(0, .ref 66), (1, .int 0), (2, .int 0), (3, .int 0)], [.ref 66], jzv184) : jS)) rfl ?_
  refine jl_s (S' := ((10, [(0, .ref 66), (1, .int 0), (2, .int 0), (3, .int 0)], [.int 0, .ref 66], jzv184) : jS)) rfl ?_
  refine jl_s (S' := ((17, [(0, .ref 66), (1, .int 0), (2, .int 0), (3, .int 0)], [.ref 66], jzv184) : jS)) rfl ?_
  refine jl_s (S' := ((18, [(0, .ref 66), (1, .int 0), (2, .int 0), (3, .int 0)], [.int 0, .ref 66], jzv184) : jS)) rfl ?_
  refine jl_s (S' := ((25, [(0, .ref 66), (1, .int 0), (2, .int 0), (3, .int 0)], [.ref 66], jzv184) : jS)) rfl ?_
  refine jl_s (S' := ((26, [(0, .ref 66), (1, .int 0), (2, .int 0), (3, .int 0)], [.int 0, .ref 66], jzv184) : jS)) rfl ?_
  refine jl_s (S' := ((29, [(0, .ref 66), (1, .int 0), (2, .int 0), (3, .int 0)], [], jzv184) : jS)) rfl ?_
  refine jl_s (S' := ((30, [(0, .ref 66), (1, .int 0), (2, .int 0), (3, .int 0)], [.ref 66], jzv184) : jS)) rfl ?_
  refine jl_s (S' := ((33, [(0, .ref 66), (1, .int 0), (2, .int 0), (3, .int 0)], [.int 0], jzv184) : jS)) rfl ?_
  refine jl_s (S' := ((40, [(0, .ref 66), (1, .int 0), (2, .int 0), (3, .int 0)], [], jzv184) : jS)) rfl ?_
  refine jl_s (S' := ((41, [(0, .ref 66), (1, .int 0), (2, .int 0), (3, .int 0)], [.int 0], jzv184) : jS)) rfl ?_
  exact jl_r (r := (.inl (some (.int 0)), jzv184)) rfl
set_option maxHeartbeats 4000000 in
set_option maxRecDepth 100000 in
theorem jzq517 (xs : Nat → Int32) (b0 b1 b2 b3 : Int32) {f : Nat} {q : jO × jH} (hq : jLoop (jRun ((4, xs) : jX) 2000 38) ((4, xs) : jX) jm248 f ((101, [(4, .int 0), (3, .int 0), (2, .int 0), (5, .int (b3)), (0, .ref 66), (1, .int (xs 1))], [], jzv184) : jS) = some q) : jLoop (jRun ((4, xs) : jX) 2000 38) ((4, xs) : jX) jm248 (f + 19) ((7, [(4, .int 32), (3, .int 0), (2, .int 0), (5, .int (b3)), (0, .ref 66), (1, .int (xs 1))], [], jzv184) : jS) = some q := by
  refine jl_s (S' := ((9, [(4, .int 32), (3, .int 0), (2, .int 0), (5, .int (b3)), (0, .ref 66), (1, .int (xs 1))], [.int 32], jzv184) : jS)) rfl ?_
  refine jl_s (S' := ((11, [(4, .int 32), (3, .int 0), (2, .int 0), (5, .int (b3)), (0, .ref 66), (1, .int (xs 1))], [.int 32, .int 32], jzv184) : jS)) rfl ?_
  refine jl_s (S' := ((66, [(4, .int 32), (3, .int 0), (2, .int 0), (5, .int (b3)), (0, .ref 66), (1, .int (xs 1))], [], jzv184) : jS)) rfl ?_
  refine jl_s (S' := ((67, [(4, .int 32), (3, .int 0), (2, .int 0), (5, .int (b3)), (0, .ref 66), (1, .int (xs 1))], [.ref 66], jzv184) : jS)) rfl ?_
  refine jl_s (S' := ((68, [(4, .int 32), (3, .int 0), (2, .int 0), (5, .int (b3)), (0, .ref 66), (1, .int (xs 1))], [.int 0, .ref 66], jzv184) : jS)) rfl ?_
  refine jl_s (S' := ((69, [(4, .int 32), (3, .int 0), (2, .int 0), (5, .int (b3)), (0, .ref 66), (1, .int (xs 1))], [.int 0, .int 0, .ref 66], jzv184) : jS)) rfl ?_
  refine jl_s (S' := ((72, [(4, .int 32), (3, .int 0), (2, .int 0), (5, .int (b3)), (0, .ref 66), (1, .int (xs 1))], [.int 0, .ref 66], jzv184) : jS)) rfl ?_
  refine jl_s (S' := ((73, [(4, .int 32), (3, .int 0), (2, .int 0), (5, .int (b3)), (0, .ref 66), (1, .int (xs 1))], [.ref 66, .int 0, .ref 66], jzv184) : jS)) rfl ?_
  refine jl_s (S' := ((76, [(4, .int 32), (3, .int 0), (2, .int 0), (5, .int (b3)), (0, .ref 66), (1, .int (xs 1))], [.int 0, .int 0, .ref 66], jzv184) : jS)) rfl ?_
  refine jl_s (S' := ((77, [(4, .int 32), (3, .int 0), (2, .int 0), (5, .int (b3)), (0, .ref 66), (1, .int (xs 1))], [.int 0, .int 0, .int 0, .ref 66], jzv184) : jS)) rfl ?_
  refine jl_s (S' := ((78, [(4, .int 32), (3, .int 0), (2, .int 0), (5, .int (b3)), (0, .ref 66), (1, .int (xs 1))], [.int 0, .int 0, .ref 66], jzv184) : jS)) rfl ?_
  refine jl_s (S' := ((81, [(4, .int 32), (3, .int 0), (2, .int 0), (5, .int (b3)), (0, .ref 66), (1, .int (xs 1))], [.int 3000, .int 0, .int 0, .ref 66], jzv184) : jS)) rfl ?_
  refine jl_s (S' := ((88, [(4, .int 32), (3, .int 0), (2, .int 0), (5, .int (b3)), (0, .ref 66), (1, .int (xs 1))], [.int 0, .ref 66], jzv184) : jS)) rfl ?_
  refine jl_s (S' := ((89, [(4, .int 32), (3, .int 0), (2, .int 0), (5, .int (b3)), (0, .ref 66), (1, .int (xs 1))], [.int 0, .int 0, .ref 66], jzv184) : jS)) rfl ?_
  refine jl_s (S' := ((90, [(4, .int 32), (3, .int 0), (2, .int 0), (5, .int (b3)), (0, .ref 66), (1, .int (xs 1))], [.int 0, .int 0, .int 0, .ref 66], jzv184) : jS)) rfl ?_
  refine jl_c (t := 245) (as := [.ref 66, .int 0, .int 0, .int 0]) (V := jzv184) (r := (.inl (some (.int 0)), jzv184)) (S' := ((93, [(4, .int 32), (3, .int 0), (2, .int 0), (5, .int (b3)), (0, .ref 66), (1, .int (xs 1))], [.int 0], jzv184) : jS)) rfl (jzl515 xs b0 b1 b2 b3) rfl ?_
  refine jl_s (S' := ((98, [(4, .int 32), (3, .int 0), (2, .int 0), (5, .int (b3)), (0, .ref 66), (1, .int (xs 1))], [], jzv184) : jS)) rfl ?_
  refine jl_s (S' := ((99, [(4, .int 32), (3, .int 0), (2, .int 0), (5, .int (b3)), (0, .ref 66), (1, .int (xs 1))], [.int 0], jzv184) : jS)) rfl ?_
  refine jl_s (S' := ((101, [(4, .int 0), (3, .int 0), (2, .int 0), (5, .int (b3)), (0, .ref 66), (1, .int (xs 1))], [], jzv184) : jS)) rfl ?_
  exact hq
set_option maxHeartbeats 4000000 in
set_option maxRecDepth 100000 in
theorem jzq519 (xs : Nat → Int32) (b0 b1 b2 b3 : Int32) (e : ((xs 1) >>> (0 &&& 31)) &&& 255 = b0) (h : jbz b0) {f : Nat} {q : jO × jH} (hq : jLoop (jRun ((4, xs) : jX) 2000 38) ((4, xs) : jX) jm248 f ((101, [(4, .int 8), (5, .int (b0)), (3, .int 0), (2, .int 0), (0, .ref 66), (1, .int (xs 1))], [], jzv184) : jS) = some q) : jLoop (jRun ((4, xs) : jX) 2000 38) ((4, xs) : jX) jm248 (f + 13) ((101, [(4, .int 0), (3, .int 0), (2, .int 0), (5, .int (b3)), (0, .ref 66), (1, .int (xs 1))], [], jzv184) : jS) = some q := by
  refine jl_s (S' := ((103, [(4, .int 0), (3, .int 0), (2, .int 0), (5, .int (b3)), (0, .ref 66), (1, .int (xs 1))], [.int 0], jzv184) : jS)) rfl ?_
  refine jl_s (S' := ((105, [(4, .int 0), (3, .int 0), (2, .int 0), (5, .int (b3)), (0, .ref 66), (1, .int (xs 1))], [.int 32, .int 0], jzv184) : jS)) rfl ?_
  refine jl_s (S' := ((108, [(4, .int 0), (3, .int 0), (2, .int 0), (5, .int (b3)), (0, .ref 66), (1, .int (xs 1))], [], jzv184) : jS)) rfl ?_
  refine jl_s (S' := ((109, [(4, .int 0), (3, .int 0), (2, .int 0), (5, .int (b3)), (0, .ref 66), (1, .int (xs 1))], [.int (xs 1)], jzv184) : jS)) rfl ?_
  refine jl_s (S' := ((111, [(4, .int 0), (3, .int 0), (2, .int 0), (5, .int (b3)), (0, .ref 66), (1, .int (xs 1))], [.int 0, .int (xs 1)], jzv184) : jS)) rfl ?_
  refine jl_s (S' := ((112, [(4, .int 0), (3, .int 0), (2, .int 0), (5, .int (b3)), (0, .ref 66), (1, .int (xs 1))], [.int ((xs 1) >>> (0 &&& 31))], jzv184) : jS)) rfl ?_
  refine jl_s (S' := ((115, [(4, .int 0), (3, .int 0), (2, .int 0), (5, .int (b3)), (0, .ref 66), (1, .int (xs 1))], [.int 255, .int ((xs 1) >>> (0 &&& 31))], jzv184) : jS)) rfl ?_
  refine jl_s (S' := ((116, [(4, .int 0), (3, .int 0), (2, .int 0), (5, .int (b3)), (0, .ref 66), (1, .int (xs 1))], [.int (((xs 1) >>> (0 &&& 31)) &&& 255)], jzv184) : jS)) rfl ?_
  rw [e]
  refine jl_s (S' := ((118, [(5, .int (b0)), (4, .int 0), (3, .int 0), (2, .int 0), (0, .ref 66), (1, .int (xs 1))], [], jzv184) : jS)) rfl ?_
  refine jl_s (S' := ((120, [(5, .int (b0)), (4, .int 0), (3, .int 0), (2, .int 0), (0, .ref 66), (1, .int (xs 1))], [.int (b0)], jzv184) : jS)) rfl ?_
  refine jl_ift (e := jm248) (o := 24) rfl (h.1) (t := 144) rfl ?_
  refine jl_s (S' := ((147, [(4, .int 8), (5, .int (b0)), (3, .int 0), (2, .int 0), (0, .ref 66), (1, .int (xs 1))], [], jzv184) : jS)) rfl ?_
  refine jl_s (S' := ((101, [(4, .int 8), (5, .int (b0)), (3, .int 0), (2, .int 0), (0, .ref 66), (1, .int (xs 1))], [], jzv184) : jS)) rfl ?_
  exact hq
set_option maxHeartbeats 4000000 in
set_option maxRecDepth 100000 in
theorem jzq521 (xs : Nat → Int32) (b0 b1 b2 b3 : Int32) (e : ((xs 1) >>> (8 &&& 31)) &&& 255 = b1) (h : jbz b1) {f : Nat} {q : jO × jH} (hq : jLoop (jRun ((4, xs) : jX) 2000 38) ((4, xs) : jX) jm248 f ((101, [(4, .int 16), (5, .int (b1)), (3, .int 0), (2, .int 0), (0, .ref 66), (1, .int (xs 1))], [], jzv184) : jS) = some q) : jLoop (jRun ((4, xs) : jX) 2000 38) ((4, xs) : jX) jm248 (f + 13) ((101, [(4, .int 8), (5, .int (b0)), (3, .int 0), (2, .int 0), (0, .ref 66), (1, .int (xs 1))], [], jzv184) : jS) = some q := by
  refine jl_s (S' := ((103, [(4, .int 8), (5, .int (b0)), (3, .int 0), (2, .int 0), (0, .ref 66), (1, .int (xs 1))], [.int 8], jzv184) : jS)) rfl ?_
  refine jl_s (S' := ((105, [(4, .int 8), (5, .int (b0)), (3, .int 0), (2, .int 0), (0, .ref 66), (1, .int (xs 1))], [.int 32, .int 8], jzv184) : jS)) rfl ?_
  refine jl_s (S' := ((108, [(4, .int 8), (5, .int (b0)), (3, .int 0), (2, .int 0), (0, .ref 66), (1, .int (xs 1))], [], jzv184) : jS)) rfl ?_
  refine jl_s (S' := ((109, [(4, .int 8), (5, .int (b0)), (3, .int 0), (2, .int 0), (0, .ref 66), (1, .int (xs 1))], [.int (xs 1)], jzv184) : jS)) rfl ?_
  refine jl_s (S' := ((111, [(4, .int 8), (5, .int (b0)), (3, .int 0), (2, .int 0), (0, .ref 66), (1, .int (xs 1))], [.int 8, .int (xs 1)], jzv184) : jS)) rfl ?_
  refine jl_s (S' := ((112, [(4, .int 8), (5, .int (b0)), (3, .int 0), (2, .int 0), (0, .ref 66), (1, .int (xs 1))], [.int ((xs 1) >>> (8 &&& 31))], jzv184) : jS)) rfl ?_
  refine jl_s (S' := ((115, [(4, .int 8), (5, .int (b0)), (3, .int 0), (2, .int 0), (0, .ref 66), (1, .int (xs 1))], [.int 255, .int ((xs 1) >>> (8 &&& 31))], jzv184) : jS)) rfl ?_
  refine jl_s (S' := ((116, [(4, .int 8), (5, .int (b0)), (3, .int 0), (2, .int 0), (0, .ref 66), (1, .int (xs 1))], [.int (((xs 1) >>> (8 &&& 31)) &&& 255)], jzv184) : jS)) rfl ?_
  rw [e]
  refine jl_s (S' := ((118, [(5, .int (b1)), (4, .int 8), (3, .int 0), (2, .int 0), (0, .ref 66), (1, .int (xs 1))], [], jzv184) : jS)) rfl ?_
  refine jl_s (S' := ((120, [(5, .int (b1)), (4, .int 8), (3, .int 0), (2, .int 0), (0, .ref 66), (1, .int (xs 1))], [.int (b1)], jzv184) : jS)) rfl ?_
  refine jl_ift (e := jm248) (o := 24) rfl (h.1) (t := 144) rfl ?_
  refine jl_s (S' := ((147, [(4, .int 16), (5, .int (b1)), (3, .int 0), (2, .int 0), (0, .ref 66), (1, .int (xs 1))], [], jzv184) : jS)) rfl ?_
  refine jl_s (S' := ((101, [(4, .int 16), (5, .int (b1)), (3, .int 0), (2, .int 0), (0, .ref 66), (1, .int (xs 1))], [], jzv184) : jS)) rfl ?_
  exact hq
set_option maxHeartbeats 4000000 in
set_option maxRecDepth 100000 in
theorem jzq523 (xs : Nat → Int32) (b0 b1 b2 b3 : Int32) (e : ((xs 1) >>> (16 &&& 31)) &&& 255 = b2) (h : jbz b2) {f : Nat} {q : jO × jH} (hq : jLoop (jRun ((4, xs) : jX) 2000 38) ((4, xs) : jX) jm248 f ((101, [(4, .int 24), (5, .int (b2)), (3, .int 0), (2, .int 0), (0, .ref 66), (1, .int (xs 1))], [], jzv184) : jS) = some q) : jLoop (jRun ((4, xs) : jX) 2000 38) ((4, xs) : jX) jm248 (f + 13) ((101, [(4, .int 16), (5, .int (b1)), (3, .int 0), (2, .int 0), (0, .ref 66), (1, .int (xs 1))], [], jzv184) : jS) = some q := by
  refine jl_s (S' := ((103, [(4, .int 16), (5, .int (b1)), (3, .int 0), (2, .int 0), (0, .ref 66), (1, .int (xs 1))], [.int 16], jzv184) : jS)) rfl ?_
  refine jl_s (S' := ((105, [(4, .int 16), (5, .int (b1)), (3, .int 0), (2, .int 0), (0, .ref 66), (1, .int (xs 1))], [.int 32, .int 16], jzv184) : jS)) rfl ?_
  refine jl_s (S' := ((108, [(4, .int 16), (5, .int (b1)), (3, .int 0), (2, .int 0), (0, .ref 66), (1, .int (xs 1))], [], jzv184) : jS)) rfl ?_
  refine jl_s (S' := ((109, [(4, .int 16), (5, .int (b1)), (3, .int 0), (2, .int 0), (0, .ref 66), (1, .int (xs 1))], [.int (xs 1)], jzv184) : jS)) rfl ?_
  refine jl_s (S' := ((111, [(4, .int 16), (5, .int (b1)), (3, .int 0), (2, .int 0), (0, .ref 66), (1, .int (xs 1))], [.int 16, .int (xs 1)], jzv184) : jS)) rfl ?_
  refine jl_s (S' := ((112, [(4, .int 16), (5, .int (b1)), (3, .int 0), (2, .int 0), (0, .ref 66), (1, .int (xs 1))], [.int ((xs 1) >>> (16 &&& 31))], jzv184) : jS)) rfl ?_
  refine jl_s (S' := ((115, [(4, .int 16), (5, .int (b1)), (3, .int 0), (2, .int 0), (0, .ref 66), (1, .int (xs 1))], [.int 255, .int ((xs 1) >>> (16 &&& 31))], jzv184) : jS)) rfl ?_
  refine jl_s (S' := ((116, [(4, .int 16), (5, .int (b1)), (3, .int 0), (2, .int 0), (0, .ref 66), (1, .int (xs 1))], [.int (((xs 1) >>> (16 &&& 31)) &&& 255)], jzv184) : jS)) rfl ?_
  rw [e]
  refine jl_s (S' := ((118, [(5, .int (b2)), (4, .int 16), (3, .int 0), (2, .int 0), (0, .ref 66), (1, .int (xs 1))], [], jzv184) : jS)) rfl ?_
  refine jl_s (S' := ((120, [(5, .int (b2)), (4, .int 16), (3, .int 0), (2, .int 0), (0, .ref 66), (1, .int (xs 1))], [.int (b2)], jzv184) : jS)) rfl ?_
  refine jl_ift (e := jm248) (o := 24) rfl (h.1) (t := 144) rfl ?_
  refine jl_s (S' := ((147, [(4, .int 24), (5, .int (b2)), (3, .int 0), (2, .int 0), (0, .ref 66), (1, .int (xs 1))], [], jzv184) : jS)) rfl ?_
  refine jl_s (S' := ((101, [(4, .int 24), (5, .int (b2)), (3, .int 0), (2, .int 0), (0, .ref 66), (1, .int (xs 1))], [], jzv184) : jS)) rfl ?_
  exact hq
set_option maxHeartbeats 4000000 in
set_option maxRecDepth 100000 in
theorem jzq525 (xs : Nat → Int32) (b0 b1 b2 b3 : Int32) (e : ((xs 1) >>> (24 &&& 31)) &&& 255 = b3) (h : jbz b3) {f : Nat} {q : jO × jH} (hq : jLoop (jRun ((4, xs) : jX) 2000 38) ((4, xs) : jX) jm248 f ((101, [(4, .int 32), (5, .int (b3)), (3, .int 0), (2, .int 0), (0, .ref 66), (1, .int (xs 1))], [], jzv184) : jS) = some q) : jLoop (jRun ((4, xs) : jX) 2000 38) ((4, xs) : jX) jm248 (f + 13) ((101, [(4, .int 24), (5, .int (b2)), (3, .int 0), (2, .int 0), (0, .ref 66), (1, .int (xs 1))], [], jzv184) : jS) = some q := by
  refine jl_s (S' := ((103, [(4, .int 24), (5, .int (b2)), (3, .int 0), (2, .int 0), (0, .ref 66), (1, .int (xs 1))], [.int 24], jzv184) : jS)) rfl ?_
  refine jl_s (S' := ((105, [(4, .int 24), (5, .int (b2)), (3, .int 0), (2, .int 0), (0, .ref 66), (1, .int (xs 1))], [.int 32, .int 24], jzv184) : jS)) rfl ?_
  refine jl_s (S' := ((108, [(4, .int 24), (5, .int (b2)), (3, .int 0), (2, .int 0), (0, .ref 66), (1, .int (xs 1))], [], jzv184) : jS)) rfl ?_
  refine jl_s (S' := ((109, [(4, .int 24), (5, .int (b2)), (3, .int 0), (2, .int 0), (0, .ref 66), (1, .int (xs 1))], [.int (xs 1)], jzv184) : jS)) rfl ?_
  refine jl_s (S' := ((111, [(4, .int 24), (5, .int (b2)), (3, .int 0), (2, .int 0), (0, .ref 66), (1, .int (xs 1))], [.int 24, .int (xs 1)], jzv184) : jS)) rfl ?_
  refine jl_s (S' := ((112, [(4, .int 24), (5, .int (b2)), (3, .int 0), (2, .int 0), (0, .ref 66), (1, .int (xs 1))], [.int ((xs 1) >>> (24 &&& 31))], jzv184) : jS)) rfl ?_
  refine jl_s (S' := ((115, [(4, .int 24), (5, .int (b2)), (3, .int 0), (2, .int 0), (0, .ref 66), (1, .int (xs 1))], [.int 255, .int ((xs 1) >>> (24 &&& 31))], jzv184) : jS)) rfl ?_
  refine jl_s (S' := ((116, [(4, .int 24), (5, .int (b2)), (3, .int 0), (2, .int 0), (0, .ref 66), (1, .int (xs 1))], [.int (((xs 1) >>> (24 &&& 31)) &&& 255)], jzv184) : jS)) rfl ?_
  rw [e]
  refine jl_s (S' := ((118, [(5, .int (b3)), (4, .int 24), (3, .int 0), (2, .int 0), (0, .ref 66), (1, .int (xs 1))], [], jzv184) : jS)) rfl ?_
  refine jl_s (S' := ((120, [(5, .int (b3)), (4, .int 24), (3, .int 0), (2, .int 0), (0, .ref 66), (1, .int (xs 1))], [.int (b3)], jzv184) : jS)) rfl ?_
  refine jl_ift (e := jm248) (o := 24) rfl (h.1) (t := 144) rfl ?_
  refine jl_s (S' := ((147, [(4, .int 32), (5, .int (b3)), (3, .int 0), (2, .int 0), (0, .ref 66), (1, .int (xs 1))], [], jzv184) : jS)) rfl ?_
  refine jl_s (S' := ((101, [(4, .int 32), (5, .int (b3)), (3, .int 0), (2, .int 0), (0, .ref 66), (1, .int (xs 1))], [], jzv184) : jS)) rfl ?_
  exact hq
set_option maxHeartbeats 4000000 in
set_option maxRecDepth 100000 in
theorem jzq527 (xs : Nat → Int32) (b0 b1 b2 b3 : Int32) {f : Nat} : jLoop (jRun ((4, xs) : jX) 2000 38) ((4, xs) : jX) jm248 (f + 6) ((101, [(4, .int 32), (5, .int (b3)), (3, .int 0), (2, .int 0), (0, .ref 66), (1, .int (xs 1))], [], jzv184) : jS) = some (.inl (some (.int 0)), jzv184) := by
  refine jl_s (S' := ((103, [(4, .int 32), (5, .int (b3)), (3, .int 0), (2, .int 0), (0, .ref 66), (1, .int (xs 1))], [.int 32], jzv184) : jS)) rfl ?_
  refine jl_s (S' := ((105, [(4, .int 32), (5, .int (b3)), (3, .int 0), (2, .int 0), (0, .ref 66), (1, .int (xs 1))], [.int 32, .int 32], jzv184) : jS)) rfl ?_
  refine jl_s (S' := ((150, [(4, .int 32), (5, .int (b3)), (3, .int 0), (2, .int 0), (0, .ref 66), (1, .int (xs 1))], [], jzv184) : jS)) rfl ?_
  refine jl_s (S' := ((151, [(4, .int 32), (5, .int (b3)), (3, .int 0), (2, .int 0), (0, .ref 66), (1, .int (xs 1))], [.ref 66], jzv184) : jS)) rfl ?_
  refine jl_s (S' := ((154, [(4, .int 32), (5, .int (b3)), (3, .int 0), (2, .int 0), (0, .ref 66), (1, .int (xs 1))], [.int 0], jzv184) : jS)) rfl ?_
  exact jl_r (r := (.inl (some (.int 0)), jzv184)) rfl
set_option maxHeartbeats 4000000 in
set_option maxRecDepth 100000 in
theorem jzrp_ZZZZ (xs : Nat → Int32) (b0 b1 b2 b3 : Int32) (e0 : ((xs 1) >>> (0 &&& 31)) &&& 255 = b0) (e1 : ((xs 1) >>> (8 &&& 31)) &&& 255 = b1) (e2 : ((xs 1) >>> (16 &&& 31)) &&& 255 = b2) (e3 : ((xs 1) >>> (24 &&& 31)) &&& 255 = b3) (h0 : jbz b0) (h1 : jbz b1) (h2 : jbz b2) (h3 : jbz b3) : jRun ((4, xs) : jX) 2000 39 248 [.ref 66, .int (xs 1)] jzv184 = some (.inl (some (.int 0)), jzv184) := by
  refine jr_run (e := jm248) rfl (Nat.le_of_ble_eq_true rfl) ?_
  refine jzq506 xs b0 b1 b2 b3 _ ?_
  refine jzq508 xs b0 b1 b2 b3 _ e0 h0 ?_
  refine jzq510 xs b0 b1 b2 b3 _ e1 h1 ?_
  refine jzq512 xs b0 b1 b2 b3 _ e2 h2 ?_
  refine jzq514 xs b0 b1 b2 b3 _ e3 h3 ?_
  refine jzq517 xs b0 b1 b2 b3 ?_
  refine jzq519 xs b0 b1 b2 b3 e0 h0 ?_
  refine jzq521 xs b0 b1 b2 b3 e1 h1 ?_
  refine jzq523 xs b0 b1 b2 b3 e2 h2 ?_
  refine jzq525 xs b0 b1 b2 b3 e3 h3 ?_
  exact jzq527 xs b0 b1 b2 b3
set_option maxHeartbeats 4000000 in
set_option maxRecDepth 100000 in
theorem jzl528 (xs : Nat → Int32) (hop : xs 0 &&& 31 = 0) (b0 b1 b2 b3 : Int32) (e0 : ((Int32.toUInt32 (xs 1) >>> (Int32.toUInt32 0 &&& Int32.toUInt32 31)).toInt32) &&& 255 = b0) (e1 : ((Int32.toUInt32 (xs 1) >>> (Int32.toUInt32 8 &&& Int32.toUInt32 31)).toInt32) &&& 255 = b1) (e2 : ((Int32.toUInt32 (xs 1) >>> (Int32.toUInt32 16 &&& Int32.toUInt32 31)).toInt32) &&& 255 = b2) (e3 : ((Int32.toUInt32 (xs 1) >>> (Int32.toUInt32 24 &&& Int32.toUInt32 31)).toInt32) &&& 255 = b3) (g0 : ((xs 1) >>> (0 &&& 31)) &&& 255 = b0) (g1 : ((xs 1) >>> (8 &&& 31)) &&& 255 = b1) (g2 : ((xs 1) >>> (16 &&& 31)) &&& 255 = b2) (g3 : ((xs 1) >>> (24 &&& 31)) &&& 255 = b3) (h0 : jbz b0) (h1 : jbz b1) (h2 : jbz b2) (h3 : jbz b3) : jRun ((4, xs) : jX) 2000 39 244 [.ref 66] jzv184 = some (.inl (some (.int 0)), jzv184) := by
  refine jr_run (e := jm244) rfl (Nat.le_of_ble_eq_true rfl) ?_
  refine jl_s (S' := ((1, [(0, .ref 66)], [.ref 66], jzv184) : jS)) rfl ?_
  refine jl_s (S' := ((4, [(0, .ref 66)], [.int 0], jzv184) : jS)) rfl ?_
  exact jl_r (r := (.inl (some (.int 0)), jzv184)) rfl
set_option maxHeartbeats 4000000 in
set_option maxRecDepth 100000 in
theorem jzl529 (xs : Nat → Int32) (hop : xs 0 &&& 31 = 0) (b0 b1 b2 b3 : Int32) (e0 : ((Int32.toUInt32 (xs 1) >>> (Int32.toUInt32 0 &&& Int32.toUInt32 31)).toInt32) &&& 255 = b0) (e1 : ((Int32.toUInt32 (xs 1) >>> (Int32.toUInt32 8 &&& Int32.toUInt32 31)).toInt32) &&& 255 = b1) (e2 : ((Int32.toUInt32 (xs 1) >>> (Int32.toUInt32 16 &&& Int32.toUInt32 31)).toInt32) &&& 255 = b2) (e3 : ((Int32.toUInt32 (xs 1) >>> (Int32.toUInt32 24 &&& Int32.toUInt32 31)).toInt32) &&& 255 = b3) (g0 : ((xs 1) >>> (0 &&& 31)) &&& 255 = b0) (g1 : ((xs 1) >>> (8 &&& 31)) &&& 255 = b1) (g2 : ((xs 1) >>> (16 &&& 31)) &&& 255 = b2) (g3 : ((xs 1) >>> (24 &&& 31)) &&& 255 = b3) (h0 : jbz b0) (h1 : jbz b1) (h2 : jbz b2) (h3 : jbz b3) : jLoop (jRun ((4, xs) : jX) 2000 39) ((4, xs) : jX) jm18 1000 ((23, [(4, .int 0), (3, .ref 153), (2, .ref 66), (1, .ref 64), (0, .ref 63)], [], jzv181) : jS) = some (.inl (some (.int 1)), jzv184) := by
  refine jl_s (S' := ((25, [(4, .int 0), (3, .ref 153), (2, .ref 66), (1, .ref 64), (0, .ref 63)], [.int 0], jzv181) : jS)) rfl ?_
  refine jl_s (S' := ((26, [(4, .int 0), (3, .ref 153), (2, .ref 66), (1, .ref 64), (0, .ref 63)], [.ref 63, .int 0], jzv181) : jS)) rfl ?_
  refine jl_s (S' := ((27, [(4, .int 0), (3, .ref 153), (2, .ref 66), (1, .ref 64), (0, .ref 63)], [.int 4, .int 0], jzv181) : jS)) rfl ?_
  refine jl_s (S' := ((28, [(4, .int 0), (3, .ref 153), (2, .ref 66), (1, .ref 64), (0, .ref 63)], [.int 4, .int 4, .int 0], jzv181) : jS)) rfl ?_
  refine jl_s (S' := ((29, [(4, .int 0), (3, .ref 153), (2, .ref 66), (1, .ref 64), (0, .ref 63)], [.int 0, .int 0], jzv181) : jS)) rfl ?_
  refine jl_s (S' := ((32, [(4, .int 0), (3, .ref 153), (2, .ref 66), (1, .ref 64), (0, .ref 63)], [], jzv181) : jS)) rfl ?_
  refine jl_s (S' := ((33, [(4, .int 0), (3, .ref 153), (2, .ref 66), (1, .ref 64), (0, .ref 63)], [.ref 63], jzv181) : jS)) rfl ?_
  refine jl_s (S' := ((35, [(4, .int 0), (3, .ref 153), (2, .ref 66), (1, .ref 64), (0, .ref 63)], [.int 0, .ref 63], jzv181) : jS)) rfl ?_
  refine jl_s (S' := ((36, [(4, .int 0), (3, .ref 153), (2, .ref 66), (1, .ref 64), (0, .ref 63)], [.int (xs 0)], jzv181) : jS)) rfl ?_
  refine jl_s (S' := ((38, [(4, .int 0), (3, .ref 153), (2, .ref 66), (1, .ref 64), (0, .ref 63)], [.int 31, .int (xs 0)], jzv181) : jS)) rfl ?_
  refine jl_s (S' := ((39, [(4, .int 0), (3, .ref 153), (2, .ref 66), (1, .ref 64), (0, .ref 63)], [.int ((xs 0) &&& 31)], jzv181) : jS)) rfl ?_
  rw [hop]
  refine jl_s (S' := ((128, [(4, .int 0), (3, .ref 153), (2, .ref 66), (1, .ref 64), (0, .ref 63)], [], jzv181) : jS)) rfl ?_
  refine jl_s (S' := ((129, [(4, .int 0), (3, .ref 153), (2, .ref 66), (1, .ref 64), (0, .ref 63)], [.ref 64], jzv181) : jS)) rfl ?_
  refine jl_s (S' := ((130, [(4, .int 0), (3, .ref 153), (2, .ref 66), (1, .ref 64), (0, .ref 63)], [.ref 63, .ref 64], jzv181) : jS)) rfl ?_
  refine jl_s (S' := ((132, [(4, .int 0), (3, .ref 153), (2, .ref 66), (1, .ref 64), (0, .ref 63)], [.int 0, .ref 63, .ref 64], jzv181) : jS)) rfl ?_
  refine jl_s (S' := ((133, [(4, .int 0), (3, .ref 153), (2, .ref 66), (1, .ref 64), (0, .ref 63)], [.int 1, .int 0, .ref 63, .ref 64], jzv181) : jS)) rfl ?_
  refine jl_s (S' := ((134, [(4, .int 0), (3, .ref 153), (2, .ref 66), (1, .ref 64), (0, .ref 63)], [.int 1, .ref 63, .ref 64], jzv181) : jS)) rfl ?_
  refine jl_s (S' := ((135, [(4, .int 0), (3, .ref 153), (2, .ref 66), (1, .ref 64), (0, .ref 63)], [.int (xs 1), .ref 64], jzv181) : jS)) rfl ?_
  refine jl_s (S' := ((136, [(4, .int 0), (3, .ref 153), (2, .ref 66), (1, .ref 64), (0, .ref 63)], [.ref 153, .int (xs 1), .ref 64], jzv181) : jS)) rfl ?_
  refine jl_c (t := 0) (as := [.ref 64, .int (xs 1), .ref 153]) (V := jzv181) (r := (.inl (some (.int 0)), jzv184)) (S' := ((139, [(4, .int 0), (3, .ref 153), (2, .ref 66), (1, .ref 64), (0, .ref 63)], [.int 0], jzv184) : jS)) rfl (jzl504 xs hop b0 b1 b2 b3 e0 e1 e2 e3 g0 g1 g2 g3 h0 h1 h2 h3) rfl ?_
  refine jl_s (S' := ((141, [(5, .int 0), (4, .int 0), (3, .ref 153), (2, .ref 66), (1, .ref 64), (0, .ref 63)], [], jzv184) : jS)) rfl ?_
  refine jl_s (S' := ((142, [(5, .int 0), (4, .int 0), (3, .ref 153), (2, .ref 66), (1, .ref 64), (0, .ref 63)], [.ref 66], jzv184) : jS)) rfl ?_
  refine jl_s (S' := ((143, [(5, .int 0), (4, .int 0), (3, .ref 153), (2, .ref 66), (1, .ref 64), (0, .ref 63)], [.ref 63, .ref 66], jzv184) : jS)) rfl ?_
  refine jl_s (S' := ((145, [(5, .int 0), (4, .int 0), (3, .ref 153), (2, .ref 66), (1, .ref 64), (0, .ref 63)], [.int 0, .ref 63, .ref 66], jzv184) : jS)) rfl ?_
  refine jl_s (S' := ((146, [(5, .int 0), (4, .int 0), (3, .ref 153), (2, .ref 66), (1, .ref 64), (0, .ref 63)], [.int 1, .int 0, .ref 63, .ref 66], jzv184) : jS)) rfl ?_
  refine jl_s (S' := ((147, [(5, .int 0), (4, .int 0), (3, .ref 153), (2, .ref 66), (1, .ref 64), (0, .ref 63)], [.int 1, .ref 63, .ref 66], jzv184) : jS)) rfl ?_
  refine jl_s (S' := ((148, [(5, .int 0), (4, .int 0), (3, .ref 153), (2, .ref 66), (1, .ref 64), (0, .ref 63)], [.int (xs 1), .ref 66], jzv184) : jS)) rfl ?_
  refine jl_c (t := 248) (as := [.ref 66, .int (xs 1)]) (V := jzv184) (r := (.inl (some (.int 0)), jzv184)) (S' := ((151, [(5, .int 0), (4, .int 0), (3, .ref 153), (2, .ref 66), (1, .ref 64), (0, .ref 63)], [.int 0], jzv184) : jS)) rfl (jzrp_ZZZZ xs b0 b1 b2 b3 g0 g1 g2 g3 h0 h1 h2 h3 ) rfl ?_
  refine jl_s (S' := ((153, [(6, .int 0), (5, .int 0), (4, .int 0), (3, .ref 153), (2, .ref 66), (1, .ref 64), (0, .ref 63)], [], jzv184) : jS)) rfl ?_
  refine jl_s (S' := ((154, [(6, .int 0), (5, .int 0), (4, .int 0), (3, .ref 153), (2, .ref 66), (1, .ref 64), (0, .ref 63)], [.ref 66], jzv184) : jS)) rfl ?_
  refine jl_c (t := 244) (as := [.ref 66]) (V := jzv184) (r := (.inl (some (.int 0)), jzv184)) (S' := ((157, [(6, .int 0), (5, .int 0), (4, .int 0), (3, .ref 153), (2, .ref 66), (1, .ref 64), (0, .ref 63)], [.int 0], jzv184) : jS)) rfl (jzl528 xs hop b0 b1 b2 b3 e0 e1 e2 e3 g0 g1 g2 g3 h0 h1 h2 h3) rfl ?_
  refine jl_s (S' := ((159, [(6, .int 0), (5, .int 0), (4, .int 0), (3, .ref 153), (2, .ref 66), (1, .ref 64), (0, .ref 63)], [.int 0, .int 0], jzv184) : jS)) rfl ?_
  refine jl_s (S' := ((164, [(6, .int 0), (5, .int 0), (4, .int 0), (3, .ref 153), (2, .ref 66), (1, .ref 64), (0, .ref 63)], [], jzv184) : jS)) rfl ?_
  refine jl_s (S' := ((166, [(6, .int 0), (5, .int 0), (4, .int 0), (3, .ref 153), (2, .ref 66), (1, .ref 64), (0, .ref 63)], [.int 0], jzv184) : jS)) rfl ?_
  refine jl_s (S' := ((169, [(6, .int 0), (5, .int 0), (4, .int 0), (3, .ref 153), (2, .ref 66), (1, .ref 64), (0, .ref 63)], [], jzv184) : jS)) rfl ?_
  refine jl_s (S' := ((170, [(6, .int 0), (5, .int 0), (4, .int 0), (3, .ref 153), (2, .ref 66), (1, .ref 64), (0, .ref 63)], [.ref 153], jzv184) : jS)) rfl ?_
  refine jl_s (S' := ((171, [(6, .int 0), (5, .int 0), (4, .int 0), (3, .ref 153), (2, .ref 66), (1, .ref 64), (0, .ref 63)], [.int 0, .ref 153], jzv184) : jS)) rfl ?_
  refine jl_s (S' := ((172, [(6, .int 0), (5, .int 0), (4, .int 0), (3, .ref 153), (2, .ref 66), (1, .ref 64), (0, .ref 63)], [.long 0], jzv184) : jS)) rfl ?_
  refine jl_s (S' := ((174, [(6, .int 0), (5, .int 0), (4, .int 0), (3, .ref 153), (2, .ref 66), (1, .ref 64), (0, .ref 63)], [.int 0, .long 0], jzv184) : jS)) rfl ?_
  refine jl_s (S' := ((175, [(6, .int 0), (5, .int 0), (4, .int 0), (3, .ref 153), (2, .ref 66), (1, .ref 64), (0, .ref 63)], [.long 0, .long 0], jzv184) : jS)) rfl ?_
  refine jl_s (S' := ((176, [(6, .int 0), (5, .int 0), (4, .int 0), (3, .ref 153), (2, .ref 66), (1, .ref 64), (0, .ref 63)], [.int 0], jzv184) : jS)) rfl ?_
  refine jl_s (S' := ((181, [(6, .int 0), (5, .int 0), (4, .int 0), (3, .ref 153), (2, .ref 66), (1, .ref 64), (0, .ref 63)], [], jzv184) : jS)) rfl ?_
  refine jl_s (S' := ((1193, [(6, .int 0), (5, .int 0), (4, .int 0), (3, .ref 153), (2, .ref 66), (1, .ref 64), (0, .ref 63)], [], jzv184) : jS)) rfl ?_
  refine jl_s (S' := ((1196, [(4, .int 4), (6, .int 0), (5, .int 0), (3, .ref 153), (2, .ref 66), (1, .ref 64), (0, .ref 63)], [], jzv184) : jS)) rfl ?_
  refine jl_s (S' := ((23, [(4, .int 4), (6, .int 0), (5, .int 0), (3, .ref 153), (2, .ref 66), (1, .ref 64), (0, .ref 63)], [], jzv184) : jS)) rfl ?_
  refine jl_s (S' := ((25, [(4, .int 4), (6, .int 0), (5, .int 0), (3, .ref 153), (2, .ref 66), (1, .ref 64), (0, .ref 63)], [.int 4], jzv184) : jS)) rfl ?_
  refine jl_s (S' := ((26, [(4, .int 4), (6, .int 0), (5, .int 0), (3, .ref 153), (2, .ref 66), (1, .ref 64), (0, .ref 63)], [.ref 63, .int 4], jzv184) : jS)) rfl ?_
  refine jl_s (S' := ((27, [(4, .int 4), (6, .int 0), (5, .int 0), (3, .ref 153), (2, .ref 66), (1, .ref 64), (0, .ref 63)], [.int 4, .int 4], jzv184) : jS)) rfl ?_
  refine jl_s (S' := ((28, [(4, .int 4), (6, .int 0), (5, .int 0), (3, .ref 153), (2, .ref 66), (1, .ref 64), (0, .ref 63)], [.int 4, .int 4, .int 4], jzv184) : jS)) rfl ?_
  refine jl_s (S' := ((29, [(4, .int 4), (6, .int 0), (5, .int 0), (3, .ref 153), (2, .ref 66), (1, .ref 64), (0, .ref 63)], [.int 0, .int 4], jzv184) : jS)) rfl ?_
  refine jl_s (S' := ((1199, [(4, .int 4), (6, .int 0), (5, .int 0), (3, .ref 153), (2, .ref 66), (1, .ref 64), (0, .ref 63)], [], jzv184) : jS)) rfl ?_
  refine jl_s (S' := ((1200, [(4, .int 4), (6, .int 0), (5, .int 0), (3, .ref 153), (2, .ref 66), (1, .ref 64), (0, .ref 63)], [.int 1], jzv184) : jS)) rfl ?_
  exact jl_r (r := (.inl (some (.int 1)), jzv184)) rfl
-- op 0 ZZZZ: jzl529
def jzc200 : jC := .inl (2, 1, .inr (.inl (vp_updL (fun _ => 0) 0 1)))
def jzv291 (b0 b1 b2 b3 : Int32) : jH := [jzc182, (jzc181 b0 b1 b2 b3), jzc117, jzc7, jzc9, jzc9, jzc9, jzc9, jzc9, jzc17, jzc19, jzc19, jzc19, jzc19, jzc19, jzc19, jzc19, jzc19, jzc28, jzc28, jzc28, jzc28, jzc28, jzc28, jzc28, jzc28, jzc28, jzc28, jzc28, jzc28, jzc28, jzc28, jzc43, jzc43, jzc43, jzc43, jzc43, jzc49, jzc49, jzc52, jzc52, jzc52, jzc56, jzc56, jzc59, jzc56, jzc62, jzc28, jzc28, jzc28, jzc28, jzc28, jzc69, jzc71, jzc73, jzc43, jzc76, jzc52, jzc52, jzc80, jzc80, jzc80, jzc84, jzc52, jzc52, jzc52, jzc52, jzc52, jzc52, jzc52, jzc93, jzc93, jzc52, jzc52, jzc98, jzc100, jzc93, jzc52, jzc52, jzc52, jzc52, jzc107, jzc109, jzc111, jzc100, jzc100, jzc100, jzc111, jzc111, jzc200]
set_option maxHeartbeats 4000000 in
set_option maxRecDepth 100000 in
theorem jzl530 (xs : Nat → Int32) (hop : xs 0 &&& 31 = 0) (b0 b1 b2 b3 : Int32) (e0 : ((Int32.toUInt32 (xs 1) >>> (Int32.toUInt32 0 &&& Int32.toUInt32 31)).toInt32) &&& 255 = b0) (e1 : ((Int32.toUInt32 (xs 1) >>> (Int32.toUInt32 8 &&& Int32.toUInt32 31)).toInt32) &&& 255 = b1) (e2 : ((Int32.toUInt32 (xs 1) >>> (Int32.toUInt32 16 &&& Int32.toUInt32 31)).toInt32) &&& 255 = b2) (e3 : ((Int32.toUInt32 (xs 1) >>> (Int32.toUInt32 24 &&& Int32.toUInt32 31)).toInt32) &&& 255 = b3) (g0 : ((xs 1) >>> (0 &&& 31)) &&& 255 = b0) (g1 : ((xs 1) >>> (8 &&& 31)) &&& 255 = b1) (g2 : ((xs 1) >>> (16 &&& 31)) &&& 255 = b2) (g3 : ((xs 1) >>> (24 &&& 31)) &&& 255 = b3) (h0 : jbz b0) (h1 : jbz b1) (h2 : jbz b2) (h3 : jbv b3) : jRun ((4, xs) : jX) 2000 39 0 [.ref 64, .int (xs 1), .ref 153] jzv181 = some (.inl (some (.int 0)), (jzv291 b0 b1 b2 b3)) := by
  refine jr_run (e := jm0) rfl (Nat.le_of_ble_eq_true rfl) ?_
  refine jl_s (S' := ((1, [(0, .ref 64), (1, .int (xs 1)), (2, .ref 153)], [.ref 153], jzv181) : jS)) rfl ?_
  refine jl_s (S' := ((2, [(0, .ref 64), (1, .int (xs 1)), (2, .ref 153)], [.int 0, .ref 153], jzv181) : jS)) rfl ?_
  refine jl_s (S' := ((3, [(0, .ref 64), (1, .int (xs 1)), (2, .ref 153)], [.ref 64, .int 0, .ref 153], jzv181) : jS)) rfl ?_
  refine jl_s (S' := ((4, [(0, .ref 64), (1, .int (xs 1)), (2, .ref 153)], [.int (xs 1), .ref 64, .int 0, .ref 153], jzv181) : jS)) rfl ?_
  refine jl_c (t := 20) (as := [.ref 64, .int (xs 1)]) (V := jzv181) (r := (.inl (some (.int 1)), (jzv262 b0 b1 b2 b3))) (S' := ((7, [(0, .ref 64), (1, .int (xs 1)), (2, .ref 153)], [.int 1, .int 0, .ref 153], (jzv262 b0 b1 b2 b3)) : jS)) rfl (jzcp_ZZZV xs b0 b1 b2 b3 e0 e1 e2 e3 h0 h1 h2 h3 ) rfl ?_
  refine jl_s (S' := ((8, [(0, .ref 64), (1, .int (xs 1)), (2, .ref 153)], [.long 1, .int 0, .ref 153], (jzv262 b0 b1 b2 b3)) : jS)) rfl ?_
  refine jl_s (S' := ((9, [(0, .ref 64), (1, .int (xs 1)), (2, .ref 153)], [], (jzv291 b0 b1 b2 b3)) : jS)) rfl ?_
  refine jl_s (S' := ((18, [(0, .ref 64), (1, .int (xs 1)), (2, .ref 153)], [], (jzv291 b0 b1 b2 b3)) : jS)) rfl ?_
  refine jl_s (S' := ((19, [(0, .ref 64), (1, .int (xs 1)), (2, .ref 153)], [.int 0], (jzv291 b0 b1 b2 b3)) : jS)) rfl ?_
  exact jl_r (r := (.inl (some (.int 0)), (jzv291 b0 b1 b2 b3))) rfl
set_option maxHeartbeats 4000000 in
set_option maxRecDepth 100000 in
theorem jzq532 (xs : Nat → Int32) (b0 b1 b2 b3 : Int32) (V : jH) (e : ((xs 1) >>> (24 &&& 31)) &&& 255 = b3) (h : jbv b3) {f : Nat} {q : jO × jH} (hq : jLoop (jRun ((4, xs) : jX) 2000 38) ((4, xs) : jX) jm248 f ((7, [(4, .int 32), (3, .int 1), (2, .int 0), (5, .int (b3)), (0, .ref 66), (1, .int (xs 1))], [], V) : jS) = some q) : jLoop (jRun ((4, xs) : jX) 2000 38) ((4, xs) : jX) jm248 (f + 27) ((7, [(4, .int 24), (3, .int 0), (2, .int 0), (5, .int (b2)), (0, .ref 66), (1, .int (xs 1))], [], V) : jS) = some q := by
  refine jl_s (S' := ((9, [(4, .int 24), (3, .int 0), (2, .int 0), (5, .int (b2)), (0, .ref 66), (1, .int (xs 1))], [.int 24], V) : jS)) rfl ?_
  refine jl_s (S' := ((11, [(4, .int 24), (3, .int 0), (2, .int 0), (5, .int (b2)), (0, .ref 66), (1, .int (xs 1))], [.int 32, .int 24], V) : jS)) rfl ?_
  refine jl_s (S' := ((14, [(4, .int 24), (3, .int 0), (2, .int 0), (5, .int (b2)), (0, .ref 66), (1, .int (xs 1))], [], V) : jS)) rfl ?_
  refine jl_s (S' := ((15, [(4, .int 24), (3, .int 0), (2, .int 0), (5, .int (b2)), (0, .ref 66), (1, .int (xs 1))], [.int (xs 1)], V) : jS)) rfl ?_
  refine jl_s (S' := ((17, [(4, .int 24), (3, .int 0), (2, .int 0), (5, .int (b2)), (0, .ref 66), (1, .int (xs 1))], [.int 24, .int (xs 1)], V) : jS)) rfl ?_
  refine jl_s (S' := ((18, [(4, .int 24), (3, .int 0), (2, .int 0), (5, .int (b2)), (0, .ref 66), (1, .int (xs 1))], [.int ((xs 1) >>> (24 &&& 31))], V) : jS)) rfl ?_
  refine jl_s (S' := ((21, [(4, .int 24), (3, .int 0), (2, .int 0), (5, .int (b2)), (0, .ref 66), (1, .int (xs 1))], [.int 255, .int ((xs 1) >>> (24 &&& 31))], V) : jS)) rfl ?_
  refine jl_s (S' := ((22, [(4, .int 24), (3, .int 0), (2, .int 0), (5, .int (b2)), (0, .ref 66), (1, .int (xs 1))], [.int (((xs 1) >>> (24 &&& 31)) &&& 255)], V) : jS)) rfl ?_
  rw [e]
  refine jl_s (S' := ((24, [(5, .int (b3)), (4, .int 24), (3, .int 0), (2, .int 0), (0, .ref 66), (1, .int (xs 1))], [], V) : jS)) rfl ?_
  refine jl_s (S' := ((25, [(5, .int (b3)), (4, .int 24), (3, .int 0), (2, .int 0), (0, .ref 66), (1, .int (xs 1))], [.int 0], V) : jS)) rfl ?_
  refine jl_s (S' := ((28, [(5, .int (b3)), (4, .int 24), (3, .int 0), (2, .int 0), (0, .ref 66), (1, .int (xs 1))], [], V) : jS)) rfl ?_
  refine jl_s (S' := ((30, [(5, .int (b3)), (4, .int 24), (3, .int 0), (2, .int 0), (0, .ref 66), (1, .int (xs 1))], [.int (b3)], V) : jS)) rfl ?_
  refine jl_iff (e := jm248) (o := 15) rfl (h.1.1) ?_
  refine jl_s (S' := ((35, [(5, .int (b3)), (4, .int 24), (3, .int 0), (2, .int 0), (0, .ref 66), (1, .int (xs 1))], [.int (b3)], V) : jS)) rfl ?_
  refine jl_c (t := 247) (as := [.int (b3)]) (V := V) (r := (.inl (some (.int 1)), V)) (S' := ((38, [(5, .int (b3)), (4, .int 24), (3, .int 0), (2, .int 0), (0, .ref 66), (1, .int (xs 1))], [.int 1], V) : jS)) rfl (jz_sv ((4, xs) : jX) V b3 h ) rfl ?_
  refine jl_s (S' := ((45, [(5, .int (b3)), (4, .int 24), (3, .int 0), (2, .int 0), (0, .ref 66), (1, .int (xs 1))], [], V) : jS)) rfl ?_
  refine jl_s (S' := ((46, [(5, .int (b3)), (4, .int 24), (3, .int 0), (2, .int 0), (0, .ref 66), (1, .int (xs 1))], [.int 0], V) : jS)) rfl ?_
  refine jl_s (S' := ((47, [(2, .int 0), (5, .int (b3)), (4, .int 24), (3, .int 0), (0, .ref 66), (1, .int (xs 1))], [], V) : jS)) rfl ?_
  refine jl_s (S' := ((49, [(2, .int 0), (5, .int (b3)), (4, .int 24), (3, .int 0), (0, .ref 66), (1, .int (xs 1))], [.int (b3)], V) : jS)) rfl ?_
  refine jl_iff (e := jm248) (o := 9) rfl (h.1.1) ?_
  refine jl_s (S' := ((53, [(2, .int 0), (5, .int (b3)), (4, .int 24), (3, .int 0), (0, .ref 66), (1, .int (xs 1))], [.int 0], V) : jS)) rfl ?_
  refine jl_s (S' := ((54, [(2, .int 0), (5, .int (b3)), (4, .int 24), (3, .int 0), (0, .ref 66), (1, .int (xs 1))], [.int 1, .int 0], V) : jS)) rfl ?_
  refine jl_s (S' := ((55, [(2, .int 0), (5, .int (b3)), (4, .int 24), (3, .int 0), (0, .ref 66), (1, .int (xs 1))], [.int 1], V) : jS)) rfl ?_
  refine jl_s (S' := ((59, [(2, .int 0), (5, .int (b3)), (4, .int 24), (3, .int 0), (0, .ref 66), (1, .int (xs 1))], [.int 1], V) : jS)) rfl ?_
  refine jl_s (S' := ((60, [(3, .int 1), (2, .int 0), (5, .int (b3)), (4, .int 24), (0, .ref 66), (1, .int (xs 1))], [], V) : jS)) rfl ?_
  refine jl_s (S' := ((63, [(4, .int 32), (3, .int 1), (2, .int 0), (5, .int (b3)), (0, .ref 66), (1, .int (xs 1))], [], V) : jS)) rfl ?_
  refine jl_s (S' := ((7, [(4, .int 32), (3, .int 1), (2, .int 0), (5, .int (b3)), (0, .ref 66), (1, .int (xs 1))], [], V) : jS)) rfl ?_
  exact hq
set_option maxHeartbeats 4000000 in
set_option maxRecDepth 100000 in
theorem jzl533 (xs : Nat → Int32) (b0 b1 b2 b3 : Int32) : jRun ((4, xs) : jX) 2000 38 245 [.ref 66, .int 0, .int 0, .int 0] (jzv291 b0 b1 b2 b3) = some (.inl (some (.int 0)), (jzv291 b0 b1 b2 b3)) := by
  refine jr_run (e := jm245) rfl (Nat.le_of_ble_eq_true rfl) ?_
  refine jl_s (S' := ((1, [(0, .ref 66), (1, .int 0), (2, .int 0), (3, .int 0)], [.ref 66], (jzv291 b0 b1 b2 b3)) : jS)) rfl ?_
  refine jl_s (S' := ((2, [(0, .ref 66), (1, .int 0), (2, .int 0), (3, .int 0)], [.int 0, .ref 66], (jzv291 b0 b1 b2 b3)) : jS)) rfl ?_
  refine jl_s (S' := ((9, [(0, .ref 66), (1, .int 0), (2, .int 0), (3, .int 0)], [.ref 66], (jzv291 b0 b1 b2 b3)) : jS)) rfl ?_
  refine jl_s (S' := ((10, [(0, .ref 66), (1, .int 0), (2, .int 0), (3, .int 0)], [.int 0, .ref 66], (jzv291 b0 b1 b2 b3)) : jS)) rfl ?_
  refine jl_s (S' := ((17, [(0, .ref 66), (1, .int 0), (2, .int 0), (3, .int 0)], [.ref 66], (jzv291 b0 b1 b2 b3)) : jS)) rfl ?_
  refine jl_s (S' := ((18, [(0, .ref 66), (1, .int 0), (2, .int 0), (3, .int 0)], [.int 0, .ref 66], (jzv291 b0 b1 b2 b3)) : jS)) rfl ?_
  refine jl_s (S' := ((25, [(0, .ref 66), (1, .int 0), (2, .int 0), (3, .int 0)], [.ref 66], (jzv291 b0 b1 b2 b3)) : jS)) rfl ?_
  refine jl_s (S' := ((26, [(0, .ref 66), (1, .int 0), (2, .int 0), (3, .int 0)], [.int 0, .ref 66], (jzv291 b0 b1 b2 b3)) : jS)) rfl ?_
  refine jl_s (S' := ((29, [(0, .ref 66), (1, .int 0), (2, .int 0), (3, .int 0)], [], (jzv291 b0 b1 b2 b3)) : jS)) rfl ?_
  refine jl_s (S' := ((30, [(0, .ref 66), (1, .int 0), (2, .int 0), (3, .int 0)], [.ref 66], (jzv291 b0 b1 b2 b3)) : jS)) rfl ?_
  refine jl_s (S' := ((33, [(0, .ref 66), (1, .int 0), (2, .int 0), (3, .int 0)], [.int 0], (jzv291 b0 b1 b2 b3)) : jS)) rfl ?_
  refine jl_s (S' := ((40, [(0, .ref 66), (1, .int 0), (2, .int 0), (3, .int 0)], [], (jzv291 b0 b1 b2 b3)) : jS)) rfl ?_
  refine jl_s (S' := ((41, [(0, .ref 66), (1, .int 0), (2, .int 0), (3, .int 0)], [.int 0], (jzv291 b0 b1 b2 b3)) : jS)) rfl ?_
  exact jl_r (r := (.inl (some (.int 0)), (jzv291 b0 b1 b2 b3))) rfl
set_option maxHeartbeats 4000000 in
set_option maxRecDepth 100000 in
theorem jzq535 (xs : Nat → Int32) (b0 b1 b2 b3 : Int32) {f : Nat} {q : jO × jH} (hq : jLoop (jRun ((4, xs) : jX) 2000 38) ((4, xs) : jX) jm248 f ((101, [(4, .int 0), (3, .int 1), (2, .int 0), (5, .int (b3)), (0, .ref 66), (1, .int (xs 1))], [], (jzv291 b0 b1 b2 b3)) : jS) = some q) : jLoop (jRun ((4, xs) : jX) 2000 38) ((4, xs) : jX) jm248 (f + 19) ((7, [(4, .int 32), (3, .int 1), (2, .int 0), (5, .int (b3)), (0, .ref 66), (1, .int (xs 1))], [], (jzv291 b0 b1 b2 b3)) : jS) = some q := by
  refine jl_s (S' := ((9, [(4, .int 32), (3, .int 1), (2, .int 0), (5, .int (b3)), (0, .ref 66), (1, .int (xs 1))], [.int 32], (jzv291 b0 b1 b2 b3)) : jS)) rfl ?_
  refine jl_s (S' := ((11, [(4, .int 32), (3, .int 1), (2, .int 0), (5, .int (b3)), (0, .ref 66), (1, .int (xs 1))], [.int 32, .int 32], (jzv291 b0 b1 b2 b3)) : jS)) rfl ?_
  refine jl_s (S' := ((66, [(4, .int 32), (3, .int 1), (2, .int 0), (5, .int (b3)), (0, .ref 66), (1, .int (xs 1))], [], (jzv291 b0 b1 b2 b3)) : jS)) rfl ?_
  refine jl_s (S' := ((67, [(4, .int 32), (3, .int 1), (2, .int 0), (5, .int (b3)), (0, .ref 66), (1, .int (xs 1))], [.ref 66], (jzv291 b0 b1 b2 b3)) : jS)) rfl ?_
  refine jl_s (S' := ((68, [(4, .int 32), (3, .int 1), (2, .int 0), (5, .int (b3)), (0, .ref 66), (1, .int (xs 1))], [.int 0, .ref 66], (jzv291 b0 b1 b2 b3)) : jS)) rfl ?_
  refine jl_s (S' := ((69, [(4, .int 32), (3, .int 1), (2, .int 0), (5, .int (b3)), (0, .ref 66), (1, .int (xs 1))], [.int 0, .int 0, .ref 66], (jzv291 b0 b1 b2 b3)) : jS)) rfl ?_
  refine jl_s (S' := ((72, [(4, .int 32), (3, .int 1), (2, .int 0), (5, .int (b3)), (0, .ref 66), (1, .int (xs 1))], [.int 0, .ref 66], (jzv291 b0 b1 b2 b3)) : jS)) rfl ?_
  refine jl_s (S' := ((73, [(4, .int 32), (3, .int 1), (2, .int 0), (5, .int (b3)), (0, .ref 66), (1, .int (xs 1))], [.ref 66, .int 0, .ref 66], (jzv291 b0 b1 b2 b3)) : jS)) rfl ?_
  refine jl_s (S' := ((76, [(4, .int 32), (3, .int 1), (2, .int 0), (5, .int (b3)), (0, .ref 66), (1, .int (xs 1))], [.int 0, .int 0, .ref 66], (jzv291 b0 b1 b2 b3)) : jS)) rfl ?_
  refine jl_s (S' := ((77, [(4, .int 32), (3, .int 1), (2, .int 0), (5, .int (b3)), (0, .ref 66), (1, .int (xs 1))], [.int 1, .int 0, .int 0, .ref 66], (jzv291 b0 b1 b2 b3)) : jS)) rfl ?_
  refine jl_s (S' := ((78, [(4, .int 32), (3, .int 1), (2, .int 0), (5, .int (b3)), (0, .ref 66), (1, .int (xs 1))], [.int 1, .int 0, .ref 66], (jzv291 b0 b1 b2 b3)) : jS)) rfl ?_
  refine jl_s (S' := ((81, [(4, .int 32), (3, .int 1), (2, .int 0), (5, .int (b3)), (0, .ref 66), (1, .int (xs 1))], [.int 3000, .int 1, .int 0, .ref 66], (jzv291 b0 b1 b2 b3)) : jS)) rfl ?_
  refine jl_s (S' := ((88, [(4, .int 32), (3, .int 1), (2, .int 0), (5, .int (b3)), (0, .ref 66), (1, .int (xs 1))], [.int 0, .ref 66], (jzv291 b0 b1 b2 b3)) : jS)) rfl ?_
  refine jl_s (S' := ((89, [(4, .int 32), (3, .int 1), (2, .int 0), (5, .int (b3)), (0, .ref 66), (1, .int (xs 1))], [.int 0, .int 0, .ref 66], (jzv291 b0 b1 b2 b3)) : jS)) rfl ?_
  refine jl_s (S' := ((90, [(4, .int 32), (3, .int 1), (2, .int 0), (5, .int (b3)), (0, .ref 66), (1, .int (xs 1))], [.int 0, .int 0, .int 0, .ref 66], (jzv291 b0 b1 b2 b3)) : jS)) rfl ?_
  refine jl_c (t := 245) (as := [.ref 66, .int 0, .int 0, .int 0]) (V := (jzv291 b0 b1 b2 b3)) (r := (.inl (some (.int 0)), (jzv291 b0 b1 b2 b3))) (S' := ((93, [(4, .int 32), (3, .int 1), (2, .int 0), (5, .int (b3)), (0, .ref 66), (1, .int (xs 1))], [.int 0], (jzv291 b0 b1 b2 b3)) : jS)) rfl (jzl533 xs b0 b1 b2 b3) rfl ?_
  refine jl_s (S' := ((98, [(4, .int 32), (3, .int 1), (2, .int 0), (5, .int (b3)), (0, .ref 66), (1, .int (xs 1))], [], (jzv291 b0 b1 b2 b3)) : jS)) rfl ?_
  refine jl_s (S' := ((99, [(4, .int 32), (3, .int 1), (2, .int 0), (5, .int (b3)), (0, .ref 66), (1, .int (xs 1))], [.int 0], (jzv291 b0 b1 b2 b3)) : jS)) rfl ?_
  refine jl_s (S' := ((101, [(4, .int 0), (3, .int 1), (2, .int 0), (5, .int (b3)), (0, .ref 66), (1, .int (xs 1))], [], (jzv291 b0 b1 b2 b3)) : jS)) rfl ?_
  exact hq
set_option maxHeartbeats 4000000 in
set_option maxRecDepth 100000 in
theorem jzq537 (xs : Nat → Int32) (b0 b1 b2 b3 : Int32) (e : ((xs 1) >>> (0 &&& 31)) &&& 255 = b0) (h : jbz b0) {f : Nat} {q : jO × jH} (hq : jLoop (jRun ((4, xs) : jX) 2000 38) ((4, xs) : jX) jm248 f ((101, [(4, .int 8), (5, .int (b0)), (3, .int 1), (2, .int 0), (0, .ref 66), (1, .int (xs 1))], [], (jzv291 b0 b1 b2 b3)) : jS) = some q) : jLoop (jRun ((4, xs) : jX) 2000 38) ((4, xs) : jX) jm248 (f + 13) ((101, [(4, .int 0), (3, .int 1), (2, .int 0), (5, .int (b3)), (0, .ref 66), (1, .int (xs 1))], [], (jzv291 b0 b1 b2 b3)) : jS) = some q := by
  refine jl_s (S' := ((103, [(4, .int 0), (3, .int 1), (2, .int 0), (5, .int (b3)), (0, .ref 66), (1, .int (xs 1))], [.int 0], (jzv291 b0 b1 b2 b3)) : jS)) rfl ?_
  refine jl_s (S' := ((105, [(4, .int 0), (3, .int 1), (2, .int 0), (5, .int (b3)), (0, .ref 66), (1, .int (xs 1))], [.int 32, .int 0], (jzv291 b0 b1 b2 b3)) : jS)) rfl ?_
  refine jl_s (S' := ((108, [(4, .int 0), (3, .int 1), (2, .int 0), (5, .int (b3)), (0, .ref 66), (1, .int (xs 1))], [], (jzv291 b0 b1 b2 b3)) : jS)) rfl ?_
  refine jl_s (S' := ((109, [(4, .int 0), (3, .int 1), (2, .int 0), (5, .int (b3)), (0, .ref 66), (1, .int (xs 1))], [.int (xs 1)], (jzv291 b0 b1 b2 b3)) : jS)) rfl ?_
  refine jl_s (S' := ((111, [(4, .int 0), (3, .int 1), (2, .int 0), (5, .int (b3)), (0, .ref 66), (1, .int (xs 1))], [.int 0, .int (xs 1)], (jzv291 b0 b1 b2 b3)) : jS)) rfl ?_
  refine jl_s (S' := ((112, [(4, .int 0), (3, .int 1), (2, .int 0), (5, .int (b3)), (0, .ref 66), (1, .int (xs 1))], [.int ((xs 1) >>> (0 &&& 31))], (jzv291 b0 b1 b2 b3)) : jS)) rfl ?_
  refine jl_s (S' := ((115, [(4, .int 0), (3, .int 1), (2, .int 0), (5, .int (b3)), (0, .ref 66), (1, .int (xs 1))], [.int 255, .int ((xs 1) >>> (0 &&& 31))], (jzv291 b0 b1 b2 b3)) : jS)) rfl ?_
  refine jl_s (S' := ((116, [(4, .int 0), (3, .int 1), (2, .int 0), (5, .int (b3)), (0, .ref 66), (1, .int (xs 1))], [.int (((xs 1) >>> (0 &&& 31)) &&& 255)], (jzv291 b0 b1 b2 b3)) : jS)) rfl ?_
  rw [e]
  refine jl_s (S' := ((118, [(5, .int (b0)), (4, .int 0), (3, .int 1), (2, .int 0), (0, .ref 66), (1, .int (xs 1))], [], (jzv291 b0 b1 b2 b3)) : jS)) rfl ?_
  refine jl_s (S' := ((120, [(5, .int (b0)), (4, .int 0), (3, .int 1), (2, .int 0), (0, .ref 66), (1, .int (xs 1))], [.int (b0)], (jzv291 b0 b1 b2 b3)) : jS)) rfl ?_
  refine jl_ift (e := jm248) (o := 24) rfl (h.1) (t := 144) rfl ?_
  refine jl_s (S' := ((147, [(4, .int 8), (5, .int (b0)), (3, .int 1), (2, .int 0), (0, .ref 66), (1, .int (xs 1))], [], (jzv291 b0 b1 b2 b3)) : jS)) rfl ?_
  refine jl_s (S' := ((101, [(4, .int 8), (5, .int (b0)), (3, .int 1), (2, .int 0), (0, .ref 66), (1, .int (xs 1))], [], (jzv291 b0 b1 b2 b3)) : jS)) rfl ?_
  exact hq
set_option maxHeartbeats 4000000 in
set_option maxRecDepth 100000 in
theorem jzq539 (xs : Nat → Int32) (b0 b1 b2 b3 : Int32) (e : ((xs 1) >>> (8 &&& 31)) &&& 255 = b1) (h : jbz b1) {f : Nat} {q : jO × jH} (hq : jLoop (jRun ((4, xs) : jX) 2000 38) ((4, xs) : jX) jm248 f ((101, [(4, .int 16), (5, .int (b1)), (3, .int 1), (2, .int 0), (0, .ref 66), (1, .int (xs 1))], [], (jzv291 b0 b1 b2 b3)) : jS) = some q) : jLoop (jRun ((4, xs) : jX) 2000 38) ((4, xs) : jX) jm248 (f + 13) ((101, [(4, .int 8), (5, .int (b0)), (3, .int 1), (2, .int 0), (0, .ref 66), (1, .int (xs 1))], [], (jzv291 b0 b1 b2 b3)) : jS) = some q := by
  refine jl_s (S' := ((103, [(4, .int 8), (5, .int (b0)), (3, .int 1), (2, .int 0), (0, .ref 66), (1, .int (xs 1))], [.int 8], (jzv291 b0 b1 b2 b3)) : jS)) rfl ?_
  refine jl_s (S' := ((105, [(4, .int 8), (5, .int (b0)), (3, .int 1), (2, .int 0), (0, .ref 66), (1, .int (xs 1))], [.int 32, .int 8], (jzv291 b0 b1 b2 b3)) : jS)) rfl ?_
  refine jl_s (S' := ((108, [(4, .int 8), (5, .int (b0)), (3, .int 1), (2, .int 0), (0, .ref 66), (1, .int (xs 1))], [], (jzv291 b0 b1 b2 b3)) : jS)) rfl ?_
  refine jl_s (S' := ((109, [(4, .int 8), (5, .int (b0)), (3, .int 1), (2, .int 0), (0, .ref 66), (1, .int (xs 1))], [.int (xs 1)], (jzv291 b0 b1 b2 b3)) : jS)) rfl ?_
  refine jl_s (S' := ((111, [(4, .int 8), (5, .int (b0)), (3, .int 1), (2, .int 0), (0, .ref 66), (1, .int (xs 1))], [.int 8, .int (xs 1)], (jzv291 b0 b1 b2 b3)) : jS)) rfl ?_
  refine jl_s (S' := ((112, [(4, .int 8), (5, .int (b0)), (3, .int 1), (2, .int 0), (0, .ref 66), (1, .int (xs 1))], [.int ((xs 1) >>> (8 &&& 31))], (jzv291 b0 b1 b2 b3)) : jS)) rfl ?_
  refine jl_s (S' := ((115, [(4, .int 8), (5, .int (b0)), (3, .int 1), (2, .int 0), (0, .ref 66), (1, .int (xs 1))], [.int 255, .int ((xs 1) >>> (8 &&& 31))], (jzv291 b0 b1 b2 b3)) : jS)) rfl ?_
  refine jl_s (S' := ((116, [(4, .int 8), (5, .int (b0)), (3, .int 1), (2, .int 0), (0, .ref 66), (1, .int (xs 1))], [.int (((xs 1) >>> (8 &&& 31)) &&& 255)], (jzv291 b0 b1 b2 b3)) : jS)) rfl ?_
  rw [e]
  refine jl_s (S' := ((118, [(5, .int (b1)), (4, .int 8), (3, .int 1), (2, .int 0), (0, .ref 66), (1, .int (xs 1))], [], (jzv291 b0 b1 b2 b3)) : jS)) rfl ?_
  refine jl_s (S' := ((120, [(5, .int (b1)), (4, .int 8), (3, .int 1), (2, .int 0), (0, .ref 66), (1, .int (xs 1))], [.int (b1)], (jzv291 b0 b1 b2 b3)) : jS)) rfl ?_
  refine jl_ift (e := jm248) (o := 24) rfl (h.1) (t := 144) rfl ?_
  refine jl_s (S' := ((147, [(4, .int 16), (5, .int (b1)), (3, .int 1), (2, .int 0), (0, .ref 66), (1, .int (xs 1))], [], (jzv291 b0 b1 b2 b3)) : jS)) rfl ?_
  refine jl_s (S' := ((101, [(4, .int 16), (5, .int (b1)), (3, .int 1), (2, .int 0), (0, .ref 66), (1, .int (xs 1))], [], (jzv291 b0 b1 b2 b3)) : jS)) rfl ?_
  exact hq
set_option maxHeartbeats 4000000 in
set_option maxRecDepth 100000 in
theorem jzq541 (xs : Nat → Int32) (b0 b1 b2 b3 : Int32) (e : ((xs 1) >>> (16 &&& 31)) &&& 255 = b2) (h : jbz b2) {f : Nat} {q : jO × jH} (hq : jLoop (jRun ((4, xs) : jX) 2000 38) ((4, xs) : jX) jm248 f ((101, [(4, .int 24), (5, .int (b2)), (3, .int 1), (2, .int 0), (0, .ref 66), (1, .int (xs 1))], [], (jzv291 b0 b1 b2 b3)) : jS) = some q) : jLoop (jRun ((4, xs) : jX) 2000 38) ((4, xs) : jX) jm248 (f + 13) ((101, [(4, .int 16), (5, .int (b1)), (3, .int 1), (2, .int 0), (0, .ref 66), (1, .int (xs 1))], [], (jzv291 b0 b1 b2 b3)) : jS) = some q := by
  refine jl_s (S' := ((103, [(4, .int 16), (5, .int (b1)), (3, .int 1), (2, .int 0), (0, .ref 66), (1, .int (xs 1))], [.int 16], (jzv291 b0 b1 b2 b3)) : jS)) rfl ?_
  refine jl_s (S' := ((105, [(4, .int 16), (5, .int (b1)), (3, .int 1), (2, .int 0), (0, .ref 66), (1, .int (xs 1))], [.int 32, .int 16], (jzv291 b0 b1 b2 b3)) : jS)) rfl ?_
  refine jl_s (S' := ((108, [(4, .int 16), (5, .int (b1)), (3, .int 1), (2, .int 0), (0, .ref 66), (1, .int (xs 1))], [], (jzv291 b0 b1 b2 b3)) : jS)) rfl ?_
  refine jl_s (S' := ((109, [(4, .int 16), (5, .int (b1)), (3, .int 1), (2, .int 0), (0, .ref 66), (1, .int (xs 1))], [.int (xs 1)], (jzv291 b0 b1 b2 b3)) : jS)) rfl ?_
  refine jl_s (S' := ((111, [(4, .int 16), (5, .int (b1)), (3, .int 1), (2, .int 0), (0, .ref 66), (1, .int (xs 1))], [.int 16, .int (xs 1)], (jzv291 b0 b1 b2 b3)) : jS)) rfl ?_
  refine jl_s (S' := ((112, [(4, .int 16), (5, .int (b1)), (3, .int 1), (2, .int 0), (0, .ref 66), (1, .int (xs 1))], [.int ((xs 1) >>> (16 &&& 31))], (jzv291 b0 b1 b2 b3)) : jS)) rfl ?_
  refine jl_s (S' := ((115, [(4, .int 16), (5, .int (b1)), (3, .int 1), (2, .int 0), (0, .ref 66), (1, .int (xs 1))], [.int 255, .int ((xs 1) >>> (16 &&& 31))], (jzv291 b0 b1 b2 b3)) : jS)) rfl ?_
  refine jl_s (S' := ((116, [(4, .int 16), (5, .int (b1)), (3, .int 1), (2, .int 0), (0, .ref 66), (1, .int (xs 1))], [.int (((xs 1) >>> (16 &&& 31)) &&& 255)], (jzv291 b0 b1 b2 b3)) : jS)) rfl ?_
  rw [e]
  refine jl_s (S' := ((118, [(5, .int (b2)), (4, .int 16), (3, .int 1), (2, .int 0), (0, .ref 66), (1, .int (xs 1))], [], (jzv291 b0 b1 b2 b3)) : jS)) rfl ?_
  refine jl_s (S' := ((120, [(5, .int (b2)), (4, .int 16), (3, .int 1), (2, .int 0), (0, .ref 66), (1, .int (xs 1))], [.int (b2)], (jzv291 b0 b1 b2 b3)) : jS)) rfl ?_
  refine jl_ift (e := jm248) (o := 24) rfl (h.1) (t := 144) rfl ?_
  refine jl_s (S' := ((147, [(4, .int 24), (5, .int (b2)), (3, .int 1), (2, .int 0), (0, .ref 66), (1, .int (xs 1))], [], (jzv291 b0 b1 b2 b3)) : jS)) rfl ?_
  refine jl_s (S' := ((101, [(4, .int 24), (5, .int (b2)), (3, .int 1), (2, .int 0), (0, .ref 66), (1, .int (xs 1))], [], (jzv291 b0 b1 b2 b3)) : jS)) rfl ?_
  exact hq
def jzc201 (b0 b1 b2 b3 : Int32) : jC := .inl (1, 3000, .inl (upd (fun _ => 0) 0 (b3)))
def jzv292 (b0 b1 b2 b3 : Int32) : jH := [jzc182, (jzc181 b0 b1 b2 b3), jzc117, (jzc201 b0 b1 b2 b3), jzc9, jzc9, jzc9, jzc9, jzc9, jzc17, jzc19, jzc19, jzc19, jzc19, jzc19, jzc19, jzc19, jzc19, jzc28, jzc28, jzc28, jzc28, jzc28, jzc28, jzc28, jzc28, jzc28, jzc28, jzc28, jzc28, jzc28, jzc28, jzc43, jzc43, jzc43, jzc43, jzc43, jzc49, jzc49, jzc52, jzc52, jzc52, jzc56, jzc56, jzc59, jzc56, jzc62, jzc28, jzc28, jzc28, jzc28, jzc28, jzc69, jzc71, jzc73, jzc43, jzc76, jzc52, jzc52, jzc80, jzc80, jzc80, jzc84, jzc52, jzc52, jzc52, jzc52, jzc52, jzc52, jzc52, jzc93, jzc93, jzc52, jzc52, jzc98, jzc100, jzc93, jzc52, jzc52, jzc52, jzc52, jzc107, jzc109, jzc111, jzc100, jzc100, jzc100, jzc111, jzc111, jzc200]
def jzc202 : jC := .inr (12, [.int 0, .ref 67, .int 1, .int 0, .ref 68, .ref 69, .ref 70, .ref 71, .ref 72, .int 0, .int 0, .int 0, .int 0, .int 0, .long 0, .int 0, .int 0, .int (-1), .int (-1), .int 0, .ref 73, .ref 74, .ref 75, .ref 76, .ref 77, .ref 78, .ref 79, .ref 80, .int 0, .int 0, .ref 81, .int 0, .ref 82, .ref 83, .ref 84, .ref 85, .ref 86, .ref 87, .ref 88, .ref 89, .ref 90, .ref 91, .ref 92, .ref 93, .ref 94, .ref 95, .int 0, .ref 96, .ref 97, .ref 98, .ref 99, .ref 100, .int 0, .ref 101, .ref 102, .ref 103, .ref 104, .ref 105, .int 0, .int 0, .int 0, .int 0, .int 0, .ref 106, .ref 107, .ref 108, .ref 109, .int 0, .int 0, .ref 110, .int 0, .ref 111, .ref 112, .ref 113, .ref 114, .ref 115, .ref 116, .int 0, .ref 117, .int 0, .ref 118, .int 0, .ref 119, .ref 120, .ref 121, .ref 122, .ref 123, .ref 124, .ref 125, .int 0, .ref 126, .ref 127, .ref 128, .ref 129, .ref 130, .ref 131, .ref 132, .ref 133, .ref 134, .ref 135, .ref 136, .ref 137, .ref 138, .ref 139, .ref 140, .ref 141, .ref 142, .ref 143, .ref 144, .ref 145, .int 0, .int 0, .ref 146, .int 0, .ref 147, .ref 148, .ref 149, .ref 150, .ref 151, .ref 152, .int 0, .int 0])
def jzv293 (b0 b1 b2 b3 : Int32) : jH := [jzc182, (jzc181 b0 b1 b2 b3), jzc202, (jzc201 b0 b1 b2 b3), jzc9, jzc9, jzc9, jzc9, jzc9, jzc17, jzc19, jzc19, jzc19, jzc19, jzc19, jzc19, jzc19, jzc19, jzc28, jzc28, jzc28, jzc28, jzc28, jzc28, jzc28, jzc28, jzc28, jzc28, jzc28, jzc28, jzc28, jzc28, jzc43, jzc43, jzc43, jzc43, jzc43, jzc49, jzc49, jzc52, jzc52, jzc52, jzc56, jzc56, jzc59, jzc56, jzc62, jzc28, jzc28, jzc28, jzc28, jzc28, jzc69, jzc71, jzc73, jzc43, jzc76, jzc52, jzc52, jzc80, jzc80, jzc80, jzc84, jzc52, jzc52, jzc52, jzc52, jzc52, jzc52, jzc52, jzc93, jzc93, jzc52, jzc52, jzc98, jzc100, jzc93, jzc52, jzc52, jzc52, jzc52, jzc107, jzc109, jzc111, jzc100, jzc100, jzc100, jzc111, jzc111, jzc200]
set_option maxHeartbeats 4000000 in
set_option maxRecDepth 100000 in
theorem jzq543 (xs : Nat → Int32) (b0 b1 b2 b3 : Int32) (e : ((xs 1) >>> (24 &&& 31)) &&& 255 = b3) (h : jbn b3) {f : Nat} {q : jO × jH} (hq : jLoop (jRun ((4, xs) : jX) 2000 38) ((4, xs) : jX) jm248 f ((101, [(4, .int 32), (5, .int (b3)), (3, .int 1), (2, .int 0), (0, .ref 66), (1, .int (xs 1))], [], (jzv293 b0 b1 b2 b3)) : jS) = some q) : jLoop (jRun ((4, xs) : jX) 2000 38) ((4, xs) : jX) jm248 (f + 25) ((101, [(4, .int 24), (5, .int (b2)), (3, .int 1), (2, .int 0), (0, .ref 66), (1, .int (xs 1))], [], (jzv291 b0 b1 b2 b3)) : jS) = some q := by
  refine jl_s (S' := ((103, [(4, .int 24), (5, .int (b2)), (3, .int 1), (2, .int 0), (0, .ref 66), (1, .int (xs 1))], [.int 24], (jzv291 b0 b1 b2 b3)) : jS)) rfl ?_
  refine jl_s (S' := ((105, [(4, .int 24), (5, .int (b2)), (3, .int 1), (2, .int 0), (0, .ref 66), (1, .int (xs 1))], [.int 32, .int 24], (jzv291 b0 b1 b2 b3)) : jS)) rfl ?_
  refine jl_s (S' := ((108, [(4, .int 24), (5, .int (b2)), (3, .int 1), (2, .int 0), (0, .ref 66), (1, .int (xs 1))], [], (jzv291 b0 b1 b2 b3)) : jS)) rfl ?_
  refine jl_s (S' := ((109, [(4, .int 24), (5, .int (b2)), (3, .int 1), (2, .int 0), (0, .ref 66), (1, .int (xs 1))], [.int (xs 1)], (jzv291 b0 b1 b2 b3)) : jS)) rfl ?_
  refine jl_s (S' := ((111, [(4, .int 24), (5, .int (b2)), (3, .int 1), (2, .int 0), (0, .ref 66), (1, .int (xs 1))], [.int 24, .int (xs 1)], (jzv291 b0 b1 b2 b3)) : jS)) rfl ?_
  refine jl_s (S' := ((112, [(4, .int 24), (5, .int (b2)), (3, .int 1), (2, .int 0), (0, .ref 66), (1, .int (xs 1))], [.int ((xs 1) >>> (24 &&& 31))], (jzv291 b0 b1 b2 b3)) : jS)) rfl ?_
  refine jl_s (S' := ((115, [(4, .int 24), (5, .int (b2)), (3, .int 1), (2, .int 0), (0, .ref 66), (1, .int (xs 1))], [.int 255, .int ((xs 1) >>> (24 &&& 31))], (jzv291 b0 b1 b2 b3)) : jS)) rfl ?_
  refine jl_s (S' := ((116, [(4, .int 24), (5, .int (b2)), (3, .int 1), (2, .int 0), (0, .ref 66), (1, .int (xs 1))], [.int (((xs 1) >>> (24 &&& 31)) &&& 255)], (jzv291 b0 b1 b2 b3)) : jS)) rfl ?_
  rw [e]
  refine jl_s (S' := ((118, [(5, .int (b3)), (4, .int 24), (3, .int 1), (2, .int 0), (0, .ref 66), (1, .int (xs 1))], [], (jzv291 b0 b1 b2 b3)) : jS)) rfl ?_
  refine jl_s (S' := ((120, [(5, .int (b3)), (4, .int 24), (3, .int 1), (2, .int 0), (0, .ref 66), (1, .int (xs 1))], [.int (b3)], (jzv291 b0 b1 b2 b3)) : jS)) rfl ?_
  refine jl_iff (e := jm248) (o := 24) rfl (h.1) ?_
  refine jl_s (S' := ((124, [(5, .int (b3)), (4, .int 24), (3, .int 1), (2, .int 0), (0, .ref 66), (1, .int (xs 1))], [.ref 66], (jzv291 b0 b1 b2 b3)) : jS)) rfl ?_
  refine jl_s (S' := ((127, [(5, .int (b3)), (4, .int 24), (3, .int 1), (2, .int 0), (0, .ref 66), (1, .int (xs 1))], [.ref 67], (jzv291 b0 b1 b2 b3)) : jS)) rfl ?_
  refine jl_s (S' := ((128, [(5, .int (b3)), (4, .int 24), (3, .int 1), (2, .int 0), (0, .ref 66), (1, .int (xs 1))], [.ref 66, .ref 67], (jzv291 b0 b1 b2 b3)) : jS)) rfl ?_
  refine jl_s (S' := ((131, [(5, .int (b3)), (4, .int 24), (3, .int 1), (2, .int 0), (0, .ref 66), (1, .int (xs 1))], [.int 0, .ref 67], (jzv291 b0 b1 b2 b3)) : jS)) rfl ?_
  refine jl_s (S' := ((133, [(5, .int (b3)), (4, .int 24), (3, .int 1), (2, .int 0), (0, .ref 66), (1, .int (xs 1))], [.int (b3), .int 0, .ref 67], (jzv291 b0 b1 b2 b3)) : jS)) rfl ?_
  refine jl_s (S' := ((134, [(5, .int (b3)), (4, .int 24), (3, .int 1), (2, .int 0), (0, .ref 66), (1, .int (xs 1))], [], (jzv292 b0 b1 b2 b3)) : jS)) rfl ?_
  refine jl_s (S' := ((135, [(5, .int (b3)), (4, .int 24), (3, .int 1), (2, .int 0), (0, .ref 66), (1, .int (xs 1))], [.ref 66], (jzv292 b0 b1 b2 b3)) : jS)) rfl ?_
  refine jl_s (S' := ((136, [(5, .int (b3)), (4, .int 24), (3, .int 1), (2, .int 0), (0, .ref 66), (1, .int (xs 1))], [.ref 66, .ref 66], (jzv292 b0 b1 b2 b3)) : jS)) rfl ?_
  refine jl_s (S' := ((139, [(5, .int (b3)), (4, .int 24), (3, .int 1), (2, .int 0), (0, .ref 66), (1, .int (xs 1))], [.int 0, .ref 66], (jzv292 b0 b1 b2 b3)) : jS)) rfl ?_
  refine jl_s (S' := ((140, [(5, .int (b3)), (4, .int 24), (3, .int 1), (2, .int 0), (0, .ref 66), (1, .int (xs 1))], [.int 1, .int 0, .ref 66], (jzv292 b0 b1 b2 b3)) : jS)) rfl ?_
  refine jl_s (S' := ((141, [(5, .int (b3)), (4, .int 24), (3, .int 1), (2, .int 0), (0, .ref 66), (1, .int (xs 1))], [.int 1, .ref 66], (jzv292 b0 b1 b2 b3)) : jS)) rfl ?_
  refine jl_s (S' := ((144, [(5, .int (b3)), (4, .int 24), (3, .int 1), (2, .int 0), (0, .ref 66), (1, .int (xs 1))], [], (jzv293 b0 b1 b2 b3)) : jS)) rfl ?_
  refine jl_s (S' := ((147, [(4, .int 32), (5, .int (b3)), (3, .int 1), (2, .int 0), (0, .ref 66), (1, .int (xs 1))], [], (jzv293 b0 b1 b2 b3)) : jS)) rfl ?_
  refine jl_s (S' := ((101, [(4, .int 32), (5, .int (b3)), (3, .int 1), (2, .int 0), (0, .ref 66), (1, .int (xs 1))], [], (jzv293 b0 b1 b2 b3)) : jS)) rfl ?_
  exact hq
set_option maxHeartbeats 4000000 in
set_option maxRecDepth 100000 in
theorem jzq545 (xs : Nat → Int32) (b0 b1 b2 b3 : Int32) {f : Nat} : jLoop (jRun ((4, xs) : jX) 2000 38) ((4, xs) : jX) jm248 (f + 6) ((101, [(4, .int 32), (5, .int (b3)), (3, .int 1), (2, .int 0), (0, .ref 66), (1, .int (xs 1))], [], (jzv293 b0 b1 b2 b3)) : jS) = some (.inl (some (.int 1)), (jzv293 b0 b1 b2 b3)) := by
  refine jl_s (S' := ((103, [(4, .int 32), (5, .int (b3)), (3, .int 1), (2, .int 0), (0, .ref 66), (1, .int (xs 1))], [.int 32], (jzv293 b0 b1 b2 b3)) : jS)) rfl ?_
  refine jl_s (S' := ((105, [(4, .int 32), (5, .int (b3)), (3, .int 1), (2, .int 0), (0, .ref 66), (1, .int (xs 1))], [.int 32, .int 32], (jzv293 b0 b1 b2 b3)) : jS)) rfl ?_
  refine jl_s (S' := ((150, [(4, .int 32), (5, .int (b3)), (3, .int 1), (2, .int 0), (0, .ref 66), (1, .int (xs 1))], [], (jzv293 b0 b1 b2 b3)) : jS)) rfl ?_
  refine jl_s (S' := ((151, [(4, .int 32), (5, .int (b3)), (3, .int 1), (2, .int 0), (0, .ref 66), (1, .int (xs 1))], [.ref 66], (jzv293 b0 b1 b2 b3)) : jS)) rfl ?_
  refine jl_s (S' := ((154, [(4, .int 32), (5, .int (b3)), (3, .int 1), (2, .int 0), (0, .ref 66), (1, .int (xs 1))], [.int 1], (jzv293 b0 b1 b2 b3)) : jS)) rfl ?_
  exact jl_r (r := (.inl (some (.int 1)), (jzv293 b0 b1 b2 b3))) rfl
set_option maxHeartbeats 4000000 in
set_option maxRecDepth 100000 in
theorem jzrp_ZZZV (xs : Nat → Int32) (b0 b1 b2 b3 : Int32) (e0 : ((xs 1) >>> (0 &&& 31)) &&& 255 = b0) (e1 : ((xs 1) >>> (8 &&& 31)) &&& 255 = b1) (e2 : ((xs 1) >>> (16 &&& 31)) &&& 255 = b2) (e3 : ((xs 1) >>> (24 &&& 31)) &&& 255 = b3) (h0 : jbz b0) (h1 : jbz b1) (h2 : jbz b2) (h3 : jbv b3) : jRun ((4, xs) : jX) 2000 39 248 [.ref 66, .int (xs 1)] (jzv291 b0 b1 b2 b3) = some (.inl (some (.int 1)), (jzv293 b0 b1 b2 b3)) := by
  refine jr_run (e := jm248) rfl (Nat.le_of_ble_eq_true rfl) ?_
  refine jzq506 xs b0 b1 b2 b3 _ ?_
  refine jzq508 xs b0 b1 b2 b3 _ e0 h0 ?_
  refine jzq510 xs b0 b1 b2 b3 _ e1 h1 ?_
  refine jzq512 xs b0 b1 b2 b3 _ e2 h2 ?_
  refine jzq532 xs b0 b1 b2 b3 _ e3 h3 ?_
  refine jzq535 xs b0 b1 b2 b3 ?_
  refine jzq537 xs b0 b1 b2 b3 e0 h0 ?_
  refine jzq539 xs b0 b1 b2 b3 e1 h1 ?_
  refine jzq541 xs b0 b1 b2 b3 e2 h2 ?_
  refine jzq543 xs b0 b1 b2 b3 e3 h3.1 ?_
  exact jzq545 xs b0 b1 b2 b3
set_option maxHeartbeats 4000000 in
set_option maxRecDepth 100000 in
theorem jzl546 (xs : Nat → Int32) (hop : xs 0 &&& 31 = 0) (b0 b1 b2 b3 : Int32) (e0 : ((Int32.toUInt32 (xs 1) >>> (Int32.toUInt32 0 &&& Int32.toUInt32 31)).toInt32) &&& 255 = b0) (e1 : ((Int32.toUInt32 (xs 1) >>> (Int32.toUInt32 8 &&& Int32.toUInt32 31)).toInt32) &&& 255 = b1) (e2 : ((Int32.toUInt32 (xs 1) >>> (Int32.toUInt32 16 &&& Int32.toUInt32 31)).toInt32) &&& 255 = b2) (e3 : ((Int32.toUInt32 (xs 1) >>> (Int32.toUInt32 24 &&& Int32.toUInt32 31)).toInt32) &&& 255 = b3) (g0 : ((xs 1) >>> (0 &&& 31)) &&& 255 = b0) (g1 : ((xs 1) >>> (8 &&& 31)) &&& 255 = b1) (g2 : ((xs 1) >>> (16 &&& 31)) &&& 255 = b2) (g3 : ((xs 1) >>> (24 &&& 31)) &&& 255 = b3) (h0 : jbz b0) (h1 : jbz b1) (h2 : jbz b2) (h3 : jbv b3) : jRun ((4, xs) : jX) 2000 39 244 [.ref 66] (jzv293 b0 b1 b2 b3) = some (.inl (some (.int 0)), (jzv293 b0 b1 b2 b3)) := by
  refine jr_run (e := jm244) rfl (Nat.le_of_ble_eq_true rfl) ?_
  refine jl_s (S' := ((1, [(0, .ref 66)], [.ref 66], (jzv293 b0 b1 b2 b3)) : jS)) rfl ?_
  refine jl_s (S' := ((4, [(0, .ref 66)], [.int 0], (jzv293 b0 b1 b2 b3)) : jS)) rfl ?_
  exact jl_r (r := (.inl (some (.int 0)), (jzv293 b0 b1 b2 b3))) rfl
set_option maxHeartbeats 4000000 in
set_option maxRecDepth 100000 in
theorem jzl547 (xs : Nat → Int32) (hop : xs 0 &&& 31 = 0) (b0 b1 b2 b3 : Int32) (e0 : ((Int32.toUInt32 (xs 1) >>> (Int32.toUInt32 0 &&& Int32.toUInt32 31)).toInt32) &&& 255 = b0) (e1 : ((Int32.toUInt32 (xs 1) >>> (Int32.toUInt32 8 &&& Int32.toUInt32 31)).toInt32) &&& 255 = b1) (e2 : ((Int32.toUInt32 (xs 1) >>> (Int32.toUInt32 16 &&& Int32.toUInt32 31)).toInt32) &&& 255 = b2) (e3 : ((Int32.toUInt32 (xs 1) >>> (Int32.toUInt32 24 &&& Int32.toUInt32 31)).toInt32) &&& 255 = b3) (g0 : ((xs 1) >>> (0 &&& 31)) &&& 255 = b0) (g1 : ((xs 1) >>> (8 &&& 31)) &&& 255 = b1) (g2 : ((xs 1) >>> (16 &&& 31)) &&& 255 = b2) (g3 : ((xs 1) >>> (24 &&& 31)) &&& 255 = b3) (h0 : jbz b0) (h1 : jbz b1) (h2 : jbz b2) (h3 : jbv b3) : jLoop (jRun ((4, xs) : jX) 2000 39) ((4, xs) : jX) jm18 1000 ((23, [(4, .int 0), (3, .ref 153), (2, .ref 66), (1, .ref 64), (0, .ref 63)], [], jzv181) : jS) = some (.inl (some (.int 1)), (jzv293 b0 b1 b2 b3)) := by
  refine jl_s (S' := ((25, [(4, .int 0), (3, .ref 153), (2, .ref 66), (1, .ref 64), (0, .ref 63)], [.int 0], jzv181) : jS)) rfl ?_
  refine jl_s (S' := ((26, [(4, .int 0), (3, .ref 153), (2, .ref 66), (1, .ref 64), (0, .ref 63)], [.ref 63, .int 0], jzv181) : jS)) rfl ?_
  refine jl_s (S' := ((27, [(4, .int 0), (3, .ref 153), (2, .ref 66), (1, .ref 64), (0, .ref 63)], [.int 4, .int 0], jzv181) : jS)) rfl ?_
  refine jl_s (S' := ((28, [(4, .int 0), (3, .ref 153), (2, .ref 66), (1, .ref 64), (0, .ref 63)], [.int 4, .int 4, .int 0], jzv181) : jS)) rfl ?_
  refine jl_s (S' := ((29, [(4, .int 0), (3, .ref 153), (2, .ref 66), (1, .ref 64), (0, .ref 63)], [.int 0, .int 0], jzv181) : jS)) rfl ?_
  refine jl_s (S' := ((32, [(4, .int 0), (3, .ref 153), (2, .ref 66), (1, .ref 64), (0, .ref 63)], [], jzv181) : jS)) rfl ?_
  refine jl_s (S' := ((33, [(4, .int 0), (3, .ref 153), (2, .ref 66), (1, .ref 64), (0, .ref 63)], [.ref 63], jzv181) : jS)) rfl ?_
  refine jl_s (S' := ((35, [(4, .int 0), (3, .ref 153), (2, .ref 66), (1, .ref 64), (0, .ref 63)], [.int 0, .ref 63], jzv181) : jS)) rfl ?_
  refine jl_s (S' := ((36, [(4, .int 0), (3, .ref 153), (2, .ref 66), (1, .ref 64), (0, .ref 63)], [.int (xs 0)], jzv181) : jS)) rfl ?_
  refine jl_s (S' := ((38, [(4, .int 0), (3, .ref 153), (2, .ref 66), (1, .ref 64), (0, .ref 63)], [.int 31, .int (xs 0)], jzv181) : jS)) rfl ?_
  refine jl_s (S' := ((39, [(4, .int 0), (3, .ref 153), (2, .ref 66), (1, .ref 64), (0, .ref 63)], [.int ((xs 0) &&& 31)], jzv181) : jS)) rfl ?_
  rw [hop]
  refine jl_s (S' := ((128, [(4, .int 0), (3, .ref 153), (2, .ref 66), (1, .ref 64), (0, .ref 63)], [], jzv181) : jS)) rfl ?_
  refine jl_s (S' := ((129, [(4, .int 0), (3, .ref 153), (2, .ref 66), (1, .ref 64), (0, .ref 63)], [.ref 64], jzv181) : jS)) rfl ?_
  refine jl_s (S' := ((130, [(4, .int 0), (3, .ref 153), (2, .ref 66), (1, .ref 64), (0, .ref 63)], [.ref 63, .ref 64], jzv181) : jS)) rfl ?_
  refine jl_s (S' := ((132, [(4, .int 0), (3, .ref 153), (2, .ref 66), (1, .ref 64), (0, .ref 63)], [.int 0, .ref 63, .ref 64], jzv181) : jS)) rfl ?_
  refine jl_s (S' := ((133, [(4, .int 0), (3, .ref 153), (2, .ref 66), (1, .ref 64), (0, .ref 63)], [.int 1, .int 0, .ref 63, .ref 64], jzv181) : jS)) rfl ?_
  refine jl_s (S' := ((134, [(4, .int 0), (3, .ref 153), (2, .ref 66), (1, .ref 64), (0, .ref 63)], [.int 1, .ref 63, .ref 64], jzv181) : jS)) rfl ?_
  refine jl_s (S' := ((135, [(4, .int 0), (3, .ref 153), (2, .ref 66), (1, .ref 64), (0, .ref 63)], [.int (xs 1), .ref 64], jzv181) : jS)) rfl ?_
  refine jl_s (S' := ((136, [(4, .int 0), (3, .ref 153), (2, .ref 66), (1, .ref 64), (0, .ref 63)], [.ref 153, .int (xs 1), .ref 64], jzv181) : jS)) rfl ?_
  refine jl_c (t := 0) (as := [.ref 64, .int (xs 1), .ref 153]) (V := jzv181) (r := (.inl (some (.int 0)), (jzv291 b0 b1 b2 b3))) (S' := ((139, [(4, .int 0), (3, .ref 153), (2, .ref 66), (1, .ref 64), (0, .ref 63)], [.int 0], (jzv291 b0 b1 b2 b3)) : jS)) rfl (jzl530 xs hop b0 b1 b2 b3 e0 e1 e2 e3 g0 g1 g2 g3 h0 h1 h2 h3) rfl ?_
  refine jl_s (S' := ((141, [(5, .int 0), (4, .int 0), (3, .ref 153), (2, .ref 66), (1, .ref 64), (0, .ref 63)], [], (jzv291 b0 b1 b2 b3)) : jS)) rfl ?_
  refine jl_s (S' := ((142, [(5, .int 0), (4, .int 0), (3, .ref 153), (2, .ref 66), (1, .ref 64), (0, .ref 63)], [.ref 66], (jzv291 b0 b1 b2 b3)) : jS)) rfl ?_
  refine jl_s (S' := ((143, [(5, .int 0), (4, .int 0), (3, .ref 153), (2, .ref 66), (1, .ref 64), (0, .ref 63)], [.ref 63, .ref 66], (jzv291 b0 b1 b2 b3)) : jS)) rfl ?_
  refine jl_s (S' := ((145, [(5, .int 0), (4, .int 0), (3, .ref 153), (2, .ref 66), (1, .ref 64), (0, .ref 63)], [.int 0, .ref 63, .ref 66], (jzv291 b0 b1 b2 b3)) : jS)) rfl ?_
  refine jl_s (S' := ((146, [(5, .int 0), (4, .int 0), (3, .ref 153), (2, .ref 66), (1, .ref 64), (0, .ref 63)], [.int 1, .int 0, .ref 63, .ref 66], (jzv291 b0 b1 b2 b3)) : jS)) rfl ?_
  refine jl_s (S' := ((147, [(5, .int 0), (4, .int 0), (3, .ref 153), (2, .ref 66), (1, .ref 64), (0, .ref 63)], [.int 1, .ref 63, .ref 66], (jzv291 b0 b1 b2 b3)) : jS)) rfl ?_
  refine jl_s (S' := ((148, [(5, .int 0), (4, .int 0), (3, .ref 153), (2, .ref 66), (1, .ref 64), (0, .ref 63)], [.int (xs 1), .ref 66], (jzv291 b0 b1 b2 b3)) : jS)) rfl ?_
  refine jl_c (t := 248) (as := [.ref 66, .int (xs 1)]) (V := (jzv291 b0 b1 b2 b3)) (r := (.inl (some (.int 1)), (jzv293 b0 b1 b2 b3))) (S' := ((151, [(5, .int 0), (4, .int 0), (3, .ref 153), (2, .ref 66), (1, .ref 64), (0, .ref 63)], [.int 1], (jzv293 b0 b1 b2 b3)) : jS)) rfl (jzrp_ZZZV xs b0 b1 b2 b3 g0 g1 g2 g3 h0 h1 h2 h3 ) rfl ?_
  refine jl_s (S' := ((153, [(6, .int 1), (5, .int 0), (4, .int 0), (3, .ref 153), (2, .ref 66), (1, .ref 64), (0, .ref 63)], [], (jzv293 b0 b1 b2 b3)) : jS)) rfl ?_
  refine jl_s (S' := ((154, [(6, .int 1), (5, .int 0), (4, .int 0), (3, .ref 153), (2, .ref 66), (1, .ref 64), (0, .ref 63)], [.ref 66], (jzv293 b0 b1 b2 b3)) : jS)) rfl ?_
  refine jl_c (t := 244) (as := [.ref 66]) (V := (jzv293 b0 b1 b2 b3)) (r := (.inl (some (.int 0)), (jzv293 b0 b1 b2 b3))) (S' := ((157, [(6, .int 1), (5, .int 0), (4, .int 0), (3, .ref 153), (2, .ref 66), (1, .ref 64), (0, .ref 63)], [.int 0], (jzv293 b0 b1 b2 b3)) : jS)) rfl (jzl546 xs hop b0 b1 b2 b3 e0 e1 e2 e3 g0 g1 g2 g3 h0 h1 h2 h3) rfl ?_
  refine jl_s (S' := ((159, [(6, .int 1), (5, .int 0), (4, .int 0), (3, .ref 153), (2, .ref 66), (1, .ref 64), (0, .ref 63)], [.int 0, .int 0], (jzv293 b0 b1 b2 b3)) : jS)) rfl ?_
  refine jl_s (S' := ((164, [(6, .int 1), (5, .int 0), (4, .int 0), (3, .ref 153), (2, .ref 66), (1, .ref 64), (0, .ref 63)], [], (jzv293 b0 b1 b2 b3)) : jS)) rfl ?_
  refine jl_s (S' := ((166, [(6, .int 1), (5, .int 0), (4, .int 0), (3, .ref 153), (2, .ref 66), (1, .ref 64), (0, .ref 63)], [.int 0], (jzv293 b0 b1 b2 b3)) : jS)) rfl ?_
  refine jl_s (S' := ((169, [(6, .int 1), (5, .int 0), (4, .int 0), (3, .ref 153), (2, .ref 66), (1, .ref 64), (0, .ref 63)], [], (jzv293 b0 b1 b2 b3)) : jS)) rfl ?_
  refine jl_s (S' := ((170, [(6, .int 1), (5, .int 0), (4, .int 0), (3, .ref 153), (2, .ref 66), (1, .ref 64), (0, .ref 63)], [.ref 153], (jzv293 b0 b1 b2 b3)) : jS)) rfl ?_
  refine jl_s (S' := ((171, [(6, .int 1), (5, .int 0), (4, .int 0), (3, .ref 153), (2, .ref 66), (1, .ref 64), (0, .ref 63)], [.int 0, .ref 153], (jzv293 b0 b1 b2 b3)) : jS)) rfl ?_
  refine jl_s (S' := ((172, [(6, .int 1), (5, .int 0), (4, .int 0), (3, .ref 153), (2, .ref 66), (1, .ref 64), (0, .ref 63)], [.long 1], (jzv293 b0 b1 b2 b3)) : jS)) rfl ?_
  refine jl_s (S' := ((174, [(6, .int 1), (5, .int 0), (4, .int 0), (3, .ref 153), (2, .ref 66), (1, .ref 64), (0, .ref 63)], [.int 1, .long 1], (jzv293 b0 b1 b2 b3)) : jS)) rfl ?_
  refine jl_s (S' := ((175, [(6, .int 1), (5, .int 0), (4, .int 0), (3, .ref 153), (2, .ref 66), (1, .ref 64), (0, .ref 63)], [.long 1, .long 1], (jzv293 b0 b1 b2 b3)) : jS)) rfl ?_
  refine jl_s (S' := ((176, [(6, .int 1), (5, .int 0), (4, .int 0), (3, .ref 153), (2, .ref 66), (1, .ref 64), (0, .ref 63)], [.int 0], (jzv293 b0 b1 b2 b3)) : jS)) rfl ?_
  refine jl_s (S' := ((181, [(6, .int 1), (5, .int 0), (4, .int 0), (3, .ref 153), (2, .ref 66), (1, .ref 64), (0, .ref 63)], [], (jzv293 b0 b1 b2 b3)) : jS)) rfl ?_
  refine jl_s (S' := ((1193, [(6, .int 1), (5, .int 0), (4, .int 0), (3, .ref 153), (2, .ref 66), (1, .ref 64), (0, .ref 63)], [], (jzv293 b0 b1 b2 b3)) : jS)) rfl ?_
  refine jl_s (S' := ((1196, [(4, .int 4), (6, .int 1), (5, .int 0), (3, .ref 153), (2, .ref 66), (1, .ref 64), (0, .ref 63)], [], (jzv293 b0 b1 b2 b3)) : jS)) rfl ?_
  refine jl_s (S' := ((23, [(4, .int 4), (6, .int 1), (5, .int 0), (3, .ref 153), (2, .ref 66), (1, .ref 64), (0, .ref 63)], [], (jzv293 b0 b1 b2 b3)) : jS)) rfl ?_
  refine jl_s (S' := ((25, [(4, .int 4), (6, .int 1), (5, .int 0), (3, .ref 153), (2, .ref 66), (1, .ref 64), (0, .ref 63)], [.int 4], (jzv293 b0 b1 b2 b3)) : jS)) rfl ?_
  refine jl_s (S' := ((26, [(4, .int 4), (6, .int 1), (5, .int 0), (3, .ref 153), (2, .ref 66), (1, .ref 64), (0, .ref 63)], [.ref 63, .int 4], (jzv293 b0 b1 b2 b3)) : jS)) rfl ?_
  refine jl_s (S' := ((27, [(4, .int 4), (6, .int 1), (5, .int 0), (3, .ref 153), (2, .ref 66), (1, .ref 64), (0, .ref 63)], [.int 4, .int 4], (jzv293 b0 b1 b2 b3)) : jS)) rfl ?_
  refine jl_s (S' := ((28, [(4, .int 4), (6, .int 1), (5, .int 0), (3, .ref 153), (2, .ref 66), (1, .ref 64), (0, .ref 63)], [.int 4, .int 4, .int 4], (jzv293 b0 b1 b2 b3)) : jS)) rfl ?_
  refine jl_s (S' := ((29, [(4, .int 4), (6, .int 1), (5, .int 0), (3, .ref 153), (2, .ref 66), (1, .ref 64), (0, .ref 63)], [.int 0, .int 4], (jzv293 b0 b1 b2 b3)) : jS)) rfl ?_
  refine jl_s (S' := ((1199, [(4, .int 4), (6, .int 1), (5, .int 0), (3, .ref 153), (2, .ref 66), (1, .ref 64), (0, .ref 63)], [], (jzv293 b0 b1 b2 b3)) : jS)) rfl ?_
  refine jl_s (S' := ((1200, [(4, .int 4), (6, .int 1), (5, .int 0), (3, .ref 153), (2, .ref 66), (1, .ref 64), (0, .ref 63)], [.int 1], (jzv293 b0 b1 b2 b3)) : jS)) rfl ?_
  exact jl_r (r := (.inl (some (.int 1)), (jzv293 b0 b1 b2 b3))) rfl
-- op 0 ZZZV: jzl547
def jzv294 (b0 b1 b2 b3 : Int32) : jH := [jzc182, (jzc183 b0 b1 b2 b3), jzc117, jzc7, jzc9, jzc9, jzc9, jzc9, jzc9, jzc17, jzc19, jzc19, jzc19, jzc19, jzc19, jzc19, jzc19, jzc19, jzc28, jzc28, jzc28, jzc28, jzc28, jzc28, jzc28, jzc28, jzc28, jzc28, jzc28, jzc28, jzc28, jzc28, jzc43, jzc43, jzc43, jzc43, jzc43, jzc49, jzc49, jzc52, jzc52, jzc52, jzc56, jzc56, jzc59, jzc56, jzc62, jzc28, jzc28, jzc28, jzc28, jzc28, jzc69, jzc71, jzc73, jzc43, jzc76, jzc52, jzc52, jzc80, jzc80, jzc80, jzc84, jzc52, jzc52, jzc52, jzc52, jzc52, jzc52, jzc52, jzc93, jzc93, jzc52, jzc52, jzc98, jzc100, jzc93, jzc52, jzc52, jzc52, jzc52, jzc107, jzc109, jzc111, jzc100, jzc100, jzc100, jzc111, jzc111, jzc200]
set_option maxHeartbeats 4000000 in
set_option maxRecDepth 100000 in
theorem jzl548 (xs : Nat → Int32) (hop : xs 0 &&& 31 = 0) (b0 b1 b2 b3 : Int32) (e0 : ((Int32.toUInt32 (xs 1) >>> (Int32.toUInt32 0 &&& Int32.toUInt32 31)).toInt32) &&& 255 = b0) (e1 : ((Int32.toUInt32 (xs 1) >>> (Int32.toUInt32 8 &&& Int32.toUInt32 31)).toInt32) &&& 255 = b1) (e2 : ((Int32.toUInt32 (xs 1) >>> (Int32.toUInt32 16 &&& Int32.toUInt32 31)).toInt32) &&& 255 = b2) (e3 : ((Int32.toUInt32 (xs 1) >>> (Int32.toUInt32 24 &&& Int32.toUInt32 31)).toInt32) &&& 255 = b3) (g0 : ((xs 1) >>> (0 &&& 31)) &&& 255 = b0) (g1 : ((xs 1) >>> (8 &&& 31)) &&& 255 = b1) (g2 : ((xs 1) >>> (16 &&& 31)) &&& 255 = b2) (g3 : ((xs 1) >>> (24 &&& 31)) &&& 255 = b3) (h0 : jbz b0) (h1 : jbz b1) (h2 : jbv b2) (h3 : jbz b3) : jRun ((4, xs) : jX) 2000 39 0 [.ref 64, .int (xs 1), .ref 153] jzv181 = some (.inl (some (.int 0)), (jzv294 b0 b1 b2 b3)) := by
  refine jr_run (e := jm0) rfl (Nat.le_of_ble_eq_true rfl) ?_
  refine jl_s (S' := ((1, [(0, .ref 64), (1, .int (xs 1)), (2, .ref 153)], [.ref 153], jzv181) : jS)) rfl ?_
  refine jl_s (S' := ((2, [(0, .ref 64), (1, .int (xs 1)), (2, .ref 153)], [.int 0, .ref 153], jzv181) : jS)) rfl ?_
  refine jl_s (S' := ((3, [(0, .ref 64), (1, .int (xs 1)), (2, .ref 153)], [.ref 64, .int 0, .ref 153], jzv181) : jS)) rfl ?_
  refine jl_s (S' := ((4, [(0, .ref 64), (1, .int (xs 1)), (2, .ref 153)], [.int (xs 1), .ref 64, .int 0, .ref 153], jzv181) : jS)) rfl ?_
  refine jl_c (t := 20) (as := [.ref 64, .int (xs 1)]) (V := jzv181) (r := (.inl (some (.int 1)), (jzv264 b0 b1 b2 b3))) (S' := ((7, [(0, .ref 64), (1, .int (xs 1)), (2, .ref 153)], [.int 1, .int 0, .ref 153], (jzv264 b0 b1 b2 b3)) : jS)) rfl (jzcp_ZZVZ xs b0 b1 b2 b3 e0 e1 e2 e3 h0 h1 h2 h3 ) rfl ?_
  refine jl_s (S' := ((8, [(0, .ref 64), (1, .int (xs 1)), (2, .ref 153)], [.long 1, .int 0, .ref 153], (jzv264 b0 b1 b2 b3)) : jS)) rfl ?_
  refine jl_s (S' := ((9, [(0, .ref 64), (1, .int (xs 1)), (2, .ref 153)], [], (jzv294 b0 b1 b2 b3)) : jS)) rfl ?_
  refine jl_s (S' := ((18, [(0, .ref 64), (1, .int (xs 1)), (2, .ref 153)], [], (jzv294 b0 b1 b2 b3)) : jS)) rfl ?_
  refine jl_s (S' := ((19, [(0, .ref 64), (1, .int (xs 1)), (2, .ref 153)], [.int 0], (jzv294 b0 b1 b2 b3)) : jS)) rfl ?_
  exact jl_r (r := (.inl (some (.int 0)), (jzv294 b0 b1 b2 b3))) rfl
set_option maxHeartbeats 4000000 in
set_option maxRecDepth 100000 in
theorem jzq550 (xs : Nat → Int32) (b0 b1 b2 b3 : Int32) (V : jH) (e : ((xs 1) >>> (16 &&& 31)) &&& 255 = b2) (h : jbv b2) {f : Nat} {q : jO × jH} (hq : jLoop (jRun ((4, xs) : jX) 2000 38) ((4, xs) : jX) jm248 f ((7, [(4, .int 24), (3, .int 1), (2, .int 0), (5, .int (b2)), (0, .ref 66), (1, .int (xs 1))], [], V) : jS) = some q) : jLoop (jRun ((4, xs) : jX) 2000 38) ((4, xs) : jX) jm248 (f + 27) ((7, [(4, .int 16), (3, .int 0), (2, .int 0), (5, .int (b1)), (0, .ref 66), (1, .int (xs 1))], [], V) : jS) = some q := by
  refine jl_s (S' := ((9, [(4, .int 16), (3, .int 0), (2, .int 0), (5, .int (b1)), (0, .ref 66), (1, .int (xs 1))], [.int 16], V) : jS)) rfl ?_
  refine jl_s (S' := ((11, [(4, .int 16), (3, .int 0), (2, .int 0), (5, .int (b1)), (0, .ref 66), (1, .int (xs 1))], [.int 32, .int 16], V) : jS)) rfl ?_
  refine jl_s (S' := ((14, [(4, .int 16), (3, .int 0), (2, .int 0), (5, .int (b1)), (0, .ref 66), (1, .int (xs 1))], [], V) : jS)) rfl ?_
  refine jl_s (S' := ((15, [(4, .int 16), (3, .int 0), (2, .int 0), (5, .int (b1)), (0, .ref 66), (1, .int (xs 1))], [.int (xs 1)], V) : jS)) rfl ?_
  refine jl_s (S' := ((17, [(4, .int 16), (3, .int 0), (2, .int 0), (5, .int (b1)), (0, .ref 66), (1, .int (xs 1))], [.int 16, .int (xs 1)], V) : jS)) rfl ?_
  refine jl_s (S' := ((18, [(4, .int 16), (3, .int 0), (2, .int 0), (5, .int (b1)), (0, .ref 66), (1, .int (xs 1))], [.int ((xs 1) >>> (16 &&& 31))], V) : jS)) rfl ?_
  refine jl_s (S' := ((21, [(4, .int 16), (3, .int 0), (2, .int 0), (5, .int (b1)), (0, .ref 66), (1, .int (xs 1))], [.int 255, .int ((xs 1) >>> (16 &&& 31))], V) : jS)) rfl ?_
  refine jl_s (S' := ((22, [(4, .int 16), (3, .int 0), (2, .int 0), (5, .int (b1)), (0, .ref 66), (1, .int (xs 1))], [.int (((xs 1) >>> (16 &&& 31)) &&& 255)], V) : jS)) rfl ?_
  rw [e]
  refine jl_s (S' := ((24, [(5, .int (b2)), (4, .int 16), (3, .int 0), (2, .int 0), (0, .ref 66), (1, .int (xs 1))], [], V) : jS)) rfl ?_
  refine jl_s (S' := ((25, [(5, .int (b2)), (4, .int 16), (3, .int 0), (2, .int 0), (0, .ref 66), (1, .int (xs 1))], [.int 0], V) : jS)) rfl ?_
  refine jl_s (S' := ((28, [(5, .int (b2)), (4, .int 16), (3, .int 0), (2, .int 0), (0, .ref 66), (1, .int (xs 1))], [], V) : jS)) rfl ?_
  refine jl_s (S' := ((30, [(5, .int (b2)), (4, .int 16), (3, .int 0), (2, .int 0), (0, .ref 66), (1, .int (xs 1))], [.int (b2)], V) : jS)) rfl ?_
  refine jl_iff (e := jm248) (o := 15) rfl (h.1.1) ?_
  refine jl_s (S' := ((35, [(5, .int (b2)), (4, .int 16), (3, .int 0), (2, .int 0), (0, .ref 66), (1, .int (xs 1))], [.int (b2)], V) : jS)) rfl ?_
  refine jl_c (t := 247) (as := [.int (b2)]) (V := V) (r := (.inl (some (.int 1)), V)) (S' := ((38, [(5, .int (b2)), (4, .int 16), (3, .int 0), (2, .int 0), (0, .ref 66), (1, .int (xs 1))], [.int 1], V) : jS)) rfl (jz_sv ((4, xs) : jX) V b2 h ) rfl ?_
  refine jl_s (S' := ((45, [(5, .int (b2)), (4, .int 16), (3, .int 0), (2, .int 0), (0, .ref 66), (1, .int (xs 1))], [], V) : jS)) rfl ?_
  refine jl_s (S' := ((46, [(5, .int (b2)), (4, .int 16), (3, .int 0), (2, .int 0), (0, .ref 66), (1, .int (xs 1))], [.int 0], V) : jS)) rfl ?_
  refine jl_s (S' := ((47, [(2, .int 0), (5, .int (b2)), (4, .int 16), (3, .int 0), (0, .ref 66), (1, .int (xs 1))], [], V) : jS)) rfl ?_
  refine jl_s (S' := ((49, [(2, .int 0), (5, .int (b2)), (4, .int 16), (3, .int 0), (0, .ref 66), (1, .int (xs 1))], [.int (b2)], V) : jS)) rfl ?_
  refine jl_iff (e := jm248) (o := 9) rfl (h.1.1) ?_
  refine jl_s (S' := ((53, [(2, .int 0), (5, .int (b2)), (4, .int 16), (3, .int 0), (0, .ref 66), (1, .int (xs 1))], [.int 0], V) : jS)) rfl ?_
  refine jl_s (S' := ((54, [(2, .int 0), (5, .int (b2)), (4, .int 16), (3, .int 0), (0, .ref 66), (1, .int (xs 1))], [.int 1, .int 0], V) : jS)) rfl ?_
  refine jl_s (S' := ((55, [(2, .int 0), (5, .int (b2)), (4, .int 16), (3, .int 0), (0, .ref 66), (1, .int (xs 1))], [.int 1], V) : jS)) rfl ?_
  refine jl_s (S' := ((59, [(2, .int 0), (5, .int (b2)), (4, .int 16), (3, .int 0), (0, .ref 66), (1, .int (xs 1))], [.int 1], V) : jS)) rfl ?_
  refine jl_s (S' := ((60, [(3, .int 1), (2, .int 0), (5, .int (b2)), (4, .int 16), (0, .ref 66), (1, .int (xs 1))], [], V) : jS)) rfl ?_
  refine jl_s (S' := ((63, [(4, .int 24), (3, .int 1), (2, .int 0), (5, .int (b2)), (0, .ref 66), (1, .int (xs 1))], [], V) : jS)) rfl ?_
  refine jl_s (S' := ((7, [(4, .int 24), (3, .int 1), (2, .int 0), (5, .int (b2)), (0, .ref 66), (1, .int (xs 1))], [], V) : jS)) rfl ?_
  exact hq
set_option maxHeartbeats 4000000 in
set_option maxRecDepth 100000 in
theorem jzq552 (xs : Nat → Int32) (b0 b1 b2 b3 : Int32) (V : jH) (e : ((xs 1) >>> (24 &&& 31)) &&& 255 = b3) (h : jbz b3) {f : Nat} {q : jO × jH} (hq : jLoop (jRun ((4, xs) : jX) 2000 38) ((4, xs) : jX) jm248 f ((7, [(4, .int 32), (3, .int 1), (2, .int 0), (5, .int (b3)), (0, .ref 66), (1, .int (xs 1))], [], V) : jS) = some q) : jLoop (jRun ((4, xs) : jX) 2000 38) ((4, xs) : jX) jm248 (f + 21) ((7, [(4, .int 24), (3, .int 1), (2, .int 0), (5, .int (b2)), (0, .ref 66), (1, .int (xs 1))], [], V) : jS) = some q := by
  refine jl_s (S' := ((9, [(4, .int 24), (3, .int 1), (2, .int 0), (5, .int (b2)), (0, .ref 66), (1, .int (xs 1))], [.int 24], V) : jS)) rfl ?_
  refine jl_s (S' := ((11, [(4, .int 24), (3, .int 1), (2, .int 0), (5, .int (b2)), (0, .ref 66), (1, .int (xs 1))], [.int 32, .int 24], V) : jS)) rfl ?_
  refine jl_s (S' := ((14, [(4, .int 24), (3, .int 1), (2, .int 0), (5, .int (b2)), (0, .ref 66), (1, .int (xs 1))], [], V) : jS)) rfl ?_
  refine jl_s (S' := ((15, [(4, .int 24), (3, .int 1), (2, .int 0), (5, .int (b2)), (0, .ref 66), (1, .int (xs 1))], [.int (xs 1)], V) : jS)) rfl ?_
  refine jl_s (S' := ((17, [(4, .int 24), (3, .int 1), (2, .int 0), (5, .int (b2)), (0, .ref 66), (1, .int (xs 1))], [.int 24, .int (xs 1)], V) : jS)) rfl ?_
  refine jl_s (S' := ((18, [(4, .int 24), (3, .int 1), (2, .int 0), (5, .int (b2)), (0, .ref 66), (1, .int (xs 1))], [.int ((xs 1) >>> (24 &&& 31))], V) : jS)) rfl ?_
  refine jl_s (S' := ((21, [(4, .int 24), (3, .int 1), (2, .int 0), (5, .int (b2)), (0, .ref 66), (1, .int (xs 1))], [.int 255, .int ((xs 1) >>> (24 &&& 31))], V) : jS)) rfl ?_
  refine jl_s (S' := ((22, [(4, .int 24), (3, .int 1), (2, .int 0), (5, .int (b2)), (0, .ref 66), (1, .int (xs 1))], [.int (((xs 1) >>> (24 &&& 31)) &&& 255)], V) : jS)) rfl ?_
  rw [e]
  refine jl_s (S' := ((24, [(5, .int (b3)), (4, .int 24), (3, .int 1), (2, .int 0), (0, .ref 66), (1, .int (xs 1))], [], V) : jS)) rfl ?_
  refine jl_s (S' := ((25, [(5, .int (b3)), (4, .int 24), (3, .int 1), (2, .int 0), (0, .ref 66), (1, .int (xs 1))], [.int 0], V) : jS)) rfl ?_
  refine jl_s (S' := ((28, [(5, .int (b3)), (4, .int 24), (3, .int 1), (2, .int 0), (0, .ref 66), (1, .int (xs 1))], [], V) : jS)) rfl ?_
  refine jl_s (S' := ((30, [(5, .int (b3)), (4, .int 24), (3, .int 1), (2, .int 0), (0, .ref 66), (1, .int (xs 1))], [.int (b3)], V) : jS)) rfl ?_
  refine jl_ift (e := jm248) (o := 15) rfl (h.1) (t := 45) rfl ?_
  refine jl_s (S' := ((46, [(5, .int (b3)), (4, .int 24), (3, .int 1), (2, .int 0), (0, .ref 66), (1, .int (xs 1))], [.int 0], V) : jS)) rfl ?_
  refine jl_s (S' := ((47, [(2, .int 0), (5, .int (b3)), (4, .int 24), (3, .int 1), (0, .ref 66), (1, .int (xs 1))], [], V) : jS)) rfl ?_
  refine jl_s (S' := ((49, [(2, .int 0), (5, .int (b3)), (4, .int 24), (3, .int 1), (0, .ref 66), (1, .int (xs 1))], [.int (b3)], V) : jS)) rfl ?_
  refine jl_ift (e := jm248) (o := 9) rfl (h.1) (t := 58) rfl ?_
  refine jl_s (S' := ((59, [(2, .int 0), (5, .int (b3)), (4, .int 24), (3, .int 1), (0, .ref 66), (1, .int (xs 1))], [.int 1], V) : jS)) rfl ?_
  refine jl_s (S' := ((60, [(3, .int 1), (2, .int 0), (5, .int (b3)), (4, .int 24), (0, .ref 66), (1, .int (xs 1))], [], V) : jS)) rfl ?_
  refine jl_s (S' := ((63, [(4, .int 32), (3, .int 1), (2, .int 0), (5, .int (b3)), (0, .ref 66), (1, .int (xs 1))], [], V) : jS)) rfl ?_
  refine jl_s (S' := ((7, [(4, .int 32), (3, .int 1), (2, .int 0), (5, .int (b3)), (0, .ref 66), (1, .int (xs 1))], [], V) : jS)) rfl ?_
  exact hq
set_option maxHeartbeats 4000000 in
set_option maxRecDepth 100000 in
theorem jzl553 (xs : Nat → Int32) (b0 b1 b2 b3 : Int32) : jRun ((4, xs) : jX) 2000 38 245 [.ref 66, .int 0, .int 0, .int 0] (jzv294 b0 b1 b2 b3) = some (.inl (some (.int 0)), (jzv294 b0 b1 b2 b3)) := by
  refine jr_run (e := jm245) rfl (Nat.le_of_ble_eq_true rfl) ?_
  refine jl_s (S' := ((1, [(0, .ref 66), (1, .int 0), (2, .int 0), (3, .int 0)], [.ref 66], (jzv294 b0 b1 b2 b3)) : jS)) rfl ?_
  refine jl_s (S' := ((2, [(0, .ref 66), (1, .int 0), (2, .int 0), (3, .int 0)], [.int 0, .ref 66], (jzv294 b0 b1 b2 b3)) : jS)) rfl ?_
  refine jl_s (S' := ((9, [(0, .ref 66), (1, .int 0), (2, .int 0), (3, .int 0)], [.ref 66], (jzv294 b0 b1 b2 b3)) : jS)) rfl ?_
  refine jl_s (S' := ((10, [(0, .ref 66), (1, .int 0), (2, .int 0), (3, .int 0)], [.int 0, .ref 66], (jzv294 b0 b1 b2 b3)) : jS)) rfl ?_
  refine jl_s (S' := ((17, [(0, .ref 66), (1, .int 0), (2, .int 0), (3, .int 0)], [.ref 66], (jzv294 b0 b1 b2 b3)) : jS)) rfl ?_
  refine jl_s (S' := ((18, [(0, .ref 66), (1, .int 0), (2, .int 0), (3, .int 0)], [.int 0, .ref 66], (jzv294 b0 b1 b2 b3)) : jS)) rfl ?_
  refine jl_s (S' := ((25, [(0, .ref 66), (1, .int 0), (2, .int 0), (3, .int 0)], [.ref 66], (jzv294 b0 b1 b2 b3)) : jS)) rfl ?_
  refine jl_s (S' := ((26, [(0, .ref 66), (1, .int 0), (2, .int 0), (3, .int 0)], [.int 0, .ref 66], (jzv294 b0 b1 b2 b3)) : jS)) rfl ?_
  refine jl_s (S' := ((29, [(0, .ref 66), (1, .int 0), (2, .int 0), (3, .int 0)], [], (jzv294 b0 b1 b2 b3)) : jS)) rfl ?_
  refine jl_s (S' := ((30, [(0, .ref 66), (1, .int 0), (2, .int 0), (3, .int 0)], [.ref 66], (jzv294 b0 b1 b2 b3)) : jS)) rfl ?_
  refine jl_s (S' := ((33, [(0, .ref 66), (1, .int 0), (2, .int 0), (3, .int 0)], [.int 0], (jzv294 b0 b1 b2 b3)) : jS)) rfl ?_
  refine jl_s (S' := ((40, [(0, .ref 66), (1, .int 0), (2, .int 0), (3, .int 0)], [], (jzv294 b0 b1 b2 b3)) : jS)) rfl ?_
  refine jl_s (S' := ((41, [(0, .ref 66), (1, .int 0), (2, .int 0), (3, .int 0)], [.int 0], (jzv294 b0 b1 b2 b3)) : jS)) rfl ?_
  exact jl_r (r := (.inl (some (.int 0)), (jzv294 b0 b1 b2 b3))) rfl
set_option maxHeartbeats 4000000 in
set_option maxRecDepth 100000 in
theorem jzq555 (xs : Nat → Int32) (b0 b1 b2 b3 : Int32) {f : Nat} {q : jO × jH} (hq : jLoop (jRun ((4, xs) : jX) 2000 38) ((4, xs) : jX) jm248 f ((101, [(4, .int 0), (3, .int 1), (2, .int 0), (5, .int (b3)), (0, .ref 66), (1, .int (xs 1))], [], (jzv294 b0 b1 b2 b3)) : jS) = some q) : jLoop (jRun ((4, xs) : jX) 2000 38) ((4, xs) : jX) jm248 (f + 19) ((7, [(4, .int 32), (3, .int 1), (2, .int 0), (5, .int (b3)), (0, .ref 66), (1, .int (xs 1))], [], (jzv294 b0 b1 b2 b3)) : jS) = some q := by
  refine jl_s (S' := ((9, [(4, .int 32), (3, .int 1), (2, .int 0), (5, .int (b3)), (0, .ref 66), (1, .int (xs 1))], [.int 32], (jzv294 b0 b1 b2 b3)) : jS)) rfl ?_
  refine jl_s (S' := ((11, [(4, .int 32), (3, .int 1), (2, .int 0), (5, .int (b3)), (0, .ref 66), (1, .int (xs 1))], [.int 32, .int 32], (jzv294 b0 b1 b2 b3)) : jS)) rfl ?_
  refine jl_s (S' := ((66, [(4, .int 32), (3, .int 1), (2, .int 0), (5, .int (b3)), (0, .ref 66), (1, .int (xs 1))], [], (jzv294 b0 b1 b2 b3)) : jS)) rfl ?_
  refine jl_s (S' := ((67, [(4, .int 32), (3, .int 1), (2, .int 0), (5, .int (b3)), (0, .ref 66), (1, .int (xs 1))], [.ref 66], (jzv294 b0 b1 b2 b3)) : jS)) rfl ?_
  refine jl_s (S' := ((68, [(4, .int 32), (3, .int 1), (2, .int 0), (5, .int (b3)), (0, .ref 66), (1, .int (xs 1))], [.int 0, .ref 66], (jzv294 b0 b1 b2 b3)) : jS)) rfl ?_
  refine jl_s (S' := ((69, [(4, .int 32), (3, .int 1), (2, .int 0), (5, .int (b3)), (0, .ref 66), (1, .int (xs 1))], [.int 0, .int 0, .ref 66], (jzv294 b0 b1 b2 b3)) : jS)) rfl ?_
  refine jl_s (S' := ((72, [(4, .int 32), (3, .int 1), (2, .int 0), (5, .int (b3)), (0, .ref 66), (1, .int (xs 1))], [.int 0, .ref 66], (jzv294 b0 b1 b2 b3)) : jS)) rfl ?_
  refine jl_s (S' := ((73, [(4, .int 32), (3, .int 1), (2, .int 0), (5, .int (b3)), (0, .ref 66), (1, .int (xs 1))], [.ref 66, .int 0, .ref 66], (jzv294 b0 b1 b2 b3)) : jS)) rfl ?_
  refine jl_s (S' := ((76, [(4, .int 32), (3, .int 1), (2, .int 0), (5, .int (b3)), (0, .ref 66), (1, .int (xs 1))], [.int 0, .int 0, .ref 66], (jzv294 b0 b1 b2 b3)) : jS)) rfl ?_
  refine jl_s (S' := ((77, [(4, .int 32), (3, .int 1), (2, .int 0), (5, .int (b3)), (0, .ref 66), (1, .int (xs 1))], [.int 1, .int 0, .int 0, .ref 66], (jzv294 b0 b1 b2 b3)) : jS)) rfl ?_
  refine jl_s (S' := ((78, [(4, .int 32), (3, .int 1), (2, .int 0), (5, .int (b3)), (0, .ref 66), (1, .int (xs 1))], [.int 1, .int 0, .ref 66], (jzv294 b0 b1 b2 b3)) : jS)) rfl ?_
  refine jl_s (S' := ((81, [(4, .int 32), (3, .int 1), (2, .int 0), (5, .int (b3)), (0, .ref 66), (1, .int (xs 1))], [.int 3000, .int 1, .int 0, .ref 66], (jzv294 b0 b1 b2 b3)) : jS)) rfl ?_
  refine jl_s (S' := ((88, [(4, .int 32), (3, .int 1), (2, .int 0), (5, .int (b3)), (0, .ref 66), (1, .int (xs 1))], [.int 0, .ref 66], (jzv294 b0 b1 b2 b3)) : jS)) rfl ?_
  refine jl_s (S' := ((89, [(4, .int 32), (3, .int 1), (2, .int 0), (5, .int (b3)), (0, .ref 66), (1, .int (xs 1))], [.int 0, .int 0, .ref 66], (jzv294 b0 b1 b2 b3)) : jS)) rfl ?_
  refine jl_s (S' := ((90, [(4, .int 32), (3, .int 1), (2, .int 0), (5, .int (b3)), (0, .ref 66), (1, .int (xs 1))], [.int 0, .int 0, .int 0, .ref 66], (jzv294 b0 b1 b2 b3)) : jS)) rfl ?_
  refine jl_c (t := 245) (as := [.ref 66, .int 0, .int 0, .int 0]) (V := (jzv294 b0 b1 b2 b3)) (r := (.inl (some (.int 0)), (jzv294 b0 b1 b2 b3))) (S' := ((93, [(4, .int 32), (3, .int 1), (2, .int 0), (5, .int (b3)), (0, .ref 66), (1, .int (xs 1))], [.int 0], (jzv294 b0 b1 b2 b3)) : jS)) rfl (jzl553 xs b0 b1 b2 b3) rfl ?_
  refine jl_s (S' := ((98, [(4, .int 32), (3, .int 1), (2, .int 0), (5, .int (b3)), (0, .ref 66), (1, .int (xs 1))], [], (jzv294 b0 b1 b2 b3)) : jS)) rfl ?_
  refine jl_s (S' := ((99, [(4, .int 32), (3, .int 1), (2, .int 0), (5, .int (b3)), (0, .ref 66), (1, .int (xs 1))], [.int 0], (jzv294 b0 b1 b2 b3)) : jS)) rfl ?_
  refine jl_s (S' := ((101, [(4, .int 0), (3, .int 1), (2, .int 0), (5, .int (b3)), (0, .ref 66), (1, .int (xs 1))], [], (jzv294 b0 b1 b2 b3)) : jS)) rfl ?_
  exact hq
set_option maxHeartbeats 4000000 in
set_option maxRecDepth 100000 in
theorem jzq557 (xs : Nat → Int32) (b0 b1 b2 b3 : Int32) (e : ((xs 1) >>> (0 &&& 31)) &&& 255 = b0) (h : jbz b0) {f : Nat} {q : jO × jH} (hq : jLoop (jRun ((4, xs) : jX) 2000 38) ((4, xs) : jX) jm248 f ((101, [(4, .int 8), (5, .int (b0)), (3, .int 1), (2, .int 0), (0, .ref 66), (1, .int (xs 1))], [], (jzv294 b0 b1 b2 b3)) : jS) = some q) : jLoop (jRun ((4, xs) : jX) 2000 38) ((4, xs) : jX) jm248 (f + 13) ((101, [(4, .int 0), (3, .int 1), (2, .int 0), (5, .int (b3)), (0, .ref 66), (1, .int (xs 1))], [], (jzv294 b0 b1 b2 b3)) : jS) = some q := by
  refine jl_s (S' := ((103, [(4, .int 0), (3, .int 1), (2, .int 0), (5, .int (b3)), (0, .ref 66), (1, .int (xs 1))], [.int 0], (jzv294 b0 b1 b2 b3)) : jS)) rfl ?_
  refine jl_s (S' := ((105, [(4, .int 0), (3, .int 1), (2, .int 0), (5, .int (b3)), (0, .ref 66), (1, .int (xs 1))], [.int 32, .int 0], (jzv294 b0 b1 b2 b3)) : jS)) rfl ?_
  refine jl_s (S' := ((108, [(4, .int 0), (3, .int 1), (2, .int 0), (5, .int (b3)), (0, .ref 66), (1, .int (xs 1))], [], (jzv294 b0 b1 b2 b3)) : jS)) rfl ?_
  refine jl_s (S' := ((109, [(4, .int 0), (3, .int 1), (2, .int 0), (5, .int (b3)), (0, .ref 66), (1, .int (xs 1))], [.int (xs 1)], (jzv294 b0 b1 b2 b3)) : jS)) rfl ?_
  refine jl_s (S' := ((111, [(4, .int 0), (3, .int 1), (2, .int 0), (5, .int (b3)), (0, .ref 66), (1, .int (xs 1))], [.int 0, .int (xs 1)], (jzv294 b0 b1 b2 b3)) : jS)) rfl ?_
  refine jl_s (S' := ((112, [(4, .int 0), (3, .int 1), (2, .int 0), (5, .int (b3)), (0, .ref 66), (1, .int (xs 1))], [.int ((xs 1) >>> (0 &&& 31))], (jzv294 b0 b1 b2 b3)) : jS)) rfl ?_
  refine jl_s (S' := ((115, [(4, .int 0), (3, .int 1), (2, .int 0), (5, .int (b3)), (0, .ref 66), (1, .int (xs 1))], [.int 255, .int ((xs 1) >>> (0 &&& 31))], (jzv294 b0 b1 b2 b3)) : jS)) rfl ?_
  refine jl_s (S' := ((116, [(4, .int 0), (3, .int 1), (2, .int 0), (5, .int (b3)), (0, .ref 66), (1, .int (xs 1))], [.int (((xs 1) >>> (0 &&& 31)) &&& 255)], (jzv294 b0 b1 b2 b3)) : jS)) rfl ?_
  rw [e]
  refine jl_s (S' := ((118, [(5, .int (b0)), (4, .int 0), (3, .int 1), (2, .int 0), (0, .ref 66), (1, .int (xs 1))], [], (jzv294 b0 b1 b2 b3)) : jS)) rfl ?_
  refine jl_s (S' := ((120, [(5, .int (b0)), (4, .int 0), (3, .int 1), (2, .int 0), (0, .ref 66), (1, .int (xs 1))], [.int (b0)], (jzv294 b0 b1 b2 b3)) : jS)) rfl ?_
  refine jl_ift (e := jm248) (o := 24) rfl (h.1) (t := 144) rfl ?_
  refine jl_s (S' := ((147, [(4, .int 8), (5, .int (b0)), (3, .int 1), (2, .int 0), (0, .ref 66), (1, .int (xs 1))], [], (jzv294 b0 b1 b2 b3)) : jS)) rfl ?_
  refine jl_s (S' := ((101, [(4, .int 8), (5, .int (b0)), (3, .int 1), (2, .int 0), (0, .ref 66), (1, .int (xs 1))], [], (jzv294 b0 b1 b2 b3)) : jS)) rfl ?_
  exact hq
set_option maxHeartbeats 4000000 in
set_option maxRecDepth 100000 in
theorem jzq559 (xs : Nat → Int32) (b0 b1 b2 b3 : Int32) (e : ((xs 1) >>> (8 &&& 31)) &&& 255 = b1) (h : jbz b1) {f : Nat} {q : jO × jH} (hq : jLoop (jRun ((4, xs) : jX) 2000 38) ((4, xs) : jX) jm248 f ((101, [(4, .int 16), (5, .int (b1)), (3, .int 1), (2, .int 0), (0, .ref 66), (1, .int (xs 1))], [], (jzv294 b0 b1 b2 b3)) : jS) = some q) : jLoop (jRun ((4, xs) : jX) 2000 38) ((4, xs) : jX) jm248 (f + 13) ((101, [(4, .int 8), (5, .int (b0)), (3, .int 1), (2, .int 0), (0, .ref 66), (1, .int (xs 1))], [], (jzv294 b0 b1 b2 b3)) : jS) = some q := by
  refine jl_s (S' := ((103, [(4, .int 8), (5, .int (b0)), (3, .int 1), (2, .int 0), (0, .ref 66), (1, .int (xs 1))], [.int 8], (jzv294 b0 b1 b2 b3)) : jS)) rfl ?_
  refine jl_s (S' := ((105, [(4, .int 8), (5, .int (b0)), (3, .int 1), (2, .int 0), (0, .ref 66), (1, .int (xs 1))], [.int 32, .int 8], (jzv294 b0 b1 b2 b3)) : jS)) rfl ?_
  refine jl_s (S' := ((108, [(4, .int 8), (5, .int (b0)), (3, .int 1), (2, .int 0), (0, .ref 66), (1, .int (xs 1))], [], (jzv294 b0 b1 b2 b3)) : jS)) rfl ?_
  refine jl_s (S' := ((109, [(4, .int 8), (5, .int (b0)), (3, .int 1), (2, .int 0), (0, .ref 66), (1, .int (xs 1))], [.int (xs 1)], (jzv294 b0 b1 b2 b3)) : jS)) rfl ?_
  refine jl_s (S' := ((111, [(4, .int 8), (5, .int (b0)), (3, .int 1), (2, .int 0), (0, .ref 66), (1, .int (xs 1))], [.int 8, .int (xs 1)], (jzv294 b0 b1 b2 b3)) : jS)) rfl ?_
  refine jl_s (S' := ((112, [(4, .int 8), (5, .int (b0)), (3, .int 1), (2, .int 0), (0, .ref 66), (1, .int (xs 1))], [.int ((xs 1) >>> (8 &&& 31))], (jzv294 b0 b1 b2 b3)) : jS)) rfl ?_
  refine jl_s (S' := ((115, [(4, .int 8), (5, .int (b0)), (3, .int 1), (2, .int 0), (0, .ref 66), (1, .int (xs 1))], [.int 255, .int ((xs 1) >>> (8 &&& 31))], (jzv294 b0 b1 b2 b3)) : jS)) rfl ?_
  refine jl_s (S' := ((116, [(4, .int 8), (5, .int (b0)), (3, .int 1), (2, .int 0), (0, .ref 66), (1, .int (xs 1))], [.int (((xs 1) >>> (8 &&& 31)) &&& 255)], (jzv294 b0 b1 b2 b3)) : jS)) rfl ?_
  rw [e]
  refine jl_s (S' := ((118, [(5, .int (b1)), (4, .int 8), (3, .int 1), (2, .int 0), (0, .ref 66), (1, .int (xs 1))], [], (jzv294 b0 b1 b2 b3)) : jS)) rfl ?_
  refine jl_s (S' := ((120, [(5, .int (b1)), (4, .int 8), (3, .int 1), (2, .int 0), (0, .ref 66), (1, .int (xs 1))], [.int (b1)], (jzv294 b0 b1 b2 b3)) : jS)) rfl ?_
  refine jl_ift (e := jm248) (o := 24) rfl (h.1) (t := 144) rfl ?_
  refine jl_s (S' := ((147, [(4, .int 16), (5, .int (b1)), (3, .int 1), (2, .int 0), (0, .ref 66), (1, .int (xs 1))], [], (jzv294 b0 b1 b2 b3)) : jS)) rfl ?_
  refine jl_s (S' := ((101, [(4, .int 16), (5, .int (b1)), (3, .int 1), (2, .int 0), (0, .ref 66), (1, .int (xs 1))], [], (jzv294 b0 b1 b2 b3)) : jS)) rfl ?_
  exact hq
def jzc203 (b0 b1 b2 b3 : Int32) : jC := .inl (1, 3000, .inl (upd (fun _ => 0) 0 (b2)))
def jzv295 (b0 b1 b2 b3 : Int32) : jH := [jzc182, (jzc183 b0 b1 b2 b3), jzc117, (jzc203 b0 b1 b2 b3), jzc9, jzc9, jzc9, jzc9, jzc9, jzc17, jzc19, jzc19, jzc19, jzc19, jzc19, jzc19, jzc19, jzc19, jzc28, jzc28, jzc28, jzc28, jzc28, jzc28, jzc28, jzc28, jzc28, jzc28, jzc28, jzc28, jzc28, jzc28, jzc43, jzc43, jzc43, jzc43, jzc43, jzc49, jzc49, jzc52, jzc52, jzc52, jzc56, jzc56, jzc59, jzc56, jzc62, jzc28, jzc28, jzc28, jzc28, jzc28, jzc69, jzc71, jzc73, jzc43, jzc76, jzc52, jzc52, jzc80, jzc80, jzc80, jzc84, jzc52, jzc52, jzc52, jzc52, jzc52, jzc52, jzc52, jzc93, jzc93, jzc52, jzc52, jzc98, jzc100, jzc93, jzc52, jzc52, jzc52, jzc52, jzc107, jzc109, jzc111, jzc100, jzc100, jzc100, jzc111, jzc111, jzc200]
def jzv296 (b0 b1 b2 b3 : Int32) : jH := [jzc182, (jzc183 b0 b1 b2 b3), jzc202, (jzc203 b0 b1 b2 b3), jzc9, jzc9, jzc9, jzc9, jzc9, jzc17, jzc19, jzc19, jzc19, jzc19, jzc19, jzc19, jzc19, jzc19, jzc28, jzc28, jzc28, jzc28, jzc28, jzc28, jzc28, jzc28, jzc28, jzc28, jzc28, jzc28, jzc28, jzc28, jzc43, jzc43, jzc43, jzc43, jzc43, jzc49, jzc49, jzc52, jzc52, jzc52, jzc56, jzc56, jzc59, jzc56, jzc62, jzc28, jzc28, jzc28, jzc28, jzc28, jzc69, jzc71, jzc73, jzc43, jzc76, jzc52, jzc52, jzc80, jzc80, jzc80, jzc84, jzc52, jzc52, jzc52, jzc52, jzc52, jzc52, jzc52, jzc93, jzc93, jzc52, jzc52, jzc98, jzc100, jzc93, jzc52, jzc52, jzc52, jzc52, jzc107, jzc109, jzc111, jzc100, jzc100, jzc100, jzc111, jzc111, jzc200]
set_option maxHeartbeats 4000000 in
set_option maxRecDepth 100000 in
theorem jzq561 (xs : Nat → Int32) (b0 b1 b2 b3 : Int32) (e : ((xs 1) >>> (16 &&& 31)) &&& 255 = b2) (h : jbn b2) {f : Nat} {q : jO × jH} (hq : jLoop (jRun ((4, xs) : jX) 2000 38) ((4, xs) : jX) jm248 f ((101, [(4, .int 24), (5, .int (b2)), (3, .int 1), (2, .int 0), (0, .ref 66), (1, .int (xs 1))], [], (jzv296 b0 b1 b2 b3)) : jS) = some q) : jLoop (jRun ((4, xs) : jX) 2000 38) ((4, xs) : jX) jm248 (f + 25) ((101, [(4, .int 16), (5, .int (b1)), (3, .int 1), (2, .int 0), (0, .ref 66), (1, .int (xs 1))], [], (jzv294 b0 b1 b2 b3)) : jS) = some q := by
  refine jl_s (S' := ((103, [(4, .int 16), (5, .int (b1)), (3, .int 1), (2, .int 0), (0, .ref 66), (1, .int (xs 1))], [.int 16], (jzv294 b0 b1 b2 b3)) : jS)) rfl ?_
  refine jl_s (S' := ((105, [(4, .int 16), (5, .int (b1)), (3, .int 1), (2, .int 0), (0, .ref 66), (1, .int (xs 1))], [.int 32, .int 16], (jzv294 b0 b1 b2 b3)) : jS)) rfl ?_
  refine jl_s (S' := ((108, [(4, .int 16), (5, .int (b1)), (3, .int 1), (2, .int 0), (0, .ref 66), (1, .int (xs 1))], [], (jzv294 b0 b1 b2 b3)) : jS)) rfl ?_
  refine jl_s (S' := ((109, [(4, .int 16), (5, .int (b1)), (3, .int 1), (2, .int 0), (0, .ref 66), (1, .int (xs 1))], [.int (xs 1)], (jzv294 b0 b1 b2 b3)) : jS)) rfl ?_
  refine jl_s (S' := ((111, [(4, .int 16), (5, .int (b1)), (3, .int 1), (2, .int 0), (0, .ref 66), (1, .int (xs 1))], [.int 16, .int (xs 1)], (jzv294 b0 b1 b2 b3)) : jS)) rfl ?_
  refine jl_s (S' := ((112, [(4, .int 16), (5, .int (b1)), (3, .int 1), (2, .int 0), (0, .ref 66), (1, .int (xs 1))], [.int ((xs 1) >>> (16 &&& 31))], (jzv294 b0 b1 b2 b3)) : jS)) rfl ?_
  refine jl_s (S' := ((115, [(4, .int 16), (5, .int (b1)), (3, .int 1), (2, .int 0), (0, .ref 66), (1, .int (xs 1))], [.int 255, .int ((xs 1) >>> (16 &&& 31))], (jzv294 b0 b1 b2 b3)) : jS)) rfl ?_
  refine jl_s (S' := ((116, [(4, .int 16), (5, .int (b1)), (3, .int 1), (2, .int 0), (0, .ref 66), (1, .int (xs 1))], [.int (((xs 1) >>> (16 &&& 31)) &&& 255)], (jzv294 b0 b1 b2 b3)) : jS)) rfl ?_
  rw [e]
  refine jl_s (S' := ((118, [(5, .int (b2)), (4, .int 16), (3, .int 1), (2, .int 0), (0, .ref 66), (1, .int (xs 1))], [], (jzv294 b0 b1 b2 b3)) : jS)) rfl ?_
  refine jl_s (S' := ((120, [(5, .int (b2)), (4, .int 16), (3, .int 1), (2, .int 0), (0, .ref 66), (1, .int (xs 1))], [.int (b2)], (jzv294 b0 b1 b2 b3)) : jS)) rfl ?_
  refine jl_iff (e := jm248) (o := 24) rfl (h.1) ?_
  refine jl_s (S' := ((124, [(5, .int (b2)), (4, .int 16), (3, .int 1), (2, .int 0), (0, .ref 66), (1, .int (xs 1))], [.ref 66], (jzv294 b0 b1 b2 b3)) : jS)) rfl ?_
  refine jl_s (S' := ((127, [(5, .int (b2)), (4, .int 16), (3, .int 1), (2, .int 0), (0, .ref 66), (1, .int (xs 1))], [.ref 67], (jzv294 b0 b1 b2 b3)) : jS)) rfl ?_
  refine jl_s (S' := ((128, [(5, .int (b2)), (4, .int 16), (3, .int 1), (2, .int 0), (0, .ref 66), (1, .int (xs 1))], [.ref 66, .ref 67], (jzv294 b0 b1 b2 b3)) : jS)) rfl ?_
  refine jl_s (S' := ((131, [(5, .int (b2)), (4, .int 16), (3, .int 1), (2, .int 0), (0, .ref 66), (1, .int (xs 1))], [.int 0, .ref 67], (jzv294 b0 b1 b2 b3)) : jS)) rfl ?_
  refine jl_s (S' := ((133, [(5, .int (b2)), (4, .int 16), (3, .int 1), (2, .int 0), (0, .ref 66), (1, .int (xs 1))], [.int (b2), .int 0, .ref 67], (jzv294 b0 b1 b2 b3)) : jS)) rfl ?_
  refine jl_s (S' := ((134, [(5, .int (b2)), (4, .int 16), (3, .int 1), (2, .int 0), (0, .ref 66), (1, .int (xs 1))], [], (jzv295 b0 b1 b2 b3)) : jS)) rfl ?_
  refine jl_s (S' := ((135, [(5, .int (b2)), (4, .int 16), (3, .int 1), (2, .int 0), (0, .ref 66), (1, .int (xs 1))], [.ref 66], (jzv295 b0 b1 b2 b3)) : jS)) rfl ?_
  refine jl_s (S' := ((136, [(5, .int (b2)), (4, .int 16), (3, .int 1), (2, .int 0), (0, .ref 66), (1, .int (xs 1))], [.ref 66, .ref 66], (jzv295 b0 b1 b2 b3)) : jS)) rfl ?_
  refine jl_s (S' := ((139, [(5, .int (b2)), (4, .int 16), (3, .int 1), (2, .int 0), (0, .ref 66), (1, .int (xs 1))], [.int 0, .ref 66], (jzv295 b0 b1 b2 b3)) : jS)) rfl ?_
  refine jl_s (S' := ((140, [(5, .int (b2)), (4, .int 16), (3, .int 1), (2, .int 0), (0, .ref 66), (1, .int (xs 1))], [.int 1, .int 0, .ref 66], (jzv295 b0 b1 b2 b3)) : jS)) rfl ?_
  refine jl_s (S' := ((141, [(5, .int (b2)), (4, .int 16), (3, .int 1), (2, .int 0), (0, .ref 66), (1, .int (xs 1))], [.int 1, .ref 66], (jzv295 b0 b1 b2 b3)) : jS)) rfl ?_
  refine jl_s (S' := ((144, [(5, .int (b2)), (4, .int 16), (3, .int 1), (2, .int 0), (0, .ref 66), (1, .int (xs 1))], [], (jzv296 b0 b1 b2 b3)) : jS)) rfl ?_
  refine jl_s (S' := ((147, [(4, .int 24), (5, .int (b2)), (3, .int 1), (2, .int 0), (0, .ref 66), (1, .int (xs 1))], [], (jzv296 b0 b1 b2 b3)) : jS)) rfl ?_
  refine jl_s (S' := ((101, [(4, .int 24), (5, .int (b2)), (3, .int 1), (2, .int 0), (0, .ref 66), (1, .int (xs 1))], [], (jzv296 b0 b1 b2 b3)) : jS)) rfl ?_
  exact hq
set_option maxHeartbeats 4000000 in
set_option maxRecDepth 100000 in
theorem jzq563 (xs : Nat → Int32) (b0 b1 b2 b3 : Int32) (e : ((xs 1) >>> (24 &&& 31)) &&& 255 = b3) (h : jbz b3) {f : Nat} {q : jO × jH} (hq : jLoop (jRun ((4, xs) : jX) 2000 38) ((4, xs) : jX) jm248 f ((101, [(4, .int 32), (5, .int (b3)), (3, .int 1), (2, .int 0), (0, .ref 66), (1, .int (xs 1))], [], (jzv296 b0 b1 b2 b3)) : jS) = some q) : jLoop (jRun ((4, xs) : jX) 2000 38) ((4, xs) : jX) jm248 (f + 13) ((101, [(4, .int 24), (5, .int (b2)), (3, .int 1), (2, .int 0), (0, .ref 66), (1, .int (xs 1))], [], (jzv296 b0 b1 b2 b3)) : jS) = some q := by
  refine jl_s (S' := ((103, [(4, .int 24), (5, .int (b2)), (3, .int 1), (2, .int 0), (0, .ref 66), (1, .int (xs 1))], [.int 24], (jzv296 b0 b1 b2 b3)) : jS)) rfl ?_
  refine jl_s (S' := ((105, [(4, .int 24), (5, .int (b2)), (3, .int 1), (2, .int 0), (0, .ref 66), (1, .int (xs 1))], [.int 32, .int 24], (jzv296 b0 b1 b2 b3)) : jS)) rfl ?_
  refine jl_s (S' := ((108, [(4, .int 24), (5, .int (b2)), (3, .int 1), (2, .int 0), (0, .ref 66), (1, .int (xs 1))], [], (jzv296 b0 b1 b2 b3)) : jS)) rfl ?_
  refine jl_s (S' := ((109, [(4, .int 24), (5, .int (b2)), (3, .int 1), (2, .int 0), (0, .ref 66), (1, .int (xs 1))], [.int (xs 1)], (jzv296 b0 b1 b2 b3)) : jS)) rfl ?_
  refine jl_s (S' := ((111, [(4, .int 24), (5, .int (b2)), (3, .int 1), (2, .int 0), (0, .ref 66), (1, .int (xs 1))], [.int 24, .int (xs 1)], (jzv296 b0 b1 b2 b3)) : jS)) rfl ?_
  refine jl_s (S' := ((112, [(4, .int 24), (5, .int (b2)), (3, .int 1), (2, .int 0), (0, .ref 66), (1, .int (xs 1))], [.int ((xs 1) >>> (24 &&& 31))], (jzv296 b0 b1 b2 b3)) : jS)) rfl ?_
  refine jl_s (S' := ((115, [(4, .int 24), (5, .int (b2)), (3, .int 1), (2, .int 0), (0, .ref 66), (1, .int (xs 1))], [.int 255, .int ((xs 1) >>> (24 &&& 31))], (jzv296 b0 b1 b2 b3)) : jS)) rfl ?_
  refine jl_s (S' := ((116, [(4, .int 24), (5, .int (b2)), (3, .int 1), (2, .int 0), (0, .ref 66), (1, .int (xs 1))], [.int (((xs 1) >>> (24 &&& 31)) &&& 255)], (jzv296 b0 b1 b2 b3)) : jS)) rfl ?_
  rw [e]
  refine jl_s (S' := ((118, [(5, .int (b3)), (4, .int 24), (3, .int 1), (2, .int 0), (0, .ref 66), (1, .int (xs 1))], [], (jzv296 b0 b1 b2 b3)) : jS)) rfl ?_
  refine jl_s (S' := ((120, [(5, .int (b3)), (4, .int 24), (3, .int 1), (2, .int 0), (0, .ref 66), (1, .int (xs 1))], [.int (b3)], (jzv296 b0 b1 b2 b3)) : jS)) rfl ?_
  refine jl_ift (e := jm248) (o := 24) rfl (h.1) (t := 144) rfl ?_
  refine jl_s (S' := ((147, [(4, .int 32), (5, .int (b3)), (3, .int 1), (2, .int 0), (0, .ref 66), (1, .int (xs 1))], [], (jzv296 b0 b1 b2 b3)) : jS)) rfl ?_
  refine jl_s (S' := ((101, [(4, .int 32), (5, .int (b3)), (3, .int 1), (2, .int 0), (0, .ref 66), (1, .int (xs 1))], [], (jzv296 b0 b1 b2 b3)) : jS)) rfl ?_
  exact hq
set_option maxHeartbeats 4000000 in
set_option maxRecDepth 100000 in
theorem jzq565 (xs : Nat → Int32) (b0 b1 b2 b3 : Int32) {f : Nat} : jLoop (jRun ((4, xs) : jX) 2000 38) ((4, xs) : jX) jm248 (f + 6) ((101, [(4, .int 32), (5, .int (b3)), (3, .int 1), (2, .int 0), (0, .ref 66), (1, .int (xs 1))], [], (jzv296 b0 b1 b2 b3)) : jS) = some (.inl (some (.int 1)), (jzv296 b0 b1 b2 b3)) := by
  refine jl_s (S' := ((103, [(4, .int 32), (5, .int (b3)), (3, .int 1), (2, .int 0), (0, .ref 66), (1, .int (xs 1))], [.int 32], (jzv296 b0 b1 b2 b3)) : jS)) rfl ?_
  refine jl_s (S' := ((105, [(4, .int 32), (5, .int (b3)), (3, .int 1), (2, .int 0), (0, .ref 66), (1, .int (xs 1))], [.int 32, .int 32], (jzv296 b0 b1 b2 b3)) : jS)) rfl ?_
  refine jl_s (S' := ((150, [(4, .int 32), (5, .int (b3)), (3, .int 1), (2, .int 0), (0, .ref 66), (1, .int (xs 1))], [], (jzv296 b0 b1 b2 b3)) : jS)) rfl ?_
  refine jl_s (S' := ((151, [(4, .int 32), (5, .int (b3)), (3, .int 1), (2, .int 0), (0, .ref 66), (1, .int (xs 1))], [.ref 66], (jzv296 b0 b1 b2 b3)) : jS)) rfl ?_
  refine jl_s (S' := ((154, [(4, .int 32), (5, .int (b3)), (3, .int 1), (2, .int 0), (0, .ref 66), (1, .int (xs 1))], [.int 1], (jzv296 b0 b1 b2 b3)) : jS)) rfl ?_
  exact jl_r (r := (.inl (some (.int 1)), (jzv296 b0 b1 b2 b3))) rfl
set_option maxHeartbeats 4000000 in
set_option maxRecDepth 100000 in
theorem jzrp_ZZVZ (xs : Nat → Int32) (b0 b1 b2 b3 : Int32) (e0 : ((xs 1) >>> (0 &&& 31)) &&& 255 = b0) (e1 : ((xs 1) >>> (8 &&& 31)) &&& 255 = b1) (e2 : ((xs 1) >>> (16 &&& 31)) &&& 255 = b2) (e3 : ((xs 1) >>> (24 &&& 31)) &&& 255 = b3) (h0 : jbz b0) (h1 : jbz b1) (h2 : jbv b2) (h3 : jbz b3) : jRun ((4, xs) : jX) 2000 39 248 [.ref 66, .int (xs 1)] (jzv294 b0 b1 b2 b3) = some (.inl (some (.int 1)), (jzv296 b0 b1 b2 b3)) := by
  refine jr_run (e := jm248) rfl (Nat.le_of_ble_eq_true rfl) ?_
  refine jzq506 xs b0 b1 b2 b3 _ ?_
  refine jzq508 xs b0 b1 b2 b3 _ e0 h0 ?_
  refine jzq510 xs b0 b1 b2 b3 _ e1 h1 ?_
  refine jzq550 xs b0 b1 b2 b3 _ e2 h2 ?_
  refine jzq552 xs b0 b1 b2 b3 _ e3 h3 ?_
  refine jzq555 xs b0 b1 b2 b3 ?_
  refine jzq557 xs b0 b1 b2 b3 e0 h0 ?_
  refine jzq559 xs b0 b1 b2 b3 e1 h1 ?_
  refine jzq561 xs b0 b1 b2 b3 e2 h2.1 ?_
  refine jzq563 xs b0 b1 b2 b3 e3 h3 ?_
  exact jzq565 xs b0 b1 b2 b3
set_option maxHeartbeats 4000000 in
set_option maxRecDepth 100000 in
theorem jzl566 (xs : Nat → Int32) (hop : xs 0 &&& 31 = 0) (b0 b1 b2 b3 : Int32) (e0 : ((Int32.toUInt32 (xs 1) >>> (Int32.toUInt32 0 &&& Int32.toUInt32 31)).toInt32) &&& 255 = b0) (e1 : ((Int32.toUInt32 (xs 1) >>> (Int32.toUInt32 8 &&& Int32.toUInt32 31)).toInt32) &&& 255 = b1) (e2 : ((Int32.toUInt32 (xs 1) >>> (Int32.toUInt32 16 &&& Int32.toUInt32 31)).toInt32) &&& 255 = b2) (e3 : ((Int32.toUInt32 (xs 1) >>> (Int32.toUInt32 24 &&& Int32.toUInt32 31)).toInt32) &&& 255 = b3) (g0 : ((xs 1) >>> (0 &&& 31)) &&& 255 = b0) (g1 : ((xs 1) >>> (8 &&& 31)) &&& 255 = b1) (g2 : ((xs 1) >>> (16 &&& 31)) &&& 255 = b2) (g3 : ((xs 1) >>> (24 &&& 31)) &&& 255 = b3) (h0 : jbz b0) (h1 : jbz b1) (h2 : jbv b2) (h3 : jbz b3) : jRun ((4, xs) : jX) 2000 39 244 [.ref 66] (jzv296 b0 b1 b2 b3) = some (.inl (some (.int 0)), (jzv296 b0 b1 b2 b3)) := by
  refine jr_run (e := jm244) rfl (Nat.le_of_ble_eq_true rfl) ?_
  refine jl_s (S' := ((1, [(0, .ref 66)], [.ref 66], (jzv296 b0 b1 b2 b3)) : jS)) rfl ?_
  refine jl_s (S' := ((4, [(0, .ref 66)], [.int 0], (jzv296 b0 b1 b2 b3)) : jS)) rfl ?_
  exact jl_r (r := (.inl (some (.int 0)), (jzv296 b0 b1 b2 b3))) rfl
set_option maxHeartbeats 4000000 in
set_option maxRecDepth 100000 in
theorem jzl567 (xs : Nat → Int32) (hop : xs 0 &&& 31 = 0) (b0 b1 b2 b3 : Int32) (e0 : ((Int32.toUInt32 (xs 1) >>> (Int32.toUInt32 0 &&& Int32.toUInt32 31)).toInt32) &&& 255 = b0) (e1 : ((Int32.toUInt32 (xs 1) >>> (Int32.toUInt32 8 &&& Int32.toUInt32 31)).toInt32) &&& 255 = b1) (e2 : ((Int32.toUInt32 (xs 1) >>> (Int32.toUInt32 16 &&& Int32.toUInt32 31)).toInt32) &&& 255 = b2) (e3 : ((Int32.toUInt32 (xs 1) >>> (Int32.toUInt32 24 &&& Int32.toUInt32 31)).toInt32) &&& 255 = b3) (g0 : ((xs 1) >>> (0 &&& 31)) &&& 255 = b0) (g1 : ((xs 1) >>> (8 &&& 31)) &&& 255 = b1) (g2 : ((xs 1) >>> (16 &&& 31)) &&& 255 = b2) (g3 : ((xs 1) >>> (24 &&& 31)) &&& 255 = b3) (h0 : jbz b0) (h1 : jbz b1) (h2 : jbv b2) (h3 : jbz b3) : jLoop (jRun ((4, xs) : jX) 2000 39) ((4, xs) : jX) jm18 1000 ((23, [(4, .int 0), (3, .ref 153), (2, .ref 66), (1, .ref 64), (0, .ref 63)], [], jzv181) : jS) = some (.inl (some (.int 1)), (jzv296 b0 b1 b2 b3)) := by
  refine jl_s (S' := ((25, [(4, .int 0), (3, .ref 153), (2, .ref 66), (1, .ref 64), (0, .ref 63)], [.int 0], jzv181) : jS)) rfl ?_
  refine jl_s (S' := ((26, [(4, .int 0), (3, .ref 153), (2, .ref 66), (1, .ref 64), (0, .ref 63)], [.ref 63, .int 0], jzv181) : jS)) rfl ?_
  refine jl_s (S' := ((27, [(4, .int 0), (3, .ref 153), (2, .ref 66), (1, .ref 64), (0, .ref 63)], [.int 4, .int 0], jzv181) : jS)) rfl ?_
  refine jl_s (S' := ((28, [(4, .int 0), (3, .ref 153), (2, .ref 66), (1, .ref 64), (0, .ref 63)], [.int 4, .int 4, .int 0], jzv181) : jS)) rfl ?_
  refine jl_s (S' := ((29, [(4, .int 0), (3, .ref 153), (2, .ref 66), (1, .ref 64), (0, .ref 63)], [.int 0, .int 0], jzv181) : jS)) rfl ?_
  refine jl_s (S' := ((32, [(4, .int 0), (3, .ref 153), (2, .ref 66), (1, .ref 64), (0, .ref 63)], [], jzv181) : jS)) rfl ?_
  refine jl_s (S' := ((33, [(4, .int 0), (3, .ref 153), (2, .ref 66), (1, .ref 64), (0, .ref 63)], [.ref 63], jzv181) : jS)) rfl ?_
  refine jl_s (S' := ((35, [(4, .int 0), (3, .ref 153), (2, .ref 66), (1, .ref 64), (0, .ref 63)], [.int 0, .ref 63], jzv181) : jS)) rfl ?_
  refine jl_s (S' := ((36, [(4, .int 0), (3, .ref 153), (2, .ref 66), (1, .ref 64), (0, .ref 63)], [.int (xs 0)], jzv181) : jS)) rfl ?_
  refine jl_s (S' := ((38, [(4, .int 0), (3, .ref 153), (2, .ref 66), (1, .ref 64), (0, .ref 63)], [.int 31, .int (xs 0)], jzv181) : jS)) rfl ?_
  refine jl_s (S' := ((39, [(4, .int 0), (3, .ref 153), (2, .ref 66), (1, .ref 64), (0, .ref 63)], [.int ((xs 0) &&& 31)], jzv181) : jS)) rfl ?_
  rw [hop]
  refine jl_s (S' := ((128, [(4, .int 0), (3, .ref 153), (2, .ref 66), (1, .ref 64), (0, .ref 63)], [], jzv181) : jS)) rfl ?_
  refine jl_s (S' := ((129, [(4, .int 0), (3, .ref 153), (2, .ref 66), (1, .ref 64), (0, .ref 63)], [.ref 64], jzv181) : jS)) rfl ?_
  refine jl_s (S' := ((130, [(4, .int 0), (3, .ref 153), (2, .ref 66), (1, .ref 64), (0, .ref 63)], [.ref 63, .ref 64], jzv181) : jS)) rfl ?_
  refine jl_s (S' := ((132, [(4, .int 0), (3, .ref 153), (2, .ref 66), (1, .ref 64), (0, .ref 63)], [.int 0, .ref 63, .ref 64], jzv181) : jS)) rfl ?_
  refine jl_s (S' := ((133, [(4, .int 0), (3, .ref 153), (2, .ref 66), (1, .ref 64), (0, .ref 63)], [.int 1, .int 0, .ref 63, .ref 64], jzv181) : jS)) rfl ?_
  refine jl_s (S' := ((134, [(4, .int 0), (3, .ref 153), (2, .ref 66), (1, .ref 64), (0, .ref 63)], [.int 1, .ref 63, .ref 64], jzv181) : jS)) rfl ?_
  refine jl_s (S' := ((135, [(4, .int 0), (3, .ref 153), (2, .ref 66), (1, .ref 64), (0, .ref 63)], [.int (xs 1), .ref 64], jzv181) : jS)) rfl ?_
  refine jl_s (S' := ((136, [(4, .int 0), (3, .ref 153), (2, .ref 66), (1, .ref 64), (0, .ref 63)], [.ref 153, .int (xs 1), .ref 64], jzv181) : jS)) rfl ?_
  refine jl_c (t := 0) (as := [.ref 64, .int (xs 1), .ref 153]) (V := jzv181) (r := (.inl (some (.int 0)), (jzv294 b0 b1 b2 b3))) (S' := ((139, [(4, .int 0), (3, .ref 153), (2, .ref 66), (1, .ref 64), (0, .ref 63)], [.int 0], (jzv294 b0 b1 b2 b3)) : jS)) rfl (jzl548 xs hop b0 b1 b2 b3 e0 e1 e2 e3 g0 g1 g2 g3 h0 h1 h2 h3) rfl ?_
  refine jl_s (S' := ((141, [(5, .int 0), (4, .int 0), (3, .ref 153), (2, .ref 66), (1, .ref 64), (0, .ref 63)], [], (jzv294 b0 b1 b2 b3)) : jS)) rfl ?_
  refine jl_s (S' := ((142, [(5, .int 0), (4, .int 0), (3, .ref 153), (2, .ref 66), (1, .ref 64), (0, .ref 63)], [.ref 66], (jzv294 b0 b1 b2 b3)) : jS)) rfl ?_
  refine jl_s (S' := ((143, [(5, .int 0), (4, .int 0), (3, .ref 153), (2, .ref 66), (1, .ref 64), (0, .ref 63)], [.ref 63, .ref 66], (jzv294 b0 b1 b2 b3)) : jS)) rfl ?_
  refine jl_s (S' := ((145, [(5, .int 0), (4, .int 0), (3, .ref 153), (2, .ref 66), (1, .ref 64), (0, .ref 63)], [.int 0, .ref 63, .ref 66], (jzv294 b0 b1 b2 b3)) : jS)) rfl ?_
  refine jl_s (S' := ((146, [(5, .int 0), (4, .int 0), (3, .ref 153), (2, .ref 66), (1, .ref 64), (0, .ref 63)], [.int 1, .int 0, .ref 63, .ref 66], (jzv294 b0 b1 b2 b3)) : jS)) rfl ?_
  refine jl_s (S' := ((147, [(5, .int 0), (4, .int 0), (3, .ref 153), (2, .ref 66), (1, .ref 64), (0, .ref 63)], [.int 1, .ref 63, .ref 66], (jzv294 b0 b1 b2 b3)) : jS)) rfl ?_
  refine jl_s (S' := ((148, [(5, .int 0), (4, .int 0), (3, .ref 153), (2, .ref 66), (1, .ref 64), (0, .ref 63)], [.int (xs 1), .ref 66], (jzv294 b0 b1 b2 b3)) : jS)) rfl ?_
  refine jl_c (t := 248) (as := [.ref 66, .int (xs 1)]) (V := (jzv294 b0 b1 b2 b3)) (r := (.inl (some (.int 1)), (jzv296 b0 b1 b2 b3))) (S' := ((151, [(5, .int 0), (4, .int 0), (3, .ref 153), (2, .ref 66), (1, .ref 64), (0, .ref 63)], [.int 1], (jzv296 b0 b1 b2 b3)) : jS)) rfl (jzrp_ZZVZ xs b0 b1 b2 b3 g0 g1 g2 g3 h0 h1 h2 h3 ) rfl ?_
  refine jl_s (S' := ((153, [(6, .int 1), (5, .int 0), (4, .int 0), (3, .ref 153), (2, .ref 66), (1, .ref 64), (0, .ref 63)], [], (jzv296 b0 b1 b2 b3)) : jS)) rfl ?_
  refine jl_s (S' := ((154, [(6, .int 1), (5, .int 0), (4, .int 0), (3, .ref 153), (2, .ref 66), (1, .ref 64), (0, .ref 63)], [.ref 66], (jzv296 b0 b1 b2 b3)) : jS)) rfl ?_
  refine jl_c (t := 244) (as := [.ref 66]) (V := (jzv296 b0 b1 b2 b3)) (r := (.inl (some (.int 0)), (jzv296 b0 b1 b2 b3))) (S' := ((157, [(6, .int 1), (5, .int 0), (4, .int 0), (3, .ref 153), (2, .ref 66), (1, .ref 64), (0, .ref 63)], [.int 0], (jzv296 b0 b1 b2 b3)) : jS)) rfl (jzl566 xs hop b0 b1 b2 b3 e0 e1 e2 e3 g0 g1 g2 g3 h0 h1 h2 h3) rfl ?_
  refine jl_s (S' := ((159, [(6, .int 1), (5, .int 0), (4, .int 0), (3, .ref 153), (2, .ref 66), (1, .ref 64), (0, .ref 63)], [.int 0, .int 0], (jzv296 b0 b1 b2 b3)) : jS)) rfl ?_
  refine jl_s (S' := ((164, [(6, .int 1), (5, .int 0), (4, .int 0), (3, .ref 153), (2, .ref 66), (1, .ref 64), (0, .ref 63)], [], (jzv296 b0 b1 b2 b3)) : jS)) rfl ?_
  refine jl_s (S' := ((166, [(6, .int 1), (5, .int 0), (4, .int 0), (3, .ref 153), (2, .ref 66), (1, .ref 64), (0, .ref 63)], [.int 0], (jzv296 b0 b1 b2 b3)) : jS)) rfl ?_
  refine jl_s (S' := ((169, [(6, .int 1), (5, .int 0), (4, .int 0), (3, .ref 153), (2, .ref 66), (1, .ref 64), (0, .ref 63)], [], (jzv296 b0 b1 b2 b3)) : jS)) rfl ?_
  refine jl_s (S' := ((170, [(6, .int 1), (5, .int 0), (4, .int 0), (3, .ref 153), (2, .ref 66), (1, .ref 64), (0, .ref 63)], [.ref 153], (jzv296 b0 b1 b2 b3)) : jS)) rfl ?_
  refine jl_s (S' := ((171, [(6, .int 1), (5, .int 0), (4, .int 0), (3, .ref 153), (2, .ref 66), (1, .ref 64), (0, .ref 63)], [.int 0, .ref 153], (jzv296 b0 b1 b2 b3)) : jS)) rfl ?_
  refine jl_s (S' := ((172, [(6, .int 1), (5, .int 0), (4, .int 0), (3, .ref 153), (2, .ref 66), (1, .ref 64), (0, .ref 63)], [.long 1], (jzv296 b0 b1 b2 b3)) : jS)) rfl ?_
  refine jl_s (S' := ((174, [(6, .int 1), (5, .int 0), (4, .int 0), (3, .ref 153), (2, .ref 66), (1, .ref 64), (0, .ref 63)], [.int 1, .long 1], (jzv296 b0 b1 b2 b3)) : jS)) rfl ?_
  refine jl_s (S' := ((175, [(6, .int 1), (5, .int 0), (4, .int 0), (3, .ref 153), (2, .ref 66), (1, .ref 64), (0, .ref 63)], [.long 1, .long 1], (jzv296 b0 b1 b2 b3)) : jS)) rfl ?_
  refine jl_s (S' := ((176, [(6, .int 1), (5, .int 0), (4, .int 0), (3, .ref 153), (2, .ref 66), (1, .ref 64), (0, .ref 63)], [.int 0], (jzv296 b0 b1 b2 b3)) : jS)) rfl ?_
  refine jl_s (S' := ((181, [(6, .int 1), (5, .int 0), (4, .int 0), (3, .ref 153), (2, .ref 66), (1, .ref 64), (0, .ref 63)], [], (jzv296 b0 b1 b2 b3)) : jS)) rfl ?_
  refine jl_s (S' := ((1193, [(6, .int 1), (5, .int 0), (4, .int 0), (3, .ref 153), (2, .ref 66), (1, .ref 64), (0, .ref 63)], [], (jzv296 b0 b1 b2 b3)) : jS)) rfl ?_
  refine jl_s (S' := ((1196, [(4, .int 4), (6, .int 1), (5, .int 0), (3, .ref 153), (2, .ref 66), (1, .ref 64), (0, .ref 63)], [], (jzv296 b0 b1 b2 b3)) : jS)) rfl ?_
  refine jl_s (S' := ((23, [(4, .int 4), (6, .int 1), (5, .int 0), (3, .ref 153), (2, .ref 66), (1, .ref 64), (0, .ref 63)], [], (jzv296 b0 b1 b2 b3)) : jS)) rfl ?_
  refine jl_s (S' := ((25, [(4, .int 4), (6, .int 1), (5, .int 0), (3, .ref 153), (2, .ref 66), (1, .ref 64), (0, .ref 63)], [.int 4], (jzv296 b0 b1 b2 b3)) : jS)) rfl ?_
  refine jl_s (S' := ((26, [(4, .int 4), (6, .int 1), (5, .int 0), (3, .ref 153), (2, .ref 66), (1, .ref 64), (0, .ref 63)], [.ref 63, .int 4], (jzv296 b0 b1 b2 b3)) : jS)) rfl ?_
  refine jl_s (S' := ((27, [(4, .int 4), (6, .int 1), (5, .int 0), (3, .ref 153), (2, .ref 66), (1, .ref 64), (0, .ref 63)], [.int 4, .int 4], (jzv296 b0 b1 b2 b3)) : jS)) rfl ?_
  refine jl_s (S' := ((28, [(4, .int 4), (6, .int 1), (5, .int 0), (3, .ref 153), (2, .ref 66), (1, .ref 64), (0, .ref 63)], [.int 4, .int 4, .int 4], (jzv296 b0 b1 b2 b3)) : jS)) rfl ?_
  refine jl_s (S' := ((29, [(4, .int 4), (6, .int 1), (5, .int 0), (3, .ref 153), (2, .ref 66), (1, .ref 64), (0, .ref 63)], [.int 0, .int 4], (jzv296 b0 b1 b2 b3)) : jS)) rfl ?_
  refine jl_s (S' := ((1199, [(4, .int 4), (6, .int 1), (5, .int 0), (3, .ref 153), (2, .ref 66), (1, .ref 64), (0, .ref 63)], [], (jzv296 b0 b1 b2 b3)) : jS)) rfl ?_
  refine jl_s (S' := ((1200, [(4, .int 4), (6, .int 1), (5, .int 0), (3, .ref 153), (2, .ref 66), (1, .ref 64), (0, .ref 63)], [.int 1], (jzv296 b0 b1 b2 b3)) : jS)) rfl ?_
  exact jl_r (r := (.inl (some (.int 1)), (jzv296 b0 b1 b2 b3))) rfl
-- op 0 ZZVZ: jzl567
def jzc204 : jC := .inl (2, 1, .inr (.inl (vp_updL (fun _ => 0) 0 2)))
def jzv297 (b0 b1 b2 b3 : Int32) : jH := [jzc185, (jzc184 b0 b1 b2 b3), jzc117, jzc7, jzc9, jzc9, jzc9, jzc9, jzc9, jzc17, jzc19, jzc19, jzc19, jzc19, jzc19, jzc19, jzc19, jzc19, jzc28, jzc28, jzc28, jzc28, jzc28, jzc28, jzc28, jzc28, jzc28, jzc28, jzc28, jzc28, jzc28, jzc28, jzc43, jzc43, jzc43, jzc43, jzc43, jzc49, jzc49, jzc52, jzc52, jzc52, jzc56, jzc56, jzc59, jzc56, jzc62, jzc28, jzc28, jzc28, jzc28, jzc28, jzc69, jzc71, jzc73, jzc43, jzc76, jzc52, jzc52, jzc80, jzc80, jzc80, jzc84, jzc52, jzc52, jzc52, jzc52, jzc52, jzc52, jzc52, jzc93, jzc93, jzc52, jzc52, jzc98, jzc100, jzc93, jzc52, jzc52, jzc52, jzc52, jzc107, jzc109, jzc111, jzc100, jzc100, jzc100, jzc111, jzc111, jzc204]
set_option maxHeartbeats 4000000 in
set_option maxRecDepth 100000 in
theorem jzl568 (xs : Nat → Int32) (hop : xs 0 &&& 31 = 0) (b0 b1 b2 b3 : Int32) (e0 : ((Int32.toUInt32 (xs 1) >>> (Int32.toUInt32 0 &&& Int32.toUInt32 31)).toInt32) &&& 255 = b0) (e1 : ((Int32.toUInt32 (xs 1) >>> (Int32.toUInt32 8 &&& Int32.toUInt32 31)).toInt32) &&& 255 = b1) (e2 : ((Int32.toUInt32 (xs 1) >>> (Int32.toUInt32 16 &&& Int32.toUInt32 31)).toInt32) &&& 255 = b2) (e3 : ((Int32.toUInt32 (xs 1) >>> (Int32.toUInt32 24 &&& Int32.toUInt32 31)).toInt32) &&& 255 = b3) (g0 : ((xs 1) >>> (0 &&& 31)) &&& 255 = b0) (g1 : ((xs 1) >>> (8 &&& 31)) &&& 255 = b1) (g2 : ((xs 1) >>> (16 &&& 31)) &&& 255 = b2) (g3 : ((xs 1) >>> (24 &&& 31)) &&& 255 = b3) (h0 : jbz b0) (h1 : jbz b1) (h2 : jbv b2) (h3 : jbv b3) : jRun ((4, xs) : jX) 2000 39 0 [.ref 64, .int (xs 1), .ref 153] jzv181 = some (.inl (some (.int 0)), (jzv297 b0 b1 b2 b3)) := by
  refine jr_run (e := jm0) rfl (Nat.le_of_ble_eq_true rfl) ?_
  refine jl_s (S' := ((1, [(0, .ref 64), (1, .int (xs 1)), (2, .ref 153)], [.ref 153], jzv181) : jS)) rfl ?_
  refine jl_s (S' := ((2, [(0, .ref 64), (1, .int (xs 1)), (2, .ref 153)], [.int 0, .ref 153], jzv181) : jS)) rfl ?_
  refine jl_s (S' := ((3, [(0, .ref 64), (1, .int (xs 1)), (2, .ref 153)], [.ref 64, .int 0, .ref 153], jzv181) : jS)) rfl ?_
  refine jl_s (S' := ((4, [(0, .ref 64), (1, .int (xs 1)), (2, .ref 153)], [.int (xs 1), .ref 64, .int 0, .ref 153], jzv181) : jS)) rfl ?_
  refine jl_c (t := 20) (as := [.ref 64, .int (xs 1)]) (V := jzv181) (r := (.inl (some (.int 2)), (jzv266 b0 b1 b2 b3))) (S' := ((7, [(0, .ref 64), (1, .int (xs 1)), (2, .ref 153)], [.int 2, .int 0, .ref 153], (jzv266 b0 b1 b2 b3)) : jS)) rfl (jzcp_ZZVV xs b0 b1 b2 b3 e0 e1 e2 e3 h0 h1 h2 h3 ) rfl ?_
  refine jl_s (S' := ((8, [(0, .ref 64), (1, .int (xs 1)), (2, .ref 153)], [.long 2, .int 0, .ref 153], (jzv266 b0 b1 b2 b3)) : jS)) rfl ?_
  refine jl_s (S' := ((9, [(0, .ref 64), (1, .int (xs 1)), (2, .ref 153)], [], (jzv297 b0 b1 b2 b3)) : jS)) rfl ?_
  refine jl_s (S' := ((18, [(0, .ref 64), (1, .int (xs 1)), (2, .ref 153)], [], (jzv297 b0 b1 b2 b3)) : jS)) rfl ?_
  refine jl_s (S' := ((19, [(0, .ref 64), (1, .int (xs 1)), (2, .ref 153)], [.int 0], (jzv297 b0 b1 b2 b3)) : jS)) rfl ?_
  exact jl_r (r := (.inl (some (.int 0)), (jzv297 b0 b1 b2 b3))) rfl
set_option maxHeartbeats 4000000 in
set_option maxRecDepth 100000 in
theorem jzq570 (xs : Nat → Int32) (b0 b1 b2 b3 : Int32) (V : jH) (e : ((xs 1) >>> (24 &&& 31)) &&& 255 = b3) (h : jbv b3) {f : Nat} {q : jO × jH} (hq : jLoop (jRun ((4, xs) : jX) 2000 38) ((4, xs) : jX) jm248 f ((7, [(4, .int 32), (3, .int 2), (2, .int 0), (5, .int (b3)), (0, .ref 66), (1, .int (xs 1))], [], V) : jS) = some q) : jLoop (jRun ((4, xs) : jX) 2000 38) ((4, xs) : jX) jm248 (f + 27) ((7, [(4, .int 24), (3, .int 1), (2, .int 0), (5, .int (b2)), (0, .ref 66), (1, .int (xs 1))], [], V) : jS) = some q := by
  refine jl_s (S' := ((9, [(4, .int 24), (3, .int 1), (2, .int 0), (5, .int (b2)), (0, .ref 66), (1, .int (xs 1))], [.int 24], V) : jS)) rfl ?_
  refine jl_s (S' := ((11, [(4, .int 24), (3, .int 1), (2, .int 0), (5, .int (b2)), (0, .ref 66), (1, .int (xs 1))], [.int 32, .int 24], V) : jS)) rfl ?_
  refine jl_s (S' := ((14, [(4, .int 24), (3, .int 1), (2, .int 0), (5, .int (b2)), (0, .ref 66), (1, .int (xs 1))], [], V) : jS)) rfl ?_
  refine jl_s (S' := ((15, [(4, .int 24), (3, .int 1), (2, .int 0), (5, .int (b2)), (0, .ref 66), (1, .int (xs 1))], [.int (xs 1)], V) : jS)) rfl ?_
  refine jl_s (S' := ((17, [(4, .int 24), (3, .int 1), (2, .int 0), (5, .int (b2)), (0, .ref 66), (1, .int (xs 1))], [.int 24, .int (xs 1)], V) : jS)) rfl ?_
  refine jl_s (S' := ((18, [(4, .int 24), (3, .int 1), (2, .int 0), (5, .int (b2)), (0, .ref 66), (1, .int (xs 1))], [.int ((xs 1) >>> (24 &&& 31))], V) : jS)) rfl ?_
  refine jl_s (S' := ((21, [(4, .int 24), (3, .int 1), (2, .int 0), (5, .int (b2)), (0, .ref 66), (1, .int (xs 1))], [.int 255, .int ((xs 1) >>> (24 &&& 31))], V) : jS)) rfl ?_
  refine jl_s (S' := ((22, [(4, .int 24), (3, .int 1), (2, .int 0), (5, .int (b2)), (0, .ref 66), (1, .int (xs 1))], [.int (((xs 1) >>> (24 &&& 31)) &&& 255)], V) : jS)) rfl ?_
  rw [e]
  refine jl_s (S' := ((24, [(5, .int (b3)), (4, .int 24), (3, .int 1), (2, .int 0), (0, .ref 66), (1, .int (xs 1))], [], V) : jS)) rfl ?_
  refine jl_s (S' := ((25, [(5, .int (b3)), (4, .int 24), (3, .int 1), (2, .int 0), (0, .ref 66), (1, .int (xs 1))], [.int 0], V) : jS)) rfl ?_
  refine jl_s (S' := ((28, [(5, .int (b3)), (4, .int 24), (3, .int 1), (2, .int 0), (0, .ref 66), (1, .int (xs 1))], [], V) : jS)) rfl ?_
  refine jl_s (S' := ((30, [(5, .int (b3)), (4, .int 24), (3, .int 1), (2, .int 0), (0, .ref 66), (1, .int (xs 1))], [.int (b3)], V) : jS)) rfl ?_
  refine jl_iff (e := jm248) (o := 15) rfl (h.1.1) ?_
  refine jl_s (S' := ((35, [(5, .int (b3)), (4, .int 24), (3, .int 1), (2, .int 0), (0, .ref 66), (1, .int (xs 1))], [.int (b3)], V) : jS)) rfl ?_
  refine jl_c (t := 247) (as := [.int (b3)]) (V := V) (r := (.inl (some (.int 1)), V)) (S' := ((38, [(5, .int (b3)), (4, .int 24), (3, .int 1), (2, .int 0), (0, .ref 66), (1, .int (xs 1))], [.int 1], V) : jS)) rfl (jz_sv ((4, xs) : jX) V b3 h ) rfl ?_
  refine jl_s (S' := ((45, [(5, .int (b3)), (4, .int 24), (3, .int 1), (2, .int 0), (0, .ref 66), (1, .int (xs 1))], [], V) : jS)) rfl ?_
  refine jl_s (S' := ((46, [(5, .int (b3)), (4, .int 24), (3, .int 1), (2, .int 0), (0, .ref 66), (1, .int (xs 1))], [.int 0], V) : jS)) rfl ?_
  refine jl_s (S' := ((47, [(2, .int 0), (5, .int (b3)), (4, .int 24), (3, .int 1), (0, .ref 66), (1, .int (xs 1))], [], V) : jS)) rfl ?_
  refine jl_s (S' := ((49, [(2, .int 0), (5, .int (b3)), (4, .int 24), (3, .int 1), (0, .ref 66), (1, .int (xs 1))], [.int (b3)], V) : jS)) rfl ?_
  refine jl_iff (e := jm248) (o := 9) rfl (h.1.1) ?_
  refine jl_s (S' := ((53, [(2, .int 0), (5, .int (b3)), (4, .int 24), (3, .int 1), (0, .ref 66), (1, .int (xs 1))], [.int 1], V) : jS)) rfl ?_
  refine jl_s (S' := ((54, [(2, .int 0), (5, .int (b3)), (4, .int 24), (3, .int 1), (0, .ref 66), (1, .int (xs 1))], [.int 1, .int 1], V) : jS)) rfl ?_
  refine jl_s (S' := ((55, [(2, .int 0), (5, .int (b3)), (4, .int 24), (3, .int 1), (0, .ref 66), (1, .int (xs 1))], [.int 2], V) : jS)) rfl ?_
  refine jl_s (S' := ((59, [(2, .int 0), (5, .int (b3)), (4, .int 24), (3, .int 1), (0, .ref 66), (1, .int (xs 1))], [.int 2], V) : jS)) rfl ?_
  refine jl_s (S' := ((60, [(3, .int 2), (2, .int 0), (5, .int (b3)), (4, .int 24), (0, .ref 66), (1, .int (xs 1))], [], V) : jS)) rfl ?_
  refine jl_s (S' := ((63, [(4, .int 32), (3, .int 2), (2, .int 0), (5, .int (b3)), (0, .ref 66), (1, .int (xs 1))], [], V) : jS)) rfl ?_
  refine jl_s (S' := ((7, [(4, .int 32), (3, .int 2), (2, .int 0), (5, .int (b3)), (0, .ref 66), (1, .int (xs 1))], [], V) : jS)) rfl ?_
  exact hq
set_option maxHeartbeats 4000000 in
set_option maxRecDepth 100000 in
theorem jzl571 (xs : Nat → Int32) (b0 b1 b2 b3 : Int32) : jRun ((4, xs) : jX) 2000 38 245 [.ref 66, .int 0, .int 0, .int 0] (jzv297 b0 b1 b2 b3) = some (.inl (some (.int 0)), (jzv297 b0 b1 b2 b3)) := by
  refine jr_run (e := jm245) rfl (Nat.le_of_ble_eq_true rfl) ?_
  refine jl_s (S' := ((1, [(0, .ref 66), (1, .int 0), (2, .int 0), (3, .int 0)], [.ref 66], (jzv297 b0 b1 b2 b3)) : jS)) rfl ?_
  refine jl_s (S' := ((2, [(0, .ref 66), (1, .int 0), (2, .int 0), (3, .int 0)], [.int 0, .ref 66], (jzv297 b0 b1 b2 b3)) : jS)) rfl ?_
  refine jl_s (S' := ((9, [(0, .ref 66), (1, .int 0), (2, .int 0), (3, .int 0)], [.ref 66], (jzv297 b0 b1 b2 b3)) : jS)) rfl ?_
  refine jl_s (S' := ((10, [(0, .ref 66), (1, .int 0), (2, .int 0), (3, .int 0)], [.int 0, .ref 66], (jzv297 b0 b1 b2 b3)) : jS)) rfl ?_
  refine jl_s (S' := ((17, [(0, .ref 66), (1, .int 0), (2, .int 0), (3, .int 0)], [.ref 66], (jzv297 b0 b1 b2 b3)) : jS)) rfl ?_
  refine jl_s (S' := ((18, [(0, .ref 66), (1, .int 0), (2, .int 0), (3, .int 0)], [.int 0, .ref 66], (jzv297 b0 b1 b2 b3)) : jS)) rfl ?_
  refine jl_s (S' := ((25, [(0, .ref 66), (1, .int 0), (2, .int 0), (3, .int 0)], [.ref 66], (jzv297 b0 b1 b2 b3)) : jS)) rfl ?_
  refine jl_s (S' := ((26, [(0, .ref 66), (1, .int 0), (2, .int 0), (3, .int 0)], [.int 0, .ref 66], (jzv297 b0 b1 b2 b3)) : jS)) rfl ?_
  refine jl_s (S' := ((29, [(0, .ref 66), (1, .int 0), (2, .int 0), (3, .int 0)], [], (jzv297 b0 b1 b2 b3)) : jS)) rfl ?_
  refine jl_s (S' := ((30, [(0, .ref 66), (1, .int 0), (2, .int 0), (3, .int 0)], [.ref 66], (jzv297 b0 b1 b2 b3)) : jS)) rfl ?_
  refine jl_s (S' := ((33, [(0, .ref 66), (1, .int 0), (2, .int 0), (3, .int 0)], [.int 0], (jzv297 b0 b1 b2 b3)) : jS)) rfl ?_
  refine jl_s (S' := ((40, [(0, .ref 66), (1, .int 0), (2, .int 0), (3, .int 0)], [], (jzv297 b0 b1 b2 b3)) : jS)) rfl ?_
  refine jl_s (S' := ((41, [(0, .ref 66), (1, .int 0), (2, .int 0), (3, .int 0)], [.int 0], (jzv297 b0 b1 b2 b3)) : jS)) rfl ?_
  exact jl_r (r := (.inl (some (.int 0)), (jzv297 b0 b1 b2 b3))) rfl
set_option maxHeartbeats 4000000 in
set_option maxRecDepth 100000 in
theorem jzq573 (xs : Nat → Int32) (b0 b1 b2 b3 : Int32) {f : Nat} {q : jO × jH} (hq : jLoop (jRun ((4, xs) : jX) 2000 38) ((4, xs) : jX) jm248 f ((101, [(4, .int 0), (3, .int 2), (2, .int 0), (5, .int (b3)), (0, .ref 66), (1, .int (xs 1))], [], (jzv297 b0 b1 b2 b3)) : jS) = some q) : jLoop (jRun ((4, xs) : jX) 2000 38) ((4, xs) : jX) jm248 (f + 19) ((7, [(4, .int 32), (3, .int 2), (2, .int 0), (5, .int (b3)), (0, .ref 66), (1, .int (xs 1))], [], (jzv297 b0 b1 b2 b3)) : jS) = some q := by
  refine jl_s (S' := ((9, [(4, .int 32), (3, .int 2), (2, .int 0), (5, .int (b3)), (0, .ref 66), (1, .int (xs 1))], [.int 32], (jzv297 b0 b1 b2 b3)) : jS)) rfl ?_
  refine jl_s (S' := ((11, [(4, .int 32), (3, .int 2), (2, .int 0), (5, .int (b3)), (0, .ref 66), (1, .int (xs 1))], [.int 32, .int 32], (jzv297 b0 b1 b2 b3)) : jS)) rfl ?_
  refine jl_s (S' := ((66, [(4, .int 32), (3, .int 2), (2, .int 0), (5, .int (b3)), (0, .ref 66), (1, .int (xs 1))], [], (jzv297 b0 b1 b2 b3)) : jS)) rfl ?_
  refine jl_s (S' := ((67, [(4, .int 32), (3, .int 2), (2, .int 0), (5, .int (b3)), (0, .ref 66), (1, .int (xs 1))], [.ref 66], (jzv297 b0 b1 b2 b3)) : jS)) rfl ?_
  refine jl_s (S' := ((68, [(4, .int 32), (3, .int 2), (2, .int 0), (5, .int (b3)), (0, .ref 66), (1, .int (xs 1))], [.int 0, .ref 66], (jzv297 b0 b1 b2 b3)) : jS)) rfl ?_
  refine jl_s (S' := ((69, [(4, .int 32), (3, .int 2), (2, .int 0), (5, .int (b3)), (0, .ref 66), (1, .int (xs 1))], [.int 0, .int 0, .ref 66], (jzv297 b0 b1 b2 b3)) : jS)) rfl ?_
  refine jl_s (S' := ((72, [(4, .int 32), (3, .int 2), (2, .int 0), (5, .int (b3)), (0, .ref 66), (1, .int (xs 1))], [.int 0, .ref 66], (jzv297 b0 b1 b2 b3)) : jS)) rfl ?_
  refine jl_s (S' := ((73, [(4, .int 32), (3, .int 2), (2, .int 0), (5, .int (b3)), (0, .ref 66), (1, .int (xs 1))], [.ref 66, .int 0, .ref 66], (jzv297 b0 b1 b2 b3)) : jS)) rfl ?_
  refine jl_s (S' := ((76, [(4, .int 32), (3, .int 2), (2, .int 0), (5, .int (b3)), (0, .ref 66), (1, .int (xs 1))], [.int 0, .int 0, .ref 66], (jzv297 b0 b1 b2 b3)) : jS)) rfl ?_
  refine jl_s (S' := ((77, [(4, .int 32), (3, .int 2), (2, .int 0), (5, .int (b3)), (0, .ref 66), (1, .int (xs 1))], [.int 2, .int 0, .int 0, .ref 66], (jzv297 b0 b1 b2 b3)) : jS)) rfl ?_
  refine jl_s (S' := ((78, [(4, .int 32), (3, .int 2), (2, .int 0), (5, .int (b3)), (0, .ref 66), (1, .int (xs 1))], [.int 2, .int 0, .ref 66], (jzv297 b0 b1 b2 b3)) : jS)) rfl ?_
  refine jl_s (S' := ((81, [(4, .int 32), (3, .int 2), (2, .int 0), (5, .int (b3)), (0, .ref 66), (1, .int (xs 1))], [.int 3000, .int 2, .int 0, .ref 66], (jzv297 b0 b1 b2 b3)) : jS)) rfl ?_
  refine jl_s (S' := ((88, [(4, .int 32), (3, .int 2), (2, .int 0), (5, .int (b3)), (0, .ref 66), (1, .int (xs 1))], [.int 0, .ref 66], (jzv297 b0 b1 b2 b3)) : jS)) rfl ?_
  refine jl_s (S' := ((89, [(4, .int 32), (3, .int 2), (2, .int 0), (5, .int (b3)), (0, .ref 66), (1, .int (xs 1))], [.int 0, .int 0, .ref 66], (jzv297 b0 b1 b2 b3)) : jS)) rfl ?_
  refine jl_s (S' := ((90, [(4, .int 32), (3, .int 2), (2, .int 0), (5, .int (b3)), (0, .ref 66), (1, .int (xs 1))], [.int 0, .int 0, .int 0, .ref 66], (jzv297 b0 b1 b2 b3)) : jS)) rfl ?_
  refine jl_c (t := 245) (as := [.ref 66, .int 0, .int 0, .int 0]) (V := (jzv297 b0 b1 b2 b3)) (r := (.inl (some (.int 0)), (jzv297 b0 b1 b2 b3))) (S' := ((93, [(4, .int 32), (3, .int 2), (2, .int 0), (5, .int (b3)), (0, .ref 66), (1, .int (xs 1))], [.int 0], (jzv297 b0 b1 b2 b3)) : jS)) rfl (jzl571 xs b0 b1 b2 b3) rfl ?_
  refine jl_s (S' := ((98, [(4, .int 32), (3, .int 2), (2, .int 0), (5, .int (b3)), (0, .ref 66), (1, .int (xs 1))], [], (jzv297 b0 b1 b2 b3)) : jS)) rfl ?_
  refine jl_s (S' := ((99, [(4, .int 32), (3, .int 2), (2, .int 0), (5, .int (b3)), (0, .ref 66), (1, .int (xs 1))], [.int 0], (jzv297 b0 b1 b2 b3)) : jS)) rfl ?_
  refine jl_s (S' := ((101, [(4, .int 0), (3, .int 2), (2, .int 0), (5, .int (b3)), (0, .ref 66), (1, .int (xs 1))], [], (jzv297 b0 b1 b2 b3)) : jS)) rfl ?_
  exact hq
set_option maxHeartbeats 4000000 in
set_option maxRecDepth 100000 in
theorem jzq575 (xs : Nat → Int32) (b0 b1 b2 b3 : Int32) (e : ((xs 1) >>> (0 &&& 31)) &&& 255 = b0) (h : jbz b0) {f : Nat} {q : jO × jH} (hq : jLoop (jRun ((4, xs) : jX) 2000 38) ((4, xs) : jX) jm248 f ((101, [(4, .int 8), (5, .int (b0)), (3, .int 2), (2, .int 0), (0, .ref 66), (1, .int (xs 1))], [], (jzv297 b0 b1 b2 b3)) : jS) = some q) : jLoop (jRun ((4, xs) : jX) 2000 38) ((4, xs) : jX) jm248 (f + 13) ((101, [(4, .int 0), (3, .int 2), (2, .int 0), (5, .int (b3)), (0, .ref 66), (1, .int (xs 1))], [], (jzv297 b0 b1 b2 b3)) : jS) = some q := by
  refine jl_s (S' := ((103, [(4, .int 0), (3, .int 2), (2, .int 0), (5, .int (b3)), (0, .ref 66), (1, .int (xs 1))], [.int 0], (jzv297 b0 b1 b2 b3)) : jS)) rfl ?_
  refine jl_s (S' := ((105, [(4, .int 0), (3, .int 2), (2, .int 0), (5, .int (b3)), (0, .ref 66), (1, .int (xs 1))], [.int 32, .int 0], (jzv297 b0 b1 b2 b3)) : jS)) rfl ?_
  refine jl_s (S' := ((108, [(4, .int 0), (3, .int 2), (2, .int 0), (5, .int (b3)), (0, .ref 66), (1, .int (xs 1))], [], (jzv297 b0 b1 b2 b3)) : jS)) rfl ?_
  refine jl_s (S' := ((109, [(4, .int 0), (3, .int 2), (2, .int 0), (5, .int (b3)), (0, .ref 66), (1, .int (xs 1))], [.int (xs 1)], (jzv297 b0 b1 b2 b3)) : jS)) rfl ?_
  refine jl_s (S' := ((111, [(4, .int 0), (3, .int 2), (2, .int 0), (5, .int (b3)), (0, .ref 66), (1, .int (xs 1))], [.int 0, .int (xs 1)], (jzv297 b0 b1 b2 b3)) : jS)) rfl ?_
  refine jl_s (S' := ((112, [(4, .int 0), (3, .int 2), (2, .int 0), (5, .int (b3)), (0, .ref 66), (1, .int (xs 1))], [.int ((xs 1) >>> (0 &&& 31))], (jzv297 b0 b1 b2 b3)) : jS)) rfl ?_
  refine jl_s (S' := ((115, [(4, .int 0), (3, .int 2), (2, .int 0), (5, .int (b3)), (0, .ref 66), (1, .int (xs 1))], [.int 255, .int ((xs 1) >>> (0 &&& 31))], (jzv297 b0 b1 b2 b3)) : jS)) rfl ?_
  refine jl_s (S' := ((116, [(4, .int 0), (3, .int 2), (2, .int 0), (5, .int (b3)), (0, .ref 66), (1, .int (xs 1))], [.int (((xs 1) >>> (0 &&& 31)) &&& 255)], (jzv297 b0 b1 b2 b3)) : jS)) rfl ?_
  rw [e]
  refine jl_s (S' := ((118, [(5, .int (b0)), (4, .int 0), (3, .int 2), (2, .int 0), (0, .ref 66), (1, .int (xs 1))], [], (jzv297 b0 b1 b2 b3)) : jS)) rfl ?_
  refine jl_s (S' := ((120, [(5, .int (b0)), (4, .int 0), (3, .int 2), (2, .int 0), (0, .ref 66), (1, .int (xs 1))], [.int (b0)], (jzv297 b0 b1 b2 b3)) : jS)) rfl ?_
  refine jl_ift (e := jm248) (o := 24) rfl (h.1) (t := 144) rfl ?_
  refine jl_s (S' := ((147, [(4, .int 8), (5, .int (b0)), (3, .int 2), (2, .int 0), (0, .ref 66), (1, .int (xs 1))], [], (jzv297 b0 b1 b2 b3)) : jS)) rfl ?_
  refine jl_s (S' := ((101, [(4, .int 8), (5, .int (b0)), (3, .int 2), (2, .int 0), (0, .ref 66), (1, .int (xs 1))], [], (jzv297 b0 b1 b2 b3)) : jS)) rfl ?_
  exact hq
set_option maxHeartbeats 4000000 in
set_option maxRecDepth 100000 in
theorem jzq577 (xs : Nat → Int32) (b0 b1 b2 b3 : Int32) (e : ((xs 1) >>> (8 &&& 31)) &&& 255 = b1) (h : jbz b1) {f : Nat} {q : jO × jH} (hq : jLoop (jRun ((4, xs) : jX) 2000 38) ((4, xs) : jX) jm248 f ((101, [(4, .int 16), (5, .int (b1)), (3, .int 2), (2, .int 0), (0, .ref 66), (1, .int (xs 1))], [], (jzv297 b0 b1 b2 b3)) : jS) = some q) : jLoop (jRun ((4, xs) : jX) 2000 38) ((4, xs) : jX) jm248 (f + 13) ((101, [(4, .int 8), (5, .int (b0)), (3, .int 2), (2, .int 0), (0, .ref 66), (1, .int (xs 1))], [], (jzv297 b0 b1 b2 b3)) : jS) = some q := by
  refine jl_s (S' := ((103, [(4, .int 8), (5, .int (b0)), (3, .int 2), (2, .int 0), (0, .ref 66), (1, .int (xs 1))], [.int 8], (jzv297 b0 b1 b2 b3)) : jS)) rfl ?_
  refine jl_s (S' := ((105, [(4, .int 8), (5, .int (b0)), (3, .int 2), (2, .int 0), (0, .ref 66), (1, .int (xs 1))], [.int 32, .int 8], (jzv297 b0 b1 b2 b3)) : jS)) rfl ?_
  refine jl_s (S' := ((108, [(4, .int 8), (5, .int (b0)), (3, .int 2), (2, .int 0), (0, .ref 66), (1, .int (xs 1))], [], (jzv297 b0 b1 b2 b3)) : jS)) rfl ?_
  refine jl_s (S' := ((109, [(4, .int 8), (5, .int (b0)), (3, .int 2), (2, .int 0), (0, .ref 66), (1, .int (xs 1))], [.int (xs 1)], (jzv297 b0 b1 b2 b3)) : jS)) rfl ?_
  refine jl_s (S' := ((111, [(4, .int 8), (5, .int (b0)), (3, .int 2), (2, .int 0), (0, .ref 66), (1, .int (xs 1))], [.int 8, .int (xs 1)], (jzv297 b0 b1 b2 b3)) : jS)) rfl ?_
  refine jl_s (S' := ((112, [(4, .int 8), (5, .int (b0)), (3, .int 2), (2, .int 0), (0, .ref 66), (1, .int (xs 1))], [.int ((xs 1) >>> (8 &&& 31))], (jzv297 b0 b1 b2 b3)) : jS)) rfl ?_
  refine jl_s (S' := ((115, [(4, .int 8), (5, .int (b0)), (3, .int 2), (2, .int 0), (0, .ref 66), (1, .int (xs 1))], [.int 255, .int ((xs 1) >>> (8 &&& 31))], (jzv297 b0 b1 b2 b3)) : jS)) rfl ?_
  refine jl_s (S' := ((116, [(4, .int 8), (5, .int (b0)), (3, .int 2), (2, .int 0), (0, .ref 66), (1, .int (xs 1))], [.int (((xs 1) >>> (8 &&& 31)) &&& 255)], (jzv297 b0 b1 b2 b3)) : jS)) rfl ?_
  rw [e]
  refine jl_s (S' := ((118, [(5, .int (b1)), (4, .int 8), (3, .int 2), (2, .int 0), (0, .ref 66), (1, .int (xs 1))], [], (jzv297 b0 b1 b2 b3)) : jS)) rfl ?_
  refine jl_s (S' := ((120, [(5, .int (b1)), (4, .int 8), (3, .int 2), (2, .int 0), (0, .ref 66), (1, .int (xs 1))], [.int (b1)], (jzv297 b0 b1 b2 b3)) : jS)) rfl ?_
  refine jl_ift (e := jm248) (o := 24) rfl (h.1) (t := 144) rfl ?_
  refine jl_s (S' := ((147, [(4, .int 16), (5, .int (b1)), (3, .int 2), (2, .int 0), (0, .ref 66), (1, .int (xs 1))], [], (jzv297 b0 b1 b2 b3)) : jS)) rfl ?_
  refine jl_s (S' := ((101, [(4, .int 16), (5, .int (b1)), (3, .int 2), (2, .int 0), (0, .ref 66), (1, .int (xs 1))], [], (jzv297 b0 b1 b2 b3)) : jS)) rfl ?_
  exact hq
def jzv298 (b0 b1 b2 b3 : Int32) : jH := [jzc185, (jzc184 b0 b1 b2 b3), jzc117, (jzc203 b0 b1 b2 b3), jzc9, jzc9, jzc9, jzc9, jzc9, jzc17, jzc19, jzc19, jzc19, jzc19, jzc19, jzc19, jzc19, jzc19, jzc28, jzc28, jzc28, jzc28, jzc28, jzc28, jzc28, jzc28, jzc28, jzc28, jzc28, jzc28, jzc28, jzc28, jzc43, jzc43, jzc43, jzc43, jzc43, jzc49, jzc49, jzc52, jzc52, jzc52, jzc56, jzc56, jzc59, jzc56, jzc62, jzc28, jzc28, jzc28, jzc28, jzc28, jzc69, jzc71, jzc73, jzc43, jzc76, jzc52, jzc52, jzc80, jzc80, jzc80, jzc84, jzc52, jzc52, jzc52, jzc52, jzc52, jzc52, jzc52, jzc93, jzc93, jzc52, jzc52, jzc98, jzc100, jzc93, jzc52, jzc52, jzc52, jzc52, jzc107, jzc109, jzc111, jzc100, jzc100, jzc100, jzc111, jzc111, jzc204]
def jzv299 (b0 b1 b2 b3 : Int32) : jH := [jzc185, (jzc184 b0 b1 b2 b3), jzc202, (jzc203 b0 b1 b2 b3), jzc9, jzc9, jzc9, jzc9, jzc9, jzc17, jzc19, jzc19, jzc19, jzc19, jzc19, jzc19, jzc19, jzc19, jzc28, jzc28, jzc28, jzc28, jzc28, jzc28, jzc28, jzc28, jzc28, jzc28, jzc28, jzc28, jzc28, jzc28, jzc43, jzc43, jzc43, jzc43, jzc43, jzc49, jzc49, jzc52, jzc52, jzc52, jzc56, jzc56, jzc59, jzc56, jzc62, jzc28, jzc28, jzc28, jzc28, jzc28, jzc69, jzc71, jzc73, jzc43, jzc76, jzc52, jzc52, jzc80, jzc80, jzc80, jzc84, jzc52, jzc52, jzc52, jzc52, jzc52, jzc52, jzc52, jzc93, jzc93, jzc52, jzc52, jzc98, jzc100, jzc93, jzc52, jzc52, jzc52, jzc52, jzc107, jzc109, jzc111, jzc100, jzc100, jzc100, jzc111, jzc111, jzc204]
set_option maxHeartbeats 4000000 in
set_option maxRecDepth 100000 in
theorem jzq579 (xs : Nat → Int32) (b0 b1 b2 b3 : Int32) (e : ((xs 1) >>> (16 &&& 31)) &&& 255 = b2) (h : jbn b2) {f : Nat} {q : jO × jH} (hq : jLoop (jRun ((4, xs) : jX) 2000 38) ((4, xs) : jX) jm248 f ((101, [(4, .int 24), (5, .int (b2)), (3, .int 2), (2, .int 0), (0, .ref 66), (1, .int (xs 1))], [], (jzv299 b0 b1 b2 b3)) : jS) = some q) : jLoop (jRun ((4, xs) : jX) 2000 38) ((4, xs) : jX) jm248 (f + 25) ((101, [(4, .int 16), (5, .int (b1)), (3, .int 2), (2, .int 0), (0, .ref 66), (1, .int (xs 1))], [], (jzv297 b0 b1 b2 b3)) : jS) = some q := by
  refine jl_s (S' := ((103, [(4, .int 16), (5, .int (b1)), (3, .int 2), (2, .int 0), (0, .ref 66), (1, .int (xs 1))], [.int 16], (jzv297 b0 b1 b2 b3)) : jS)) rfl ?_
  refine jl_s (S' := ((105, [(4, .int 16), (5, .int (b1)), (3, .int 2), (2, .int 0), (0, .ref 66), (1, .int (xs 1))], [.int 32, .int 16], (jzv297 b0 b1 b2 b3)) : jS)) rfl ?_
  refine jl_s (S' := ((108, [(4, .int 16), (5, .int (b1)), (3, .int 2), (2, .int 0), (0, .ref 66), (1, .int (xs 1))], [], (jzv297 b0 b1 b2 b3)) : jS)) rfl ?_
  refine jl_s (S' := ((109, [(4, .int 16), (5, .int (b1)), (3, .int 2), (2, .int 0), (0, .ref 66), (1, .int (xs 1))], [.int (xs 1)], (jzv297 b0 b1 b2 b3)) : jS)) rfl ?_
  refine jl_s (S' := ((111, [(4, .int 16), (5, .int (b1)), (3, .int 2), (2, .int 0), (0, .ref 66), (1, .int (xs 1))], [.int 16, .int (xs 1)], (jzv297 b0 b1 b2 b3)) : jS)) rfl ?_
  refine jl_s (S' := ((112, [(4, .int 16), (5, .int (b1)), (3, .int 2), (2, .int 0), (0, .ref 66), (1, .int (xs 1))], [.int ((xs 1) >>> (16 &&& 31))], (jzv297 b0 b1 b2 b3)) : jS)) rfl ?_
  refine jl_s (S' := ((115, [(4, .int 16), (5, .int (b1)), (3, .int 2), (2, .int 0), (0, .ref 66), (1, .int (xs 1))], [.int 255, .int ((xs 1) >>> (16 &&& 31))], (jzv297 b0 b1 b2 b3)) : jS)) rfl ?_
  refine jl_s (S' := ((116, [(4, .int 16), (5, .int (b1)), (3, .int 2), (2, .int 0), (0, .ref 66), (1, .int (xs 1))], [.int (((xs 1) >>> (16 &&& 31)) &&& 255)], (jzv297 b0 b1 b2 b3)) : jS)) rfl ?_
  rw [e]
  refine jl_s (S' := ((118, [(5, .int (b2)), (4, .int 16), (3, .int 2), (2, .int 0), (0, .ref 66), (1, .int (xs 1))], [], (jzv297 b0 b1 b2 b3)) : jS)) rfl ?_
  refine jl_s (S' := ((120, [(5, .int (b2)), (4, .int 16), (3, .int 2), (2, .int 0), (0, .ref 66), (1, .int (xs 1))], [.int (b2)], (jzv297 b0 b1 b2 b3)) : jS)) rfl ?_
  refine jl_iff (e := jm248) (o := 24) rfl (h.1) ?_
  refine jl_s (S' := ((124, [(5, .int (b2)), (4, .int 16), (3, .int 2), (2, .int 0), (0, .ref 66), (1, .int (xs 1))], [.ref 66], (jzv297 b0 b1 b2 b3)) : jS)) rfl ?_
  refine jl_s (S' := ((127, [(5, .int (b2)), (4, .int 16), (3, .int 2), (2, .int 0), (0, .ref 66), (1, .int (xs 1))], [.ref 67], (jzv297 b0 b1 b2 b3)) : jS)) rfl ?_
  refine jl_s (S' := ((128, [(5, .int (b2)), (4, .int 16), (3, .int 2), (2, .int 0), (0, .ref 66), (1, .int (xs 1))], [.ref 66, .ref 67], (jzv297 b0 b1 b2 b3)) : jS)) rfl ?_
  refine jl_s (S' := ((131, [(5, .int (b2)), (4, .int 16), (3, .int 2), (2, .int 0), (0, .ref 66), (1, .int (xs 1))], [.int 0, .ref 67], (jzv297 b0 b1 b2 b3)) : jS)) rfl ?_
  refine jl_s (S' := ((133, [(5, .int (b2)), (4, .int 16), (3, .int 2), (2, .int 0), (0, .ref 66), (1, .int (xs 1))], [.int (b2), .int 0, .ref 67], (jzv297 b0 b1 b2 b3)) : jS)) rfl ?_
  refine jl_s (S' := ((134, [(5, .int (b2)), (4, .int 16), (3, .int 2), (2, .int 0), (0, .ref 66), (1, .int (xs 1))], [], (jzv298 b0 b1 b2 b3)) : jS)) rfl ?_
  refine jl_s (S' := ((135, [(5, .int (b2)), (4, .int 16), (3, .int 2), (2, .int 0), (0, .ref 66), (1, .int (xs 1))], [.ref 66], (jzv298 b0 b1 b2 b3)) : jS)) rfl ?_
  refine jl_s (S' := ((136, [(5, .int (b2)), (4, .int 16), (3, .int 2), (2, .int 0), (0, .ref 66), (1, .int (xs 1))], [.ref 66, .ref 66], (jzv298 b0 b1 b2 b3)) : jS)) rfl ?_
  refine jl_s (S' := ((139, [(5, .int (b2)), (4, .int 16), (3, .int 2), (2, .int 0), (0, .ref 66), (1, .int (xs 1))], [.int 0, .ref 66], (jzv298 b0 b1 b2 b3)) : jS)) rfl ?_
  refine jl_s (S' := ((140, [(5, .int (b2)), (4, .int 16), (3, .int 2), (2, .int 0), (0, .ref 66), (1, .int (xs 1))], [.int 1, .int 0, .ref 66], (jzv298 b0 b1 b2 b3)) : jS)) rfl ?_
  refine jl_s (S' := ((141, [(5, .int (b2)), (4, .int 16), (3, .int 2), (2, .int 0), (0, .ref 66), (1, .int (xs 1))], [.int 1, .ref 66], (jzv298 b0 b1 b2 b3)) : jS)) rfl ?_
  refine jl_s (S' := ((144, [(5, .int (b2)), (4, .int 16), (3, .int 2), (2, .int 0), (0, .ref 66), (1, .int (xs 1))], [], (jzv299 b0 b1 b2 b3)) : jS)) rfl ?_
  refine jl_s (S' := ((147, [(4, .int 24), (5, .int (b2)), (3, .int 2), (2, .int 0), (0, .ref 66), (1, .int (xs 1))], [], (jzv299 b0 b1 b2 b3)) : jS)) rfl ?_
  refine jl_s (S' := ((101, [(4, .int 24), (5, .int (b2)), (3, .int 2), (2, .int 0), (0, .ref 66), (1, .int (xs 1))], [], (jzv299 b0 b1 b2 b3)) : jS)) rfl ?_
  exact hq
def jzc205 (b0 b1 b2 b3 : Int32) : jC := .inl (1, 3000, .inl (upd (upd (fun _ => 0) 0 (b2)) 1 (b3)))
def jzv300 (b0 b1 b2 b3 : Int32) : jH := [jzc185, (jzc184 b0 b1 b2 b3), jzc202, (jzc205 b0 b1 b2 b3), jzc9, jzc9, jzc9, jzc9, jzc9, jzc17, jzc19, jzc19, jzc19, jzc19, jzc19, jzc19, jzc19, jzc19, jzc28, jzc28, jzc28, jzc28, jzc28, jzc28, jzc28, jzc28, jzc28, jzc28, jzc28, jzc28, jzc28, jzc28, jzc43, jzc43, jzc43, jzc43, jzc43, jzc49, jzc49, jzc52, jzc52, jzc52, jzc56, jzc56, jzc59, jzc56, jzc62, jzc28, jzc28, jzc28, jzc28, jzc28, jzc69, jzc71, jzc73, jzc43, jzc76, jzc52, jzc52, jzc80, jzc80, jzc80, jzc84, jzc52, jzc52, jzc52, jzc52, jzc52, jzc52, jzc52, jzc93, jzc93, jzc52, jzc52, jzc98, jzc100, jzc93, jzc52, jzc52, jzc52, jzc52, jzc107, jzc109, jzc111, jzc100, jzc100, jzc100, jzc111, jzc111, jzc204]
def jzc206 : jC := .inr (12, [.int 0, .ref 67, .int 2, .int 0, .ref 68, .ref 69, .ref 70, .ref 71, .ref 72, .int 0, .int 0, .int 0, .int 0, .int 0, .long 0, .int 0, .int 0, .int (-1), .int (-1), .int 0, .ref 73, .ref 74, .ref 75, .ref 76, .ref 77, .ref 78, .ref 79, .ref 80, .int 0, .int 0, .ref 81, .int 0, .ref 82, .ref 83, .ref 84, .ref 85, .ref 86, .ref 87, .ref 88, .ref 89, .ref 90, .ref 91, .ref 92, .ref 93, .ref 94, .ref 95, .int 0, .ref 96, .ref 97, .ref 98, .ref 99, .ref 100, .int 0, .ref 101, .ref 102, .ref 103, .ref 104, .ref 105, .int 0, .int 0, .int 0, .int 0, .int 0, .ref 106, .ref 107, .ref 108, .ref 109, .int 0, .int 0, .ref 110, .int 0, .ref 111, .ref 112, .ref 113, .ref 114, .ref 115, .ref 116, .int 0, .ref 117, .int 0, .ref 118, .int 0, .ref 119, .ref 120, .ref 121, .ref 122, .ref 123, .ref 124, .ref 125, .int 0, .ref 126, .ref 127, .ref 128, .ref 129, .ref 130, .ref 131, .ref 132, .ref 133, .ref 134, .ref 135, .ref 136, .ref 137, .ref 138, .ref 139, .ref 140, .ref 141, .ref 142, .ref 143, .ref 144, .ref 145, .int 0, .int 0, .ref 146, .int 0, .ref 147, .ref 148, .ref 149, .ref 150, .ref 151, .ref 152, .int 0, .int 0])
def jzv301 (b0 b1 b2 b3 : Int32) : jH := [jzc185, (jzc184 b0 b1 b2 b3), jzc206, (jzc205 b0 b1 b2 b3), jzc9, jzc9, jzc9, jzc9, jzc9, jzc17, jzc19, jzc19, jzc19, jzc19, jzc19, jzc19, jzc19, jzc19, jzc28, jzc28, jzc28, jzc28, jzc28, jzc28, jzc28, jzc28, jzc28, jzc28, jzc28, jzc28, jzc28, jzc28, jzc43, jzc43, jzc43, jzc43, jzc43, jzc49, jzc49, jzc52, jzc52, jzc52, jzc56, jzc56, jzc59, jzc56, jzc62, jzc28, jzc28, jzc28, jzc28, jzc28, jzc69, jzc71, jzc73, jzc43, jzc76, jzc52, jzc52, jzc80, jzc80, jzc80, jzc84, jzc52, jzc52, jzc52, jzc52, jzc52, jzc52, jzc52, jzc93, jzc93, jzc52, jzc52, jzc98, jzc100, jzc93, jzc52, jzc52, jzc52, jzc52, jzc107, jzc109, jzc111, jzc100, jzc100, jzc100, jzc111, jzc111, jzc204]
set_option maxHeartbeats 4000000 in
set_option maxRecDepth 100000 in
theorem jzq581 (xs : Nat → Int32) (b0 b1 b2 b3 : Int32) (e : ((xs 1) >>> (24 &&& 31)) &&& 255 = b3) (h : jbn b3) {f : Nat} {q : jO × jH} (hq : jLoop (jRun ((4, xs) : jX) 2000 38) ((4, xs) : jX) jm248 f ((101, [(4, .int 32), (5, .int (b3)), (3, .int 2), (2, .int 0), (0, .ref 66), (1, .int (xs 1))], [], (jzv301 b0 b1 b2 b3)) : jS) = some q) : jLoop (jRun ((4, xs) : jX) 2000 38) ((4, xs) : jX) jm248 (f + 25) ((101, [(4, .int 24), (5, .int (b2)), (3, .int 2), (2, .int 0), (0, .ref 66), (1, .int (xs 1))], [], (jzv299 b0 b1 b2 b3)) : jS) = some q := by
  refine jl_s (S' := ((103, [(4, .int 24), (5, .int (b2)), (3, .int 2), (2, .int 0), (0, .ref 66), (1, .int (xs 1))], [.int 24], (jzv299 b0 b1 b2 b3)) : jS)) rfl ?_
  refine jl_s (S' := ((105, [(4, .int 24), (5, .int (b2)), (3, .int 2), (2, .int 0), (0, .ref 66), (1, .int (xs 1))], [.int 32, .int 24], (jzv299 b0 b1 b2 b3)) : jS)) rfl ?_
  refine jl_s (S' := ((108, [(4, .int 24), (5, .int (b2)), (3, .int 2), (2, .int 0), (0, .ref 66), (1, .int (xs 1))], [], (jzv299 b0 b1 b2 b3)) : jS)) rfl ?_
  refine jl_s (S' := ((109, [(4, .int 24), (5, .int (b2)), (3, .int 2), (2, .int 0), (0, .ref 66), (1, .int (xs 1))], [.int (xs 1)], (jzv299 b0 b1 b2 b3)) : jS)) rfl ?_
  refine jl_s (S' := ((111, [(4, .int 24), (5, .int (b2)), (3, .int 2), (2, .int 0), (0, .ref 66), (1, .int (xs 1))], [.int 24, .int (xs 1)], (jzv299 b0 b1 b2 b3)) : jS)) rfl ?_
  refine jl_s (S' := ((112, [(4, .int 24), (5, .int (b2)), (3, .int 2), (2, .int 0), (0, .ref 66), (1, .int (xs 1))], [.int ((xs 1) >>> (24 &&& 31))], (jzv299 b0 b1 b2 b3)) : jS)) rfl ?_
  refine jl_s (S' := ((115, [(4, .int 24), (5, .int (b2)), (3, .int 2), (2, .int 0), (0, .ref 66), (1, .int (xs 1))], [.int 255, .int ((xs 1) >>> (24 &&& 31))], (jzv299 b0 b1 b2 b3)) : jS)) rfl ?_
  refine jl_s (S' := ((116, [(4, .int 24), (5, .int (b2)), (3, .int 2), (2, .int 0), (0, .ref 66), (1, .int (xs 1))], [.int (((xs 1) >>> (24 &&& 31)) &&& 255)], (jzv299 b0 b1 b2 b3)) : jS)) rfl ?_
  rw [e]
  refine jl_s (S' := ((118, [(5, .int (b3)), (4, .int 24), (3, .int 2), (2, .int 0), (0, .ref 66), (1, .int (xs 1))], [], (jzv299 b0 b1 b2 b3)) : jS)) rfl ?_
  refine jl_s (S' := ((120, [(5, .int (b3)), (4, .int 24), (3, .int 2), (2, .int 0), (0, .ref 66), (1, .int (xs 1))], [.int (b3)], (jzv299 b0 b1 b2 b3)) : jS)) rfl ?_
  refine jl_iff (e := jm248) (o := 24) rfl (h.1) ?_
  refine jl_s (S' := ((124, [(5, .int (b3)), (4, .int 24), (3, .int 2), (2, .int 0), (0, .ref 66), (1, .int (xs 1))], [.ref 66], (jzv299 b0 b1 b2 b3)) : jS)) rfl ?_
  refine jl_s (S' := ((127, [(5, .int (b3)), (4, .int 24), (3, .int 2), (2, .int 0), (0, .ref 66), (1, .int (xs 1))], [.ref 67], (jzv299 b0 b1 b2 b3)) : jS)) rfl ?_
  refine jl_s (S' := ((128, [(5, .int (b3)), (4, .int 24), (3, .int 2), (2, .int 0), (0, .ref 66), (1, .int (xs 1))], [.ref 66, .ref 67], (jzv299 b0 b1 b2 b3)) : jS)) rfl ?_
  refine jl_s (S' := ((131, [(5, .int (b3)), (4, .int 24), (3, .int 2), (2, .int 0), (0, .ref 66), (1, .int (xs 1))], [.int 1, .ref 67], (jzv299 b0 b1 b2 b3)) : jS)) rfl ?_
  refine jl_s (S' := ((133, [(5, .int (b3)), (4, .int 24), (3, .int 2), (2, .int 0), (0, .ref 66), (1, .int (xs 1))], [.int (b3), .int 1, .ref 67], (jzv299 b0 b1 b2 b3)) : jS)) rfl ?_
  refine jl_s (S' := ((134, [(5, .int (b3)), (4, .int 24), (3, .int 2), (2, .int 0), (0, .ref 66), (1, .int (xs 1))], [], (jzv300 b0 b1 b2 b3)) : jS)) rfl ?_
  refine jl_s (S' := ((135, [(5, .int (b3)), (4, .int 24), (3, .int 2), (2, .int 0), (0, .ref 66), (1, .int (xs 1))], [.ref 66], (jzv300 b0 b1 b2 b3)) : jS)) rfl ?_
  refine jl_s (S' := ((136, [(5, .int (b3)), (4, .int 24), (3, .int 2), (2, .int 0), (0, .ref 66), (1, .int (xs 1))], [.ref 66, .ref 66], (jzv300 b0 b1 b2 b3)) : jS)) rfl ?_
  refine jl_s (S' := ((139, [(5, .int (b3)), (4, .int 24), (3, .int 2), (2, .int 0), (0, .ref 66), (1, .int (xs 1))], [.int 1, .ref 66], (jzv300 b0 b1 b2 b3)) : jS)) rfl ?_
  refine jl_s (S' := ((140, [(5, .int (b3)), (4, .int 24), (3, .int 2), (2, .int 0), (0, .ref 66), (1, .int (xs 1))], [.int 1, .int 1, .ref 66], (jzv300 b0 b1 b2 b3)) : jS)) rfl ?_
  refine jl_s (S' := ((141, [(5, .int (b3)), (4, .int 24), (3, .int 2), (2, .int 0), (0, .ref 66), (1, .int (xs 1))], [.int 2, .ref 66], (jzv300 b0 b1 b2 b3)) : jS)) rfl ?_
  refine jl_s (S' := ((144, [(5, .int (b3)), (4, .int 24), (3, .int 2), (2, .int 0), (0, .ref 66), (1, .int (xs 1))], [], (jzv301 b0 b1 b2 b3)) : jS)) rfl ?_
  refine jl_s (S' := ((147, [(4, .int 32), (5, .int (b3)), (3, .int 2), (2, .int 0), (0, .ref 66), (1, .int (xs 1))], [], (jzv301 b0 b1 b2 b3)) : jS)) rfl ?_
  refine jl_s (S' := ((101, [(4, .int 32), (5, .int (b3)), (3, .int 2), (2, .int 0), (0, .ref 66), (1, .int (xs 1))], [], (jzv301 b0 b1 b2 b3)) : jS)) rfl ?_
  exact hq
set_option maxHeartbeats 4000000 in
set_option maxRecDepth 100000 in
theorem jzq583 (xs : Nat → Int32) (b0 b1 b2 b3 : Int32) {f : Nat} : jLoop (jRun ((4, xs) : jX) 2000 38) ((4, xs) : jX) jm248 (f + 6) ((101, [(4, .int 32), (5, .int (b3)), (3, .int 2), (2, .int 0), (0, .ref 66), (1, .int (xs 1))], [], (jzv301 b0 b1 b2 b3)) : jS) = some (.inl (some (.int 2)), (jzv301 b0 b1 b2 b3)) := by
  refine jl_s (S' := ((103, [(4, .int 32), (5, .int (b3)), (3, .int 2), (2, .int 0), (0, .ref 66), (1, .int (xs 1))], [.int 32], (jzv301 b0 b1 b2 b3)) : jS)) rfl ?_
  refine jl_s (S' := ((105, [(4, .int 32), (5, .int (b3)), (3, .int 2), (2, .int 0), (0, .ref 66), (1, .int (xs 1))], [.int 32, .int 32], (jzv301 b0 b1 b2 b3)) : jS)) rfl ?_
  refine jl_s (S' := ((150, [(4, .int 32), (5, .int (b3)), (3, .int 2), (2, .int 0), (0, .ref 66), (1, .int (xs 1))], [], (jzv301 b0 b1 b2 b3)) : jS)) rfl ?_
  refine jl_s (S' := ((151, [(4, .int 32), (5, .int (b3)), (3, .int 2), (2, .int 0), (0, .ref 66), (1, .int (xs 1))], [.ref 66], (jzv301 b0 b1 b2 b3)) : jS)) rfl ?_
  refine jl_s (S' := ((154, [(4, .int 32), (5, .int (b3)), (3, .int 2), (2, .int 0), (0, .ref 66), (1, .int (xs 1))], [.int 2], (jzv301 b0 b1 b2 b3)) : jS)) rfl ?_
  exact jl_r (r := (.inl (some (.int 2)), (jzv301 b0 b1 b2 b3))) rfl
set_option maxHeartbeats 4000000 in
set_option maxRecDepth 100000 in
theorem jzrp_ZZVV (xs : Nat → Int32) (b0 b1 b2 b3 : Int32) (e0 : ((xs 1) >>> (0 &&& 31)) &&& 255 = b0) (e1 : ((xs 1) >>> (8 &&& 31)) &&& 255 = b1) (e2 : ((xs 1) >>> (16 &&& 31)) &&& 255 = b2) (e3 : ((xs 1) >>> (24 &&& 31)) &&& 255 = b3) (h0 : jbz b0) (h1 : jbz b1) (h2 : jbv b2) (h3 : jbv b3) : jRun ((4, xs) : jX) 2000 39 248 [.ref 66, .int (xs 1)] (jzv297 b0 b1 b2 b3) = some (.inl (some (.int 2)), (jzv301 b0 b1 b2 b3)) := by
  refine jr_run (e := jm248) rfl (Nat.le_of_ble_eq_true rfl) ?_
  refine jzq506 xs b0 b1 b2 b3 _ ?_
  refine jzq508 xs b0 b1 b2 b3 _ e0 h0 ?_
  refine jzq510 xs b0 b1 b2 b3 _ e1 h1 ?_
  refine jzq550 xs b0 b1 b2 b3 _ e2 h2 ?_
  refine jzq570 xs b0 b1 b2 b3 _ e3 h3 ?_
  refine jzq573 xs b0 b1 b2 b3 ?_
  refine jzq575 xs b0 b1 b2 b3 e0 h0 ?_
  refine jzq577 xs b0 b1 b2 b3 e1 h1 ?_
  refine jzq579 xs b0 b1 b2 b3 e2 h2.1 ?_
  refine jzq581 xs b0 b1 b2 b3 e3 h3.1 ?_
  exact jzq583 xs b0 b1 b2 b3
set_option maxHeartbeats 4000000 in
set_option maxRecDepth 100000 in
theorem jzl584 (xs : Nat → Int32) (hop : xs 0 &&& 31 = 0) (b0 b1 b2 b3 : Int32) (e0 : ((Int32.toUInt32 (xs 1) >>> (Int32.toUInt32 0 &&& Int32.toUInt32 31)).toInt32) &&& 255 = b0) (e1 : ((Int32.toUInt32 (xs 1) >>> (Int32.toUInt32 8 &&& Int32.toUInt32 31)).toInt32) &&& 255 = b1) (e2 : ((Int32.toUInt32 (xs 1) >>> (Int32.toUInt32 16 &&& Int32.toUInt32 31)).toInt32) &&& 255 = b2) (e3 : ((Int32.toUInt32 (xs 1) >>> (Int32.toUInt32 24 &&& Int32.toUInt32 31)).toInt32) &&& 255 = b3) (g0 : ((xs 1) >>> (0 &&& 31)) &&& 255 = b0) (g1 : ((xs 1) >>> (8 &&& 31)) &&& 255 = b1) (g2 : ((xs 1) >>> (16 &&& 31)) &&& 255 = b2) (g3 : ((xs 1) >>> (24 &&& 31)) &&& 255 = b3) (h0 : jbz b0) (h1 : jbz b1) (h2 : jbv b2) (h3 : jbv b3) : jRun ((4, xs) : jX) 2000 39 244 [.ref 66] (jzv301 b0 b1 b2 b3) = some (.inl (some (.int 0)), (jzv301 b0 b1 b2 b3)) := by
  refine jr_run (e := jm244) rfl (Nat.le_of_ble_eq_true rfl) ?_
  refine jl_s (S' := ((1, [(0, .ref 66)], [.ref 66], (jzv301 b0 b1 b2 b3)) : jS)) rfl ?_
  refine jl_s (S' := ((4, [(0, .ref 66)], [.int 0], (jzv301 b0 b1 b2 b3)) : jS)) rfl ?_
  exact jl_r (r := (.inl (some (.int 0)), (jzv301 b0 b1 b2 b3))) rfl
set_option maxHeartbeats 4000000 in
set_option maxRecDepth 100000 in
theorem jzl585 (xs : Nat → Int32) (hop : xs 0 &&& 31 = 0) (b0 b1 b2 b3 : Int32) (e0 : ((Int32.toUInt32 (xs 1) >>> (Int32.toUInt32 0 &&& Int32.toUInt32 31)).toInt32) &&& 255 = b0) (e1 : ((Int32.toUInt32 (xs 1) >>> (Int32.toUInt32 8 &&& Int32.toUInt32 31)).toInt32) &&& 255 = b1) (e2 : ((Int32.toUInt32 (xs 1) >>> (Int32.toUInt32 16 &&& Int32.toUInt32 31)).toInt32) &&& 255 = b2) (e3 : ((Int32.toUInt32 (xs 1) >>> (Int32.toUInt32 24 &&& Int32.toUInt32 31)).toInt32) &&& 255 = b3) (g0 : ((xs 1) >>> (0 &&& 31)) &&& 255 = b0) (g1 : ((xs 1) >>> (8 &&& 31)) &&& 255 = b1) (g2 : ((xs 1) >>> (16 &&& 31)) &&& 255 = b2) (g3 : ((xs 1) >>> (24 &&& 31)) &&& 255 = b3) (h0 : jbz b0) (h1 : jbz b1) (h2 : jbv b2) (h3 : jbv b3) : jLoop (jRun ((4, xs) : jX) 2000 39) ((4, xs) : jX) jm18 1000 ((23, [(4, .int 0), (3, .ref 153), (2, .ref 66), (1, .ref 64), (0, .ref 63)], [], jzv181) : jS) = some (.inl (some (.int 1)), (jzv301 b0 b1 b2 b3)) := by
  refine jl_s (S' := ((25, [(4, .int 0), (3, .ref 153), (2, .ref 66), (1, .ref 64), (0, .ref 63)], [.int 0], jzv181) : jS)) rfl ?_
  refine jl_s (S' := ((26, [(4, .int 0), (3, .ref 153), (2, .ref 66), (1, .ref 64), (0, .ref 63)], [.ref 63, .int 0], jzv181) : jS)) rfl ?_
  refine jl_s (S' := ((27, [(4, .int 0), (3, .ref 153), (2, .ref 66), (1, .ref 64), (0, .ref 63)], [.int 4, .int 0], jzv181) : jS)) rfl ?_
  refine jl_s (S' := ((28, [(4, .int 0), (3, .ref 153), (2, .ref 66), (1, .ref 64), (0, .ref 63)], [.int 4, .int 4, .int 0], jzv181) : jS)) rfl ?_
  refine jl_s (S' := ((29, [(4, .int 0), (3, .ref 153), (2, .ref 66), (1, .ref 64), (0, .ref 63)], [.int 0, .int 0], jzv181) : jS)) rfl ?_
  refine jl_s (S' := ((32, [(4, .int 0), (3, .ref 153), (2, .ref 66), (1, .ref 64), (0, .ref 63)], [], jzv181) : jS)) rfl ?_
  refine jl_s (S' := ((33, [(4, .int 0), (3, .ref 153), (2, .ref 66), (1, .ref 64), (0, .ref 63)], [.ref 63], jzv181) : jS)) rfl ?_
  refine jl_s (S' := ((35, [(4, .int 0), (3, .ref 153), (2, .ref 66), (1, .ref 64), (0, .ref 63)], [.int 0, .ref 63], jzv181) : jS)) rfl ?_
  refine jl_s (S' := ((36, [(4, .int 0), (3, .ref 153), (2, .ref 66), (1, .ref 64), (0, .ref 63)], [.int (xs 0)], jzv181) : jS)) rfl ?_
  refine jl_s (S' := ((38, [(4, .int 0), (3, .ref 153), (2, .ref 66), (1, .ref 64), (0, .ref 63)], [.int 31, .int (xs 0)], jzv181) : jS)) rfl ?_
  refine jl_s (S' := ((39, [(4, .int 0), (3, .ref 153), (2, .ref 66), (1, .ref 64), (0, .ref 63)], [.int ((xs 0) &&& 31)], jzv181) : jS)) rfl ?_
  rw [hop]
  refine jl_s (S' := ((128, [(4, .int 0), (3, .ref 153), (2, .ref 66), (1, .ref 64), (0, .ref 63)], [], jzv181) : jS)) rfl ?_
  refine jl_s (S' := ((129, [(4, .int 0), (3, .ref 153), (2, .ref 66), (1, .ref 64), (0, .ref 63)], [.ref 64], jzv181) : jS)) rfl ?_
  refine jl_s (S' := ((130, [(4, .int 0), (3, .ref 153), (2, .ref 66), (1, .ref 64), (0, .ref 63)], [.ref 63, .ref 64], jzv181) : jS)) rfl ?_
  refine jl_s (S' := ((132, [(4, .int 0), (3, .ref 153), (2, .ref 66), (1, .ref 64), (0, .ref 63)], [.int 0, .ref 63, .ref 64], jzv181) : jS)) rfl ?_
  refine jl_s (S' := ((133, [(4, .int 0), (3, .ref 153), (2, .ref 66), (1, .ref 64), (0, .ref 63)], [.int 1, .int 0, .ref 63, .ref 64], jzv181) : jS)) rfl ?_
  refine jl_s (S' := ((134, [(4, .int 0), (3, .ref 153), (2, .ref 66), (1, .ref 64), (0, .ref 63)], [.int 1, .ref 63, .ref 64], jzv181) : jS)) rfl ?_
  refine jl_s (S' := ((135, [(4, .int 0), (3, .ref 153), (2, .ref 66), (1, .ref 64), (0, .ref 63)], [.int (xs 1), .ref 64], jzv181) : jS)) rfl ?_
  refine jl_s (S' := ((136, [(4, .int 0), (3, .ref 153), (2, .ref 66), (1, .ref 64), (0, .ref 63)], [.ref 153, .int (xs 1), .ref 64], jzv181) : jS)) rfl ?_
  refine jl_c (t := 0) (as := [.ref 64, .int (xs 1), .ref 153]) (V := jzv181) (r := (.inl (some (.int 0)), (jzv297 b0 b1 b2 b3))) (S' := ((139, [(4, .int 0), (3, .ref 153), (2, .ref 66), (1, .ref 64), (0, .ref 63)], [.int 0], (jzv297 b0 b1 b2 b3)) : jS)) rfl (jzl568 xs hop b0 b1 b2 b3 e0 e1 e2 e3 g0 g1 g2 g3 h0 h1 h2 h3) rfl ?_
  refine jl_s (S' := ((141, [(5, .int 0), (4, .int 0), (3, .ref 153), (2, .ref 66), (1, .ref 64), (0, .ref 63)], [], (jzv297 b0 b1 b2 b3)) : jS)) rfl ?_
  refine jl_s (S' := ((142, [(5, .int 0), (4, .int 0), (3, .ref 153), (2, .ref 66), (1, .ref 64), (0, .ref 63)], [.ref 66], (jzv297 b0 b1 b2 b3)) : jS)) rfl ?_
  refine jl_s (S' := ((143, [(5, .int 0), (4, .int 0), (3, .ref 153), (2, .ref 66), (1, .ref 64), (0, .ref 63)], [.ref 63, .ref 66], (jzv297 b0 b1 b2 b3)) : jS)) rfl ?_
  refine jl_s (S' := ((145, [(5, .int 0), (4, .int 0), (3, .ref 153), (2, .ref 66), (1, .ref 64), (0, .ref 63)], [.int 0, .ref 63, .ref 66], (jzv297 b0 b1 b2 b3)) : jS)) rfl ?_
  refine jl_s (S' := ((146, [(5, .int 0), (4, .int 0), (3, .ref 153), (2, .ref 66), (1, .ref 64), (0, .ref 63)], [.int 1, .int 0, .ref 63, .ref 66], (jzv297 b0 b1 b2 b3)) : jS)) rfl ?_
  refine jl_s (S' := ((147, [(5, .int 0), (4, .int 0), (3, .ref 153), (2, .ref 66), (1, .ref 64), (0, .ref 63)], [.int 1, .ref 63, .ref 66], (jzv297 b0 b1 b2 b3)) : jS)) rfl ?_
  refine jl_s (S' := ((148, [(5, .int 0), (4, .int 0), (3, .ref 153), (2, .ref 66), (1, .ref 64), (0, .ref 63)], [.int (xs 1), .ref 66], (jzv297 b0 b1 b2 b3)) : jS)) rfl ?_
  refine jl_c (t := 248) (as := [.ref 66, .int (xs 1)]) (V := (jzv297 b0 b1 b2 b3)) (r := (.inl (some (.int 2)), (jzv301 b0 b1 b2 b3))) (S' := ((151, [(5, .int 0), (4, .int 0), (3, .ref 153), (2, .ref 66), (1, .ref 64), (0, .ref 63)], [.int 2], (jzv301 b0 b1 b2 b3)) : jS)) rfl (jzrp_ZZVV xs b0 b1 b2 b3 g0 g1 g2 g3 h0 h1 h2 h3 ) rfl ?_
  refine jl_s (S' := ((153, [(6, .int 2), (5, .int 0), (4, .int 0), (3, .ref 153), (2, .ref 66), (1, .ref 64), (0, .ref 63)], [], (jzv301 b0 b1 b2 b3)) : jS)) rfl ?_
  refine jl_s (S' := ((154, [(6, .int 2), (5, .int 0), (4, .int 0), (3, .ref 153), (2, .ref 66), (1, .ref 64), (0, .ref 63)], [.ref 66], (jzv301 b0 b1 b2 b3)) : jS)) rfl ?_
  refine jl_c (t := 244) (as := [.ref 66]) (V := (jzv301 b0 b1 b2 b3)) (r := (.inl (some (.int 0)), (jzv301 b0 b1 b2 b3))) (S' := ((157, [(6, .int 2), (5, .int 0), (4, .int 0), (3, .ref 153), (2, .ref 66), (1, .ref 64), (0, .ref 63)], [.int 0], (jzv301 b0 b1 b2 b3)) : jS)) rfl (jzl584 xs hop b0 b1 b2 b3 e0 e1 e2 e3 g0 g1 g2 g3 h0 h1 h2 h3) rfl ?_
  refine jl_s (S' := ((159, [(6, .int 2), (5, .int 0), (4, .int 0), (3, .ref 153), (2, .ref 66), (1, .ref 64), (0, .ref 63)], [.int 0, .int 0], (jzv301 b0 b1 b2 b3)) : jS)) rfl ?_
  refine jl_s (S' := ((164, [(6, .int 2), (5, .int 0), (4, .int 0), (3, .ref 153), (2, .ref 66), (1, .ref 64), (0, .ref 63)], [], (jzv301 b0 b1 b2 b3)) : jS)) rfl ?_
  refine jl_s (S' := ((166, [(6, .int 2), (5, .int 0), (4, .int 0), (3, .ref 153), (2, .ref 66), (1, .ref 64), (0, .ref 63)], [.int 0], (jzv301 b0 b1 b2 b3)) : jS)) rfl ?_
  refine jl_s (S' := ((169, [(6, .int 2), (5, .int 0), (4, .int 0), (3, .ref 153), (2, .ref 66), (1, .ref 64), (0, .ref 63)], [], (jzv301 b0 b1 b2 b3)) : jS)) rfl ?_
  refine jl_s (S' := ((170, [(6, .int 2), (5, .int 0), (4, .int 0), (3, .ref 153), (2, .ref 66), (1, .ref 64), (0, .ref 63)], [.ref 153], (jzv301 b0 b1 b2 b3)) : jS)) rfl ?_
  refine jl_s (S' := ((171, [(6, .int 2), (5, .int 0), (4, .int 0), (3, .ref 153), (2, .ref 66), (1, .ref 64), (0, .ref 63)], [.int 0, .ref 153], (jzv301 b0 b1 b2 b3)) : jS)) rfl ?_
  refine jl_s (S' := ((172, [(6, .int 2), (5, .int 0), (4, .int 0), (3, .ref 153), (2, .ref 66), (1, .ref 64), (0, .ref 63)], [.long 2], (jzv301 b0 b1 b2 b3)) : jS)) rfl ?_
  refine jl_s (S' := ((174, [(6, .int 2), (5, .int 0), (4, .int 0), (3, .ref 153), (2, .ref 66), (1, .ref 64), (0, .ref 63)], [.int 2, .long 2], (jzv301 b0 b1 b2 b3)) : jS)) rfl ?_
  refine jl_s (S' := ((175, [(6, .int 2), (5, .int 0), (4, .int 0), (3, .ref 153), (2, .ref 66), (1, .ref 64), (0, .ref 63)], [.long 2, .long 2], (jzv301 b0 b1 b2 b3)) : jS)) rfl ?_
  refine jl_s (S' := ((176, [(6, .int 2), (5, .int 0), (4, .int 0), (3, .ref 153), (2, .ref 66), (1, .ref 64), (0, .ref 63)], [.int 0], (jzv301 b0 b1 b2 b3)) : jS)) rfl ?_
  refine jl_s (S' := ((181, [(6, .int 2), (5, .int 0), (4, .int 0), (3, .ref 153), (2, .ref 66), (1, .ref 64), (0, .ref 63)], [], (jzv301 b0 b1 b2 b3)) : jS)) rfl ?_
  refine jl_s (S' := ((1193, [(6, .int 2), (5, .int 0), (4, .int 0), (3, .ref 153), (2, .ref 66), (1, .ref 64), (0, .ref 63)], [], (jzv301 b0 b1 b2 b3)) : jS)) rfl ?_
  refine jl_s (S' := ((1196, [(4, .int 4), (6, .int 2), (5, .int 0), (3, .ref 153), (2, .ref 66), (1, .ref 64), (0, .ref 63)], [], (jzv301 b0 b1 b2 b3)) : jS)) rfl ?_
  refine jl_s (S' := ((23, [(4, .int 4), (6, .int 2), (5, .int 0), (3, .ref 153), (2, .ref 66), (1, .ref 64), (0, .ref 63)], [], (jzv301 b0 b1 b2 b3)) : jS)) rfl ?_
  refine jl_s (S' := ((25, [(4, .int 4), (6, .int 2), (5, .int 0), (3, .ref 153), (2, .ref 66), (1, .ref 64), (0, .ref 63)], [.int 4], (jzv301 b0 b1 b2 b3)) : jS)) rfl ?_
  refine jl_s (S' := ((26, [(4, .int 4), (6, .int 2), (5, .int 0), (3, .ref 153), (2, .ref 66), (1, .ref 64), (0, .ref 63)], [.ref 63, .int 4], (jzv301 b0 b1 b2 b3)) : jS)) rfl ?_
  refine jl_s (S' := ((27, [(4, .int 4), (6, .int 2), (5, .int 0), (3, .ref 153), (2, .ref 66), (1, .ref 64), (0, .ref 63)], [.int 4, .int 4], (jzv301 b0 b1 b2 b3)) : jS)) rfl ?_
  refine jl_s (S' := ((28, [(4, .int 4), (6, .int 2), (5, .int 0), (3, .ref 153), (2, .ref 66), (1, .ref 64), (0, .ref 63)], [.int 4, .int 4, .int 4], (jzv301 b0 b1 b2 b3)) : jS)) rfl ?_
  refine jl_s (S' := ((29, [(4, .int 4), (6, .int 2), (5, .int 0), (3, .ref 153), (2, .ref 66), (1, .ref 64), (0, .ref 63)], [.int 0, .int 4], (jzv301 b0 b1 b2 b3)) : jS)) rfl ?_
  refine jl_s (S' := ((1199, [(4, .int 4), (6, .int 2), (5, .int 0), (3, .ref 153), (2, .ref 66), (1, .ref 64), (0, .ref 63)], [], (jzv301 b0 b1 b2 b3)) : jS)) rfl ?_
  refine jl_s (S' := ((1200, [(4, .int 4), (6, .int 2), (5, .int 0), (3, .ref 153), (2, .ref 66), (1, .ref 64), (0, .ref 63)], [.int 1], (jzv301 b0 b1 b2 b3)) : jS)) rfl ?_
  exact jl_r (r := (.inl (some (.int 1)), (jzv301 b0 b1 b2 b3))) rfl
-- op 0 ZZVV: jzl585
def jzv302 (b0 b1 b2 b3 : Int32) : jH := [jzc182, (jzc186 b0 b1 b2 b3), jzc117, jzc7, jzc9, jzc9, jzc9, jzc9, jzc9, jzc17, jzc19, jzc19, jzc19, jzc19, jzc19, jzc19, jzc19, jzc19, jzc28, jzc28, jzc28, jzc28, jzc28, jzc28, jzc28, jzc28, jzc28, jzc28, jzc28, jzc28, jzc28, jzc28, jzc43, jzc43, jzc43, jzc43, jzc43, jzc49, jzc49, jzc52, jzc52, jzc52, jzc56, jzc56, jzc59, jzc56, jzc62, jzc28, jzc28, jzc28, jzc28, jzc28, jzc69, jzc71, jzc73, jzc43, jzc76, jzc52, jzc52, jzc80, jzc80, jzc80, jzc84, jzc52, jzc52, jzc52, jzc52, jzc52, jzc52, jzc52, jzc93, jzc93, jzc52, jzc52, jzc98, jzc100, jzc93, jzc52, jzc52, jzc52, jzc52, jzc107, jzc109, jzc111, jzc100, jzc100, jzc100, jzc111, jzc111, jzc200]
set_option maxHeartbeats 4000000 in
set_option maxRecDepth 100000 in
theorem jzl586 (xs : Nat → Int32) (hop : xs 0 &&& 31 = 0) (b0 b1 b2 b3 : Int32) (e0 : ((Int32.toUInt32 (xs 1) >>> (Int32.toUInt32 0 &&& Int32.toUInt32 31)).toInt32) &&& 255 = b0) (e1 : ((Int32.toUInt32 (xs 1) >>> (Int32.toUInt32 8 &&& Int32.toUInt32 31)).toInt32) &&& 255 = b1) (e2 : ((Int32.toUInt32 (xs 1) >>> (Int32.toUInt32 16 &&& Int32.toUInt32 31)).toInt32) &&& 255 = b2) (e3 : ((Int32.toUInt32 (xs 1) >>> (Int32.toUInt32 24 &&& Int32.toUInt32 31)).toInt32) &&& 255 = b3) (g0 : ((xs 1) >>> (0 &&& 31)) &&& 255 = b0) (g1 : ((xs 1) >>> (8 &&& 31)) &&& 255 = b1) (g2 : ((xs 1) >>> (16 &&& 31)) &&& 255 = b2) (g3 : ((xs 1) >>> (24 &&& 31)) &&& 255 = b3) (h0 : jbz b0) (h1 : jbv b1) (h2 : jbz b2) (h3 : jbz b3) : jRun ((4, xs) : jX) 2000 39 0 [.ref 64, .int (xs 1), .ref 153] jzv181 = some (.inl (some (.int 0)), (jzv302 b0 b1 b2 b3)) := by
  refine jr_run (e := jm0) rfl (Nat.le_of_ble_eq_true rfl) ?_
  refine jl_s (S' := ((1, [(0, .ref 64), (1, .int (xs 1)), (2, .ref 153)], [.ref 153], jzv181) : jS)) rfl ?_
  refine jl_s (S' := ((2, [(0, .ref 64), (1, .int (xs 1)), (2, .ref 153)], [.int 0, .ref 153], jzv181) : jS)) rfl ?_
  refine jl_s (S' := ((3, [(0, .ref 64), (1, .int (xs 1)), (2, .ref 153)], [.ref 64, .int 0, .ref 153], jzv181) : jS)) rfl ?_
  refine jl_s (S' := ((4, [(0, .ref 64), (1, .int (xs 1)), (2, .ref 153)], [.int (xs 1), .ref 64, .int 0, .ref 153], jzv181) : jS)) rfl ?_
  refine jl_c (t := 20) (as := [.ref 64, .int (xs 1)]) (V := jzv181) (r := (.inl (some (.int 1)), (jzv268 b0 b1 b2 b3))) (S' := ((7, [(0, .ref 64), (1, .int (xs 1)), (2, .ref 153)], [.int 1, .int 0, .ref 153], (jzv268 b0 b1 b2 b3)) : jS)) rfl (jzcp_ZVZZ xs b0 b1 b2 b3 e0 e1 e2 e3 h0 h1 h2 h3 ) rfl ?_
  refine jl_s (S' := ((8, [(0, .ref 64), (1, .int (xs 1)), (2, .ref 153)], [.long 1, .int 0, .ref 153], (jzv268 b0 b1 b2 b3)) : jS)) rfl ?_
  refine jl_s (S' := ((9, [(0, .ref 64), (1, .int (xs 1)), (2, .ref 153)], [], (jzv302 b0 b1 b2 b3)) : jS)) rfl ?_
  refine jl_s (S' := ((18, [(0, .ref 64), (1, .int (xs 1)), (2, .ref 153)], [], (jzv302 b0 b1 b2 b3)) : jS)) rfl ?_
  refine jl_s (S' := ((19, [(0, .ref 64), (1, .int (xs 1)), (2, .ref 153)], [.int 0], (jzv302 b0 b1 b2 b3)) : jS)) rfl ?_
  exact jl_r (r := (.inl (some (.int 0)), (jzv302 b0 b1 b2 b3))) rfl
set_option maxHeartbeats 4000000 in
set_option maxRecDepth 100000 in
theorem jzq588 (xs : Nat → Int32) (b0 b1 b2 b3 : Int32) (V : jH) (e : ((xs 1) >>> (8 &&& 31)) &&& 255 = b1) (h : jbv b1) {f : Nat} {q : jO × jH} (hq : jLoop (jRun ((4, xs) : jX) 2000 38) ((4, xs) : jX) jm248 f ((7, [(4, .int 16), (3, .int 1), (2, .int 0), (5, .int (b1)), (0, .ref 66), (1, .int (xs 1))], [], V) : jS) = some q) : jLoop (jRun ((4, xs) : jX) 2000 38) ((4, xs) : jX) jm248 (f + 27) ((7, [(4, .int 8), (3, .int 0), (2, .int 0), (5, .int (b0)), (0, .ref 66), (1, .int (xs 1))], [], V) : jS) = some q := by
  refine jl_s (S' := ((9, [(4, .int 8), (3, .int 0), (2, .int 0), (5, .int (b0)), (0, .ref 66), (1, .int (xs 1))], [.int 8], V) : jS)) rfl ?_
  refine jl_s (S' := ((11, [(4, .int 8), (3, .int 0), (2, .int 0), (5, .int (b0)), (0, .ref 66), (1, .int (xs 1))], [.int 32, .int 8], V) : jS)) rfl ?_
  refine jl_s (S' := ((14, [(4, .int 8), (3, .int 0), (2, .int 0), (5, .int (b0)), (0, .ref 66), (1, .int (xs 1))], [], V) : jS)) rfl ?_
  refine jl_s (S' := ((15, [(4, .int 8), (3, .int 0), (2, .int 0), (5, .int (b0)), (0, .ref 66), (1, .int (xs 1))], [.int (xs 1)], V) : jS)) rfl ?_
  refine jl_s (S' := ((17, [(4, .int 8), (3, .int 0), (2, .int 0), (5, .int (b0)), (0, .ref 66), (1, .int (xs 1))], [.int 8, .int (xs 1)], V) : jS)) rfl ?_
  refine jl_s (S' := ((18, [(4, .int 8), (3, .int 0), (2, .int 0), (5, .int (b0)), (0, .ref 66), (1, .int (xs 1))], [.int ((xs 1) >>> (8 &&& 31))], V) : jS)) rfl ?_
  refine jl_s (S' := ((21, [(4, .int 8), (3, .int 0), (2, .int 0), (5, .int (b0)), (0, .ref 66), (1, .int (xs 1))], [.int 255, .int ((xs 1) >>> (8 &&& 31))], V) : jS)) rfl ?_
  refine jl_s (S' := ((22, [(4, .int 8), (3, .int 0), (2, .int 0), (5, .int (b0)), (0, .ref 66), (1, .int (xs 1))], [.int (((xs 1) >>> (8 &&& 31)) &&& 255)], V) : jS)) rfl ?_
  rw [e]
  refine jl_s (S' := ((24, [(5, .int (b1)), (4, .int 8), (3, .int 0), (2, .int 0), (0, .ref 66), (1, .int (xs 1))], [], V) : jS)) rfl ?_
  refine jl_s (S' := ((25, [(5, .int (b1)), (4, .int 8), (3, .int 0), (2, .int 0), (0, .ref 66), (1, .int (xs 1))], [.int 0], V) : jS)) rfl ?_
  refine jl_s (S' := ((28, [(5, .int (b1)), (4, .int 8), (3, .int 0), (2, .int 0), (0, .ref 66), (1, .int (xs 1))], [], V) : jS)) rfl ?_
  refine jl_s (S' := ((30, [(5, .int (b1)), (4, .int 8), (3, .int 0), (2, .int 0), (0, .ref 66), (1, .int (xs 1))], [.int (b1)], V) : jS)) rfl ?_
  refine jl_iff (e := jm248) (o := 15) rfl (h.1.1) ?_
  refine jl_s (S' := ((35, [(5, .int (b1)), (4, .int 8), (3, .int 0), (2, .int 0), (0, .ref 66), (1, .int (xs 1))], [.int (b1)], V) : jS)) rfl ?_
  refine jl_c (t := 247) (as := [.int (b1)]) (V := V) (r := (.inl (some (.int 1)), V)) (S' := ((38, [(5, .int (b1)), (4, .int 8), (3, .int 0), (2, .int 0), (0, .ref 66), (1, .int (xs 1))], [.int 1], V) : jS)) rfl (jz_sv ((4, xs) : jX) V b1 h ) rfl ?_
  refine jl_s (S' := ((45, [(5, .int (b1)), (4, .int 8), (3, .int 0), (2, .int 0), (0, .ref 66), (1, .int (xs 1))], [], V) : jS)) rfl ?_
  refine jl_s (S' := ((46, [(5, .int (b1)), (4, .int 8), (3, .int 0), (2, .int 0), (0, .ref 66), (1, .int (xs 1))], [.int 0], V) : jS)) rfl ?_
  refine jl_s (S' := ((47, [(2, .int 0), (5, .int (b1)), (4, .int 8), (3, .int 0), (0, .ref 66), (1, .int (xs 1))], [], V) : jS)) rfl ?_
  refine jl_s (S' := ((49, [(2, .int 0), (5, .int (b1)), (4, .int 8), (3, .int 0), (0, .ref 66), (1, .int (xs 1))], [.int (b1)], V) : jS)) rfl ?_
  refine jl_iff (e := jm248) (o := 9) rfl (h.1.1) ?_
  refine jl_s (S' := ((53, [(2, .int 0), (5, .int (b1)), (4, .int 8), (3, .int 0), (0, .ref 66), (1, .int (xs 1))], [.int 0], V) : jS)) rfl ?_
  refine jl_s (S' := ((54, [(2, .int 0), (5, .int (b1)), (4, .int 8), (3, .int 0), (0, .ref 66), (1, .int (xs 1))], [.int 1, .int 0], V) : jS)) rfl ?_
  refine jl_s (S' := ((55, [(2, .int 0), (5, .int (b1)), (4, .int 8), (3, .int 0), (0, .ref 66), (1, .int (xs 1))], [.int 1], V) : jS)) rfl ?_
  refine jl_s (S' := ((59, [(2, .int 0), (5, .int (b1)), (4, .int 8), (3, .int 0), (0, .ref 66), (1, .int (xs 1))], [.int 1], V) : jS)) rfl ?_
  refine jl_s (S' := ((60, [(3, .int 1), (2, .int 0), (5, .int (b1)), (4, .int 8), (0, .ref 66), (1, .int (xs 1))], [], V) : jS)) rfl ?_
  refine jl_s (S' := ((63, [(4, .int 16), (3, .int 1), (2, .int 0), (5, .int (b1)), (0, .ref 66), (1, .int (xs 1))], [], V) : jS)) rfl ?_
  refine jl_s (S' := ((7, [(4, .int 16), (3, .int 1), (2, .int 0), (5, .int (b1)), (0, .ref 66), (1, .int (xs 1))], [], V) : jS)) rfl ?_
  exact hq
set_option maxHeartbeats 4000000 in
set_option maxRecDepth 100000 in
theorem jzq590 (xs : Nat → Int32) (b0 b1 b2 b3 : Int32) (V : jH) (e : ((xs 1) >>> (16 &&& 31)) &&& 255 = b2) (h : jbz b2) {f : Nat} {q : jO × jH} (hq : jLoop (jRun ((4, xs) : jX) 2000 38) ((4, xs) : jX) jm248 f ((7, [(4, .int 24), (3, .int 1), (2, .int 0), (5, .int (b2)), (0, .ref 66), (1, .int (xs 1))], [], V) : jS) = some q) : jLoop (jRun ((4, xs) : jX) 2000 38) ((4, xs) : jX) jm248 (f + 21) ((7, [(4, .int 16), (3, .int 1), (2, .int 0), (5, .int (b1)), (0, .ref 66), (1, .int (xs 1))], [], V) : jS) = some q := by
  refine jl_s (S' := ((9, [(4, .int 16), (3, .int 1), (2, .int 0), (5, .int (b1)), (0, .ref 66), (1, .int (xs 1))], [.int 16], V) : jS)) rfl ?_
  refine jl_s (S' := ((11, [(4, .int 16), (3, .int 1), (2, .int 0), (5, .int (b1)), (0, .ref 66), (1, .int (xs 1))], [.int 32, .int 16], V) : jS)) rfl ?_
  refine jl_s (S' := ((14, [(4, .int 16), (3, .int 1), (2, .int 0), (5, .int (b1)), (0, .ref 66), (1, .int (xs 1))], [], V) : jS)) rfl ?_
  refine jl_s (S' := ((15, [(4, .int 16), (3, .int 1), (2, .int 0), (5, .int (b1)), (0, .ref 66), (1, .int (xs 1))], [.int (xs 1)], V) : jS)) rfl ?_
  refine jl_s (S' := ((17, [(4, .int 16), (3, .int 1), (2, .int 0), (5, .int (b1)), (0, .ref 66), (1, .int (xs 1))], [.int 16, .int (xs 1)], V) : jS)) rfl ?_
  refine jl_s (S' := ((18, [(4, .int 16), (3, .int 1), (2, .int 0), (5, .int (b1)), (0, .ref 66), (1, .int (xs 1))], [.int ((xs 1) >>> (16 &&& 31))], V) : jS)) rfl ?_
  refine jl_s (S' := ((21, [(4, .int 16), (3, .int 1), (2, .int 0), (5, .int (b1)), (0, .ref 66), (1, .int (xs 1))], [.int 255, .int ((xs 1) >>> (16 &&& 31))], V) : jS)) rfl ?_
  refine jl_s (S' := ((22, [(4, .int 16), (3, .int 1), (2, .int 0), (5, .int (b1)), (0, .ref 66), (1, .int (xs 1))], [.int (((xs 1) >>> (16 &&& 31)) &&& 255)], V) : jS)) rfl ?_
  rw [e]
  refine jl_s (S' := ((24, [(5, .int (b2)), (4, .int 16), (3, .int 1), (2, .int 0), (0, .ref 66), (1, .int (xs 1))], [], V) : jS)) rfl ?_
  refine jl_s (S' := ((25, [(5, .int (b2)), (4, .int 16), (3, .int 1), (2, .int 0), (0, .ref 66), (1, .int (xs 1))], [.int 0], V) : jS)) rfl ?_
  refine jl_s (S' := ((28, [(5, .int (b2)), (4, .int 16), (3, .int 1), (2, .int 0), (0, .ref 66), (1, .int (xs 1))], [], V) : jS)) rfl ?_
  refine jl_s (S' := ((30, [(5, .int (b2)), (4, .int 16), (3, .int 1), (2, .int 0), (0, .ref 66), (1, .int (xs 1))], [.int (b2)], V) : jS)) rfl ?_
  refine jl_ift (e := jm248) (o := 15) rfl (h.1) (t := 45) rfl ?_
  refine jl_s (S' := ((46, [(5, .int (b2)), (4, .int 16), (3, .int 1), (2, .int 0), (0, .ref 66), (1, .int (xs 1))], [.int 0], V) : jS)) rfl ?_
  refine jl_s (S' := ((47, [(2, .int 0), (5, .int (b2)), (4, .int 16), (3, .int 1), (0, .ref 66), (1, .int (xs 1))], [], V) : jS)) rfl ?_
  refine jl_s (S' := ((49, [(2, .int 0), (5, .int (b2)), (4, .int 16), (3, .int 1), (0, .ref 66), (1, .int (xs 1))], [.int (b2)], V) : jS)) rfl ?_
  refine jl_ift (e := jm248) (o := 9) rfl (h.1) (t := 58) rfl ?_
  refine jl_s (S' := ((59, [(2, .int 0), (5, .int (b2)), (4, .int 16), (3, .int 1), (0, .ref 66), (1, .int (xs 1))], [.int 1], V) : jS)) rfl ?_
  refine jl_s (S' := ((60, [(3, .int 1), (2, .int 0), (5, .int (b2)), (4, .int 16), (0, .ref 66), (1, .int (xs 1))], [], V) : jS)) rfl ?_
  refine jl_s (S' := ((63, [(4, .int 24), (3, .int 1), (2, .int 0), (5, .int (b2)), (0, .ref 66), (1, .int (xs 1))], [], V) : jS)) rfl ?_
  refine jl_s (S' := ((7, [(4, .int 24), (3, .int 1), (2, .int 0), (5, .int (b2)), (0, .ref 66), (1, .int (xs 1))], [], V) : jS)) rfl ?_
  exact hq
set_option maxHeartbeats 4000000 in
set_option maxRecDepth 100000 in
theorem jzl591 (xs : Nat → Int32) (b0 b1 b2 b3 : Int32) : jRun ((4, xs) : jX) 2000 38 245 [.ref 66, .int 0, .int 0, .int 0] (jzv302 b0 b1 b2 b3) = some (.inl (some (.int 0)), (jzv302 b0 b1 b2 b3)) := by
  refine jr_run (e := jm245) rfl (Nat.le_of_ble_eq_true rfl) ?_
  refine jl_s (S' := ((1, [(0, .ref 66), (1, .int 0), (2, .int 0), (3, .int 0)], [.ref 66], (jzv302 b0 b1 b2 b3)) : jS)) rfl ?_
  refine jl_s (S' := ((2, [(0, .ref 66), (1, .int 0), (2, .int 0), (3, .int 0)], [.int 0, .ref 66], (jzv302 b0 b1 b2 b3)) : jS)) rfl ?_
  refine jl_s (S' := ((9, [(0, .ref 66), (1, .int 0), (2, .int 0), (3, .int 0)], [.ref 66], (jzv302 b0 b1 b2 b3)) : jS)) rfl ?_
  refine jl_s (S' := ((10, [(0, .ref 66), (1, .int 0), (2, .int 0), (3, .int 0)], [.int 0, .ref 66], (jzv302 b0 b1 b2 b3)) : jS)) rfl ?_
  refine jl_s (S' := ((17, [(0, .ref 66), (1, .int 0), (2, .int 0), (3, .int 0)], [.ref 66], (jzv302 b0 b1 b2 b3)) : jS)) rfl ?_
  refine jl_s (S' := ((18, [(0, .ref 66), (1, .int 0), (2, .int 0), (3, .int 0)], [.int 0, .ref 66], (jzv302 b0 b1 b2 b3)) : jS)) rfl ?_
  refine jl_s (S' := ((25, [(0, .ref 66), (1, .int 0), (2, .int 0), (3, .int 0)], [.ref 66], (jzv302 b0 b1 b2 b3)) : jS)) rfl ?_
  refine jl_s (S' := ((26, [(0, .ref 66), (1, .int 0), (2, .int 0), (3, .int 0)], [.int 0, .ref 66], (jzv302 b0 b1 b2 b3)) : jS)) rfl ?_
  refine jl_s (S' := ((29, [(0, .ref 66), (1, .int 0), (2, .int 0), (3, .int 0)], [], (jzv302 b0 b1 b2 b3)) : jS)) rfl ?_
  refine jl_s (S' := ((30, [(0, .ref 66), (1, .int 0), (2, .int 0), (3, .int 0)], [.ref 66], (jzv302 b0 b1 b2 b3)) : jS)) rfl ?_
  refine jl_s (S' := ((33, [(0, .ref 66), (1, .int 0), (2, .int 0), (3, .int 0)], [.int 0], (jzv302 b0 b1 b2 b3)) : jS)) rfl ?_
  refine jl_s (S' := ((40, [(0, .ref 66), (1, .int 0), (2, .int 0), (3, .int 0)], [], (jzv302 b0 b1 b2 b3)) : jS)) rfl ?_
  refine jl_s (S' := ((41, [(0, .ref 66), (1, .int 0), (2, .int 0), (3, .int 0)], [.int 0], (jzv302 b0 b1 b2 b3)) : jS)) rfl ?_
  exact jl_r (r := (.inl (some (.int 0)), (jzv302 b0 b1 b2 b3))) rfl
set_option maxHeartbeats 4000000 in
set_option maxRecDepth 100000 in
theorem jzq593 (xs : Nat → Int32) (b0 b1 b2 b3 : Int32) {f : Nat} {q : jO × jH} (hq : jLoop (jRun ((4, xs) : jX) 2000 38) ((4, xs) : jX) jm248 f ((101, [(4, .int 0), (3, .int 1), (2, .int 0), (5, .int (b3)), (0, .ref 66), (1, .int (xs 1))], [], (jzv302 b0 b1 b2 b3)) : jS) = some q) : jLoop (jRun ((4, xs) : jX) 2000 38) ((4, xs) : jX) jm248 (f + 19) ((7, [(4, .int 32), (3, .int 1), (2, .int 0), (5, .int (b3)), (0, .ref 66), (1, .int (xs 1))], [], (jzv302 b0 b1 b2 b3)) : jS) = some q := by
  refine jl_s (S' := ((9, [(4, .int 32), (3, .int 1), (2, .int 0), (5, .int (b3)), (0, .ref 66), (1, .int (xs 1))], [.int 32], (jzv302 b0 b1 b2 b3)) : jS)) rfl ?_
  refine jl_s (S' := ((11, [(4, .int 32), (3, .int 1), (2, .int 0), (5, .int (b3)), (0, .ref 66), (1, .int (xs 1))], [.int 32, .int 32], (jzv302 b0 b1 b2 b3)) : jS)) rfl ?_
  refine jl_s (S' := ((66, [(4, .int 32), (3, .int 1), (2, .int 0), (5, .int (b3)), (0, .ref 66), (1, .int (xs 1))], [], (jzv302 b0 b1 b2 b3)) : jS)) rfl ?_
  refine jl_s (S' := ((67, [(4, .int 32), (3, .int 1), (2, .int 0), (5, .int (b3)), (0, .ref 66), (1, .int (xs 1))], [.ref 66], (jzv302 b0 b1 b2 b3)) : jS)) rfl ?_
  refine jl_s (S' := ((68, [(4, .int 32), (3, .int 1), (2, .int 0), (5, .int (b3)), (0, .ref 66), (1, .int (xs 1))], [.int 0, .ref 66], (jzv302 b0 b1 b2 b3)) : jS)) rfl ?_
  refine jl_s (S' := ((69, [(4, .int 32), (3, .int 1), (2, .int 0), (5, .int (b3)), (0, .ref 66), (1, .int (xs 1))], [.int 0, .int 0, .ref 66], (jzv302 b0 b1 b2 b3)) : jS)) rfl ?_
  refine jl_s (S' := ((72, [(4, .int 32), (3, .int 1), (2, .int 0), (5, .int (b3)), (0, .ref 66), (1, .int (xs 1))], [.int 0, .ref 66], (jzv302 b0 b1 b2 b3)) : jS)) rfl ?_
  refine jl_s (S' := ((73, [(4, .int 32), (3, .int 1), (2, .int 0), (5, .int (b3)), (0, .ref 66), (1, .int (xs 1))], [.ref 66, .int 0, .ref 66], (jzv302 b0 b1 b2 b3)) : jS)) rfl ?_
  refine jl_s (S' := ((76, [(4, .int 32), (3, .int 1), (2, .int 0), (5, .int (b3)), (0, .ref 66), (1, .int (xs 1))], [.int 0, .int 0, .ref 66], (jzv302 b0 b1 b2 b3)) : jS)) rfl ?_
  refine jl_s (S' := ((77, [(4, .int 32), (3, .int 1), (2, .int 0), (5, .int (b3)), (0, .ref 66), (1, .int (xs 1))], [.int 1, .int 0, .int 0, .ref 66], (jzv302 b0 b1 b2 b3)) : jS)) rfl ?_
  refine jl_s (S' := ((78, [(4, .int 32), (3, .int 1), (2, .int 0), (5, .int (b3)), (0, .ref 66), (1, .int (xs 1))], [.int 1, .int 0, .ref 66], (jzv302 b0 b1 b2 b3)) : jS)) rfl ?_
  refine jl_s (S' := ((81, [(4, .int 32), (3, .int 1), (2, .int 0), (5, .int (b3)), (0, .ref 66), (1, .int (xs 1))], [.int 3000, .int 1, .int 0, .ref 66], (jzv302 b0 b1 b2 b3)) : jS)) rfl ?_
  refine jl_s (S' := ((88, [(4, .int 32), (3, .int 1), (2, .int 0), (5, .int (b3)), (0, .ref 66), (1, .int (xs 1))], [.int 0, .ref 66], (jzv302 b0 b1 b2 b3)) : jS)) rfl ?_
  refine jl_s (S' := ((89, [(4, .int 32), (3, .int 1), (2, .int 0), (5, .int (b3)), (0, .ref 66), (1, .int (xs 1))], [.int 0, .int 0, .ref 66], (jzv302 b0 b1 b2 b3)) : jS)) rfl ?_
  refine jl_s (S' := ((90, [(4, .int 32), (3, .int 1), (2, .int 0), (5, .int (b3)), (0, .ref 66), (1, .int (xs 1))], [.int 0, .int 0, .int 0, .ref 66], (jzv302 b0 b1 b2 b3)) : jS)) rfl ?_
  refine jl_c (t := 245) (as := [.ref 66, .int 0, .int 0, .int 0]) (V := (jzv302 b0 b1 b2 b3)) (r := (.inl (some (.int 0)), (jzv302 b0 b1 b2 b3))) (S' := ((93, [(4, .int 32), (3, .int 1), (2, .int 0), (5, .int (b3)), (0, .ref 66), (1, .int (xs 1))], [.int 0], (jzv302 b0 b1 b2 b3)) : jS)) rfl (jzl591 xs b0 b1 b2 b3) rfl ?_
  refine jl_s (S' := ((98, [(4, .int 32), (3, .int 1), (2, .int 0), (5, .int (b3)), (0, .ref 66), (1, .int (xs 1))], [], (jzv302 b0 b1 b2 b3)) : jS)) rfl ?_
  refine jl_s (S' := ((99, [(4, .int 32), (3, .int 1), (2, .int 0), (5, .int (b3)), (0, .ref 66), (1, .int (xs 1))], [.int 0], (jzv302 b0 b1 b2 b3)) : jS)) rfl ?_
  refine jl_s (S' := ((101, [(4, .int 0), (3, .int 1), (2, .int 0), (5, .int (b3)), (0, .ref 66), (1, .int (xs 1))], [], (jzv302 b0 b1 b2 b3)) : jS)) rfl ?_
  exact hq
set_option maxHeartbeats 4000000 in
set_option maxRecDepth 100000 in
theorem jzq595 (xs : Nat → Int32) (b0 b1 b2 b3 : Int32) (e : ((xs 1) >>> (0 &&& 31)) &&& 255 = b0) (h : jbz b0) {f : Nat} {q : jO × jH} (hq : jLoop (jRun ((4, xs) : jX) 2000 38) ((4, xs) : jX) jm248 f ((101, [(4, .int 8), (5, .int (b0)), (3, .int 1), (2, .int 0), (0, .ref 66), (1, .int (xs 1))], [], (jzv302 b0 b1 b2 b3)) : jS) = some q) : jLoop (jRun ((4, xs) : jX) 2000 38) ((4, xs) : jX) jm248 (f + 13) ((101, [(4, .int 0), (3, .int 1), (2, .int 0), (5, .int (b3)), (0, .ref 66), (1, .int (xs 1))], [], (jzv302 b0 b1 b2 b3)) : jS) = some q := by
  refine jl_s (S' := ((103, [(4, .int 0), (3, .int 1), (2, .int 0), (5, .int (b3)), (0, .ref 66), (1, .int (xs 1))], [.int 0], (jzv302 b0 b1 b2 b3)) : jS)) rfl ?_
  refine jl_s (S' := ((105, [(4, .int 0), (3, .int 1), (2, .int 0), (5, .int (b3)), (0, .ref 66), (1, .int (xs 1))], [.int 32, .int 0], (jzv302 b0 b1 b2 b3)) : jS)) rfl ?_
  refine jl_s (S' := ((108, [(4, .int 0), (3, .int 1), (2, .int 0), (5, .int (b3)), (0, .ref 66), (1, .int (xs 1))], [], (jzv302 b0 b1 b2 b3)) : jS)) rfl ?_
  refine jl_s (S' := ((109, [(4, .int 0), (3, .int 1), (2, .int 0), (5, .int (b3)), (0, .ref 66), (1, .int (xs 1))], [.int (xs 1)], (jzv302 b0 b1 b2 b3)) : jS)) rfl ?_
  refine jl_s (S' := ((111, [(4, .int 0), (3, .int 1), (2, .int 0), (5, .int (b3)), (0, .ref 66), (1, .int (xs 1))], [.int 0, .int (xs 1)], (jzv302 b0 b1 b2 b3)) : jS)) rfl ?_
  refine jl_s (S' := ((112, [(4, .int 0), (3, .int 1), (2, .int 0), (5, .int (b3)), (0, .ref 66), (1, .int (xs 1))], [.int ((xs 1) >>> (0 &&& 31))], (jzv302 b0 b1 b2 b3)) : jS)) rfl ?_
  refine jl_s (S' := ((115, [(4, .int 0), (3, .int 1), (2, .int 0), (5, .int (b3)), (0, .ref 66), (1, .int (xs 1))], [.int 255, .int ((xs 1) >>> (0 &&& 31))], (jzv302 b0 b1 b2 b3)) : jS)) rfl ?_
  refine jl_s (S' := ((116, [(4, .int 0), (3, .int 1), (2, .int 0), (5, .int (b3)), (0, .ref 66), (1, .int (xs 1))], [.int (((xs 1) >>> (0 &&& 31)) &&& 255)], (jzv302 b0 b1 b2 b3)) : jS)) rfl ?_
  rw [e]
  refine jl_s (S' := ((118, [(5, .int (b0)), (4, .int 0), (3, .int 1), (2, .int 0), (0, .ref 66), (1, .int (xs 1))], [], (jzv302 b0 b1 b2 b3)) : jS)) rfl ?_
  refine jl_s (S' := ((120, [(5, .int (b0)), (4, .int 0), (3, .int 1), (2, .int 0), (0, .ref 66), (1, .int (xs 1))], [.int (b0)], (jzv302 b0 b1 b2 b3)) : jS)) rfl ?_
  refine jl_ift (e := jm248) (o := 24) rfl (h.1) (t := 144) rfl ?_
  refine jl_s (S' := ((147, [(4, .int 8), (5, .int (b0)), (3, .int 1), (2, .int 0), (0, .ref 66), (1, .int (xs 1))], [], (jzv302 b0 b1 b2 b3)) : jS)) rfl ?_
  refine jl_s (S' := ((101, [(4, .int 8), (5, .int (b0)), (3, .int 1), (2, .int 0), (0, .ref 66), (1, .int (xs 1))], [], (jzv302 b0 b1 b2 b3)) : jS)) rfl ?_
  exact hq
def jzc207 (b0 b1 b2 b3 : Int32) : jC := .inl (1, 3000, .inl (upd (fun _ => 0) 0 (b1)))
def jzv303 (b0 b1 b2 b3 : Int32) : jH := [jzc182, (jzc186 b0 b1 b2 b3), jzc117, (jzc207 b0 b1 b2 b3), jzc9, jzc9, jzc9, jzc9, jzc9, jzc17, jzc19, jzc19, jzc19, jzc19, jzc19, jzc19, jzc19, jzc19, jzc28, jzc28, jzc28, jzc28, jzc28, jzc28, jzc28, jzc28, jzc28, jzc28, jzc28, jzc28, jzc28, jzc28, jzc43, jzc43, jzc43, jzc43, jzc43, jzc49, jzc49, jzc52, jzc52, jzc52, jzc56, jzc56, jzc59, jzc56, jzc62, jzc28, jzc28, jzc28, jzc28, jzc28, jzc69, jzc71, jzc73, jzc43, jzc76, jzc52, jzc52, jzc80, jzc80, jzc80, jzc84, jzc52, jzc52, jzc52, jzc52, jzc52, jzc52, jzc52, jzc93, jzc93, jzc52, jzc52, jzc98, jzc100, jzc93, jzc52, jzc52, jzc52, jzc52, jzc107, jzc109, jzc111, jzc100, jzc100, jzc100, jzc111, jzc111, jzc200]
def jzv304 (b0 b1 b2 b3 : Int32) : jH := [jzc182, (jzc186 b0 b1 b2 b3), jzc202, (jzc207 b0 b1 b2 b3), jzc9, jzc9, jzc9, jzc9, jzc9, jzc17, jzc19, jzc19, jzc19, jzc19, jzc19, jzc19, jzc19, jzc19, jzc28, jzc28, jzc28, jzc28, jzc28, jzc28, jzc28, jzc28, jzc28, jzc28, jzc28, jzc28, jzc28, jzc28, jzc43, jzc43, jzc43, jzc43, jzc43, jzc49, jzc49, jzc52, jzc52, jzc52, jzc56, jzc56, jzc59, jzc56, jzc62, jzc28, jzc28, jzc28, jzc28, jzc28, jzc69, jzc71, jzc73, jzc43, jzc76, jzc52, jzc52, jzc80, jzc80, jzc80, jzc84, jzc52, jzc52, jzc52, jzc52, jzc52, jzc52, jzc52, jzc93, jzc93, jzc52, jzc52, jzc98, jzc100, jzc93, jzc52, jzc52, jzc52, jzc52, jzc107, jzc109, jzc111, jzc100, jzc100, jzc100, jzc111, jzc111, jzc200]
set_option maxHeartbeats 4000000 in
set_option maxRecDepth 100000 in
theorem jzq597 (xs : Nat → Int32) (b0 b1 b2 b3 : Int32) (e : ((xs 1) >>> (8 &&& 31)) &&& 255 = b1) (h : jbn b1) {f : Nat} {q : jO × jH} (hq : jLoop (jRun ((4, xs) : jX) 2000 38) ((4, xs) : jX) jm248 f ((101, [(4, .int 16), (5, .int (b1)), (3, .int 1), (2, .int 0), (0, .ref 66), (1, .int (xs 1))], [], (jzv304 b0 b1 b2 b3)) : jS) = some q) : jLoop (jRun ((4, xs) : jX) 2000 38) ((4, xs) : jX) jm248 (f + 25) ((101, [(4, .int 8), (5, .int (b0)), (3, .int 1), (2, .int 0), (0, .ref 66), (1, .int (xs 1))], [], (jzv302 b0 b1 b2 b3)) : jS) = some q := by
  refine jl_s (S' := ((103, [(4, .int 8), (5, .int (b0)), (3, .int 1), (2, .int 0), (0, .ref 66), (1, .int (xs 1))], [.int 8], (jzv302 b0 b1 b2 b3)) : jS)) rfl ?_
  refine jl_s (S' := ((105, [(4, .int 8), (5, .int (b0)), (3, .int 1), (2, .int 0), (0, .ref 66), (1, .int (xs 1))], [.int 32, .int 8], (jzv302 b0 b1 b2 b3)) : jS)) rfl ?_
  refine jl_s (S' := ((108, [(4, .int 8), (5, .int (b0)), (3, .int 1), (2, .int 0), (0, .ref 66), (1, .int (xs 1))], [], (jzv302 b0 b1 b2 b3)) : jS)) rfl ?_
  refine jl_s (S' := ((109, [(4, .int 8), (5, .int (b0)), (3, .int 1), (2, .int 0), (0, .ref 66), (1, .int (xs 1))], [.int (xs 1)], (jzv302 b0 b1 b2 b3)) : jS)) rfl ?_
  refine jl_s (S' := ((111, [(4, .int 8), (5, .int (b0)), (3, .int 1), (2, .int 0), (0, .ref 66), (1, .int (xs 1))], [.int 8, .int (xs 1)], (jzv302 b0 b1 b2 b3)) : jS)) rfl ?_
  refine jl_s (S' := ((112, [(4, .int 8), (5, .int (b0)), (3, .int 1), (2, .int 0), (0, .ref 66), (1, .int (xs 1))], [.int ((xs 1) >>> (8 &&& 31))], (jzv302 b0 b1 b2 b3)) : jS)) rfl ?_
  refine jl_s (S' := ((115, [(4, .int 8), (5, .int (b0)), (3, .int 1), (2, .int 0), (0, .ref 66), (1, .int (xs 1))], [.int 255, .int ((xs 1) >>> (8 &&& 31))], (jzv302 b0 b1 b2 b3)) : jS)) rfl ?_
  refine jl_s (S' := ((116, [(4, .int 8), (5, .int (b0)), (3, .int 1), (2, .int 0), (0, .ref 66), (1, .int (xs 1))], [.int (((xs 1) >>> (8 &&& 31)) &&& 255)], (jzv302 b0 b1 b2 b3)) : jS)) rfl ?_
  rw [e]
  refine jl_s (S' := ((118, [(5, .int (b1)), (4, .int 8), (3, .int 1), (2, .int 0), (0, .ref 66), (1, .int (xs 1))], [], (jzv302 b0 b1 b2 b3)) : jS)) rfl ?_
  refine jl_s (S' := ((120, [(5, .int (b1)), (4, .int 8), (3, .int 1), (2, .int 0), (0, .ref 66), (1, .int (xs 1))], [.int (b1)], (jzv302 b0 b1 b2 b3)) : jS)) rfl ?_
  refine jl_iff (e := jm248) (o := 24) rfl (h.1) ?_
  refine jl_s (S' := ((124, [(5, .int (b1)), (4, .int 8), (3, .int 1), (2, .int 0), (0, .ref 66), (1, .int (xs 1))], [.ref 66], (jzv302 b0 b1 b2 b3)) : jS)) rfl ?_
  refine jl_s (S' := ((127, [(5, .int (b1)), (4, .int 8), (3, .int 1), (2, .int 0), (0, .ref 66), (1, .int (xs 1))], [.ref 67], (jzv302 b0 b1 b2 b3)) : jS)) rfl ?_
  refine jl_s (S' := ((128, [(5, .int (b1)), (4, .int 8), (3, .int 1), (2, .int 0), (0, .ref 66), (1, .int (xs 1))], [.ref 66, .ref 67], (jzv302 b0 b1 b2 b3)) : jS)) rfl ?_
  refine jl_s (S' := ((131, [(5, .int (b1)), (4, .int 8), (3, .int 1), (2, .int 0), (0, .ref 66), (1, .int (xs 1))], [.int 0, .ref 67], (jzv302 b0 b1 b2 b3)) : jS)) rfl ?_
  refine jl_s (S' := ((133, [(5, .int (b1)), (4, .int 8), (3, .int 1), (2, .int 0), (0, .ref 66), (1, .int (xs 1))], [.int (b1), .int 0, .ref 67], (jzv302 b0 b1 b2 b3)) : jS)) rfl ?_
  refine jl_s (S' := ((134, [(5, .int (b1)), (4, .int 8), (3, .int 1), (2, .int 0), (0, .ref 66), (1, .int (xs 1))], [], (jzv303 b0 b1 b2 b3)) : jS)) rfl ?_
  refine jl_s (S' := ((135, [(5, .int (b1)), (4, .int 8), (3, .int 1), (2, .int 0), (0, .ref 66), (1, .int (xs 1))], [.ref 66], (jzv303 b0 b1 b2 b3)) : jS)) rfl ?_
  refine jl_s (S' := ((136, [(5, .int (b1)), (4, .int 8), (3, .int 1), (2, .int 0), (0, .ref 66), (1, .int (xs 1))], [.ref 66, .ref 66], (jzv303 b0 b1 b2 b3)) : jS)) rfl ?_
  refine jl_s (S' := ((139, [(5, .int (b1)), (4, .int 8), (3, .int 1), (2, .int 0), (0, .ref 66), (1, .int (xs 1))], [.int 0, .ref 66], (jzv303 b0 b1 b2 b3)) : jS)) rfl ?_
  refine jl_s (S' := ((140, [(5, .int (b1)), (4, .int 8), (3, .int 1), (2, .int 0), (0, .ref 66), (1, .int (xs 1))], [.int 1, .int 0, .ref 66], (jzv303 b0 b1 b2 b3)) : jS)) rfl ?_
  refine jl_s (S' := ((141, [(5, .int (b1)), (4, .int 8), (3, .int 1), (2, .int 0), (0, .ref 66), (1, .int (xs 1))], [.int 1, .ref 66], (jzv303 b0 b1 b2 b3)) : jS)) rfl ?_
  refine jl_s (S' := ((144, [(5, .int (b1)), (4, .int 8), (3, .int 1), (2, .int 0), (0, .ref 66), (1, .int (xs 1))], [], (jzv304 b0 b1 b2 b3)) : jS)) rfl ?_
  refine jl_s (S' := ((147, [(4, .int 16), (5, .int (b1)), (3, .int 1), (2, .int 0), (0, .ref 66), (1, .int (xs 1))], [], (jzv304 b0 b1 b2 b3)) : jS)) rfl ?_
  refine jl_s (S' := ((101, [(4, .int 16), (5, .int (b1)), (3, .int 1), (2, .int 0), (0, .ref 66), (1, .int (xs 1))], [], (jzv304 b0 b1 b2 b3)) : jS)) rfl ?_
  exact hq
set_option maxHeartbeats 4000000 in
set_option maxRecDepth 100000 in
theorem jzq599 (xs : Nat → Int32) (b0 b1 b2 b3 : Int32) (e : ((xs 1) >>> (16 &&& 31)) &&& 255 = b2) (h : jbz b2) {f : Nat} {q : jO × jH} (hq : jLoop (jRun ((4, xs) : jX) 2000 38) ((4, xs) : jX) jm248 f ((101, [(4, .int 24), (5, .int (b2)), (3, .int 1), (2, .int 0), (0, .ref 66), (1, .int (xs 1))], [], (jzv304 b0 b1 b2 b3)) : jS) = some q) : jLoop (jRun ((4, xs) : jX) 2000 38) ((4, xs) : jX) jm248 (f + 13) ((101, [(4, .int 16), (5, .int (b1)), (3, .int 1), (2, .int 0), (0, .ref 66), (1, .int (xs 1))], [], (jzv304 b0 b1 b2 b3)) : jS) = some q := by
  refine jl_s (S' := ((103, [(4, .int 16), (5, .int (b1)), (3, .int 1), (2, .int 0), (0, .ref 66), (1, .int (xs 1))], [.int 16], (jzv304 b0 b1 b2 b3)) : jS)) rfl ?_
  refine jl_s (S' := ((105, [(4, .int 16), (5, .int (b1)), (3, .int 1), (2, .int 0), (0, .ref 66), (1, .int (xs 1))], [.int 32, .int 16], (jzv304 b0 b1 b2 b3)) : jS)) rfl ?_
  refine jl_s (S' := ((108, [(4, .int 16), (5, .int (b1)), (3, .int 1), (2, .int 0), (0, .ref 66), (1, .int (xs 1))], [], (jzv304 b0 b1 b2 b3)) : jS)) rfl ?_
  refine jl_s (S' := ((109, [(4, .int 16), (5, .int (b1)), (3, .int 1), (2, .int 0), (0, .ref 66), (1, .int (xs 1))], [.int (xs 1)], (jzv304 b0 b1 b2 b3)) : jS)) rfl ?_
  refine jl_s (S' := ((111, [(4, .int 16), (5, .int (b1)), (3, .int 1), (2, .int 0), (0, .ref 66), (1, .int (xs 1))], [.int 16, .int (xs 1)], (jzv304 b0 b1 b2 b3)) : jS)) rfl ?_
  refine jl_s (S' := ((112, [(4, .int 16), (5, .int (b1)), (3, .int 1), (2, .int 0), (0, .ref 66), (1, .int (xs 1))], [.int ((xs 1) >>> (16 &&& 31))], (jzv304 b0 b1 b2 b3)) : jS)) rfl ?_
  refine jl_s (S' := ((115, [(4, .int 16), (5, .int (b1)), (3, .int 1), (2, .int 0), (0, .ref 66), (1, .int (xs 1))], [.int 255, .int ((xs 1) >>> (16 &&& 31))], (jzv304 b0 b1 b2 b3)) : jS)) rfl ?_
  refine jl_s (S' := ((116, [(4, .int 16), (5, .int (b1)), (3, .int 1), (2, .int 0), (0, .ref 66), (1, .int (xs 1))], [.int (((xs 1) >>> (16 &&& 31)) &&& 255)], (jzv304 b0 b1 b2 b3)) : jS)) rfl ?_
  rw [e]
  refine jl_s (S' := ((118, [(5, .int (b2)), (4, .int 16), (3, .int 1), (2, .int 0), (0, .ref 66), (1, .int (xs 1))], [], (jzv304 b0 b1 b2 b3)) : jS)) rfl ?_
  refine jl_s (S' := ((120, [(5, .int (b2)), (4, .int 16), (3, .int 1), (2, .int 0), (0, .ref 66), (1, .int (xs 1))], [.int (b2)], (jzv304 b0 b1 b2 b3)) : jS)) rfl ?_
  refine jl_ift (e := jm248) (o := 24) rfl (h.1) (t := 144) rfl ?_
  refine jl_s (S' := ((147, [(4, .int 24), (5, .int (b2)), (3, .int 1), (2, .int 0), (0, .ref 66), (1, .int (xs 1))], [], (jzv304 b0 b1 b2 b3)) : jS)) rfl ?_
  refine jl_s (S' := ((101, [(4, .int 24), (5, .int (b2)), (3, .int 1), (2, .int 0), (0, .ref 66), (1, .int (xs 1))], [], (jzv304 b0 b1 b2 b3)) : jS)) rfl ?_
  exact hq
set_option maxHeartbeats 4000000 in
set_option maxRecDepth 100000 in
theorem jzq601 (xs : Nat → Int32) (b0 b1 b2 b3 : Int32) (e : ((xs 1) >>> (24 &&& 31)) &&& 255 = b3) (h : jbz b3) {f : Nat} {q : jO × jH} (hq : jLoop (jRun ((4, xs) : jX) 2000 38) ((4, xs) : jX) jm248 f ((101, [(4, .int 32), (5, .int (b3)), (3, .int 1), (2, .int 0), (0, .ref 66), (1, .int (xs 1))], [], (jzv304 b0 b1 b2 b3)) : jS) = some q) : jLoop (jRun ((4, xs) : jX) 2000 38) ((4, xs) : jX) jm248 (f + 13) ((101, [(4, .int 24), (5, .int (b2)), (3, .int 1), (2, .int 0), (0, .ref 66), (1, .int (xs 1))], [], (jzv304 b0 b1 b2 b3)) : jS) = some q := by
  refine jl_s (S' := ((103, [(4, .int 24), (5, .int (b2)), (3, .int 1), (2, .int 0), (0, .ref 66), (1, .int (xs 1))], [.int 24], (jzv304 b0 b1 b2 b3)) : jS)) rfl ?_
  refine jl_s (S' := ((105, [(4, .int 24), (5, .int (b2)), (3, .int 1), (2, .int 0), (0, .ref 66), (1, .int (xs 1))], [.int 32, .int 24], (jzv304 b0 b1 b2 b3)) : jS)) rfl ?_
  refine jl_s (S' := ((108, [(4, .int 24), (5, .int (b2)), (3, .int 1), (2, .int 0), (0, .ref 66), (1, .int (xs 1))], [], (jzv304 b0 b1 b2 b3)) : jS)) rfl ?_
  refine jl_s (S' := ((109, [(4, .int 24), (5, .int (b2)), (3, .int 1), (2, .int 0), (0, .ref 66), (1, .int (xs 1))], [.int (xs 1)], (jzv304 b0 b1 b2 b3)) : jS)) rfl ?_
  refine jl_s (S' := ((111, [(4, .int 24), (5, .int (b2)), (3, .int 1), (2, .int 0), (0, .ref 66), (1, .int (xs 1))], [.int 24, .int (xs 1)], (jzv304 b0 b1 b2 b3)) : jS)) rfl ?_
  refine jl_s (S' := ((112, [(4, .int 24), (5, .int (b2)), (3, .int 1), (2, .int 0), (0, .ref 66), (1, .int (xs 1))], [.int ((xs 1) >>> (24 &&& 31))], (jzv304 b0 b1 b2 b3)) : jS)) rfl ?_
  refine jl_s (S' := ((115, [(4, .int 24), (5, .int (b2)), (3, .int 1), (2, .int 0), (0, .ref 66), (1, .int (xs 1))], [.int 255, .int ((xs 1) >>> (24 &&& 31))], (jzv304 b0 b1 b2 b3)) : jS)) rfl ?_
  refine jl_s (S' := ((116, [(4, .int 24), (5, .int (b2)), (3, .int 1), (2, .int 0), (0, .ref 66), (1, .int (xs 1))], [.int (((xs 1) >>> (24 &&& 31)) &&& 255)], (jzv304 b0 b1 b2 b3)) : jS)) rfl ?_
  rw [e]
  refine jl_s (S' := ((118, [(5, .int (b3)), (4, .int 24), (3, .int 1), (2, .int 0), (0, .ref 66), (1, .int (xs 1))], [], (jzv304 b0 b1 b2 b3)) : jS)) rfl ?_
  refine jl_s (S' := ((120, [(5, .int (b3)), (4, .int 24), (3, .int 1), (2, .int 0), (0, .ref 66), (1, .int (xs 1))], [.int (b3)], (jzv304 b0 b1 b2 b3)) : jS)) rfl ?_
  refine jl_ift (e := jm248) (o := 24) rfl (h.1) (t := 144) rfl ?_
  refine jl_s (S' := ((147, [(4, .int 32), (5, .int (b3)), (3, .int 1), (2, .int 0), (0, .ref 66), (1, .int (xs 1))], [], (jzv304 b0 b1 b2 b3)) : jS)) rfl ?_
  refine jl_s (S' := ((101, [(4, .int 32), (5, .int (b3)), (3, .int 1), (2, .int 0), (0, .ref 66), (1, .int (xs 1))], [], (jzv304 b0 b1 b2 b3)) : jS)) rfl ?_
  exact hq
set_option maxHeartbeats 4000000 in
set_option maxRecDepth 100000 in
theorem jzq603 (xs : Nat → Int32) (b0 b1 b2 b3 : Int32) {f : Nat} : jLoop (jRun ((4, xs) : jX) 2000 38) ((4, xs) : jX) jm248 (f + 6) ((101, [(4, .int 32), (5, .int (b3)), (3, .int 1), (2, .int 0), (0, .ref 66), (1, .int (xs 1))], [], (jzv304 b0 b1 b2 b3)) : jS) = some (.inl (some (.int 1)), (jzv304 b0 b1 b2 b3)) := by
  refine jl_s (S' := ((103, [(4, .int 32), (5, .int (b3)), (3, .int 1), (2, .int 0), (0, .ref 66), (1, .int (xs 1))], [.int 32], (jzv304 b0 b1 b2 b3)) : jS)) rfl ?_
  refine jl_s (S' := ((105, [(4, .int 32), (5, .int (b3)), (3, .int 1), (2, .int 0), (0, .ref 66), (1, .int (xs 1))], [.int 32, .int 32], (jzv304 b0 b1 b2 b3)) : jS)) rfl ?_
  refine jl_s (S' := ((150, [(4, .int 32), (5, .int (b3)), (3, .int 1), (2, .int 0), (0, .ref 66), (1, .int (xs 1))], [], (jzv304 b0 b1 b2 b3)) : jS)) rfl ?_
  refine jl_s (S' := ((151, [(4, .int 32), (5, .int (b3)), (3, .int 1), (2, .int 0), (0, .ref 66), (1, .int (xs 1))], [.ref 66], (jzv304 b0 b1 b2 b3)) : jS)) rfl ?_
  refine jl_s (S' := ((154, [(4, .int 32), (5, .int (b3)), (3, .int 1), (2, .int 0), (0, .ref 66), (1, .int (xs 1))], [.int 1], (jzv304 b0 b1 b2 b3)) : jS)) rfl ?_
  exact jl_r (r := (.inl (some (.int 1)), (jzv304 b0 b1 b2 b3))) rfl
set_option maxHeartbeats 4000000 in
set_option maxRecDepth 100000 in
theorem jzrp_ZVZZ (xs : Nat → Int32) (b0 b1 b2 b3 : Int32) (e0 : ((xs 1) >>> (0 &&& 31)) &&& 255 = b0) (e1 : ((xs 1) >>> (8 &&& 31)) &&& 255 = b1) (e2 : ((xs 1) >>> (16 &&& 31)) &&& 255 = b2) (e3 : ((xs 1) >>> (24 &&& 31)) &&& 255 = b3) (h0 : jbz b0) (h1 : jbv b1) (h2 : jbz b2) (h3 : jbz b3) : jRun ((4, xs) : jX) 2000 39 248 [.ref 66, .int (xs 1)] (jzv302 b0 b1 b2 b3) = some (.inl (some (.int 1)), (jzv304 b0 b1 b2 b3)) := by
  refine jr_run (e := jm248) rfl (Nat.le_of_ble_eq_true rfl) ?_
  refine jzq506 xs b0 b1 b2 b3 _ ?_
  refine jzq508 xs b0 b1 b2 b3 _ e0 h0 ?_
  refine jzq588 xs b0 b1 b2 b3 _ e1 h1 ?_
  refine jzq590 xs b0 b1 b2 b3 _ e2 h2 ?_
  refine jzq552 xs b0 b1 b2 b3 _ e3 h3 ?_
  refine jzq593 xs b0 b1 b2 b3 ?_
  refine jzq595 xs b0 b1 b2 b3 e0 h0 ?_
  refine jzq597 xs b0 b1 b2 b3 e1 h1.1 ?_
  refine jzq599 xs b0 b1 b2 b3 e2 h2 ?_
  refine jzq601 xs b0 b1 b2 b3 e3 h3 ?_
  exact jzq603 xs b0 b1 b2 b3
set_option maxHeartbeats 4000000 in
set_option maxRecDepth 100000 in
theorem jzl604 (xs : Nat → Int32) (hop : xs 0 &&& 31 = 0) (b0 b1 b2 b3 : Int32) (e0 : ((Int32.toUInt32 (xs 1) >>> (Int32.toUInt32 0 &&& Int32.toUInt32 31)).toInt32) &&& 255 = b0) (e1 : ((Int32.toUInt32 (xs 1) >>> (Int32.toUInt32 8 &&& Int32.toUInt32 31)).toInt32) &&& 255 = b1) (e2 : ((Int32.toUInt32 (xs 1) >>> (Int32.toUInt32 16 &&& Int32.toUInt32 31)).toInt32) &&& 255 = b2) (e3 : ((Int32.toUInt32 (xs 1) >>> (Int32.toUInt32 24 &&& Int32.toUInt32 31)).toInt32) &&& 255 = b3) (g0 : ((xs 1) >>> (0 &&& 31)) &&& 255 = b0) (g1 : ((xs 1) >>> (8 &&& 31)) &&& 255 = b1) (g2 : ((xs 1) >>> (16 &&& 31)) &&& 255 = b2) (g3 : ((xs 1) >>> (24 &&& 31)) &&& 255 = b3) (h0 : jbz b0) (h1 : jbv b1) (h2 : jbz b2) (h3 : jbz b3) : jRun ((4, xs) : jX) 2000 39 244 [.ref 66] (jzv304 b0 b1 b2 b3) = some (.inl (some (.int 0)), (jzv304 b0 b1 b2 b3)) := by
  refine jr_run (e := jm244) rfl (Nat.le_of_ble_eq_true rfl) ?_
  refine jl_s (S' := ((1, [(0, .ref 66)], [.ref 66], (jzv304 b0 b1 b2 b3)) : jS)) rfl ?_
  refine jl_s (S' := ((4, [(0, .ref 66)], [.int 0], (jzv304 b0 b1 b2 b3)) : jS)) rfl ?_
  exact jl_r (r := (.inl (some (.int 0)), (jzv304 b0 b1 b2 b3))) rfl
set_option maxHeartbeats 4000000 in
set_option maxRecDepth 100000 in
theorem jzl605 (xs : Nat → Int32) (hop : xs 0 &&& 31 = 0) (b0 b1 b2 b3 : Int32) (e0 : ((Int32.toUInt32 (xs 1) >>> (Int32.toUInt32 0 &&& Int32.toUInt32 31)).toInt32) &&& 255 = b0) (e1 : ((Int32.toUInt32 (xs 1) >>> (Int32.toUInt32 8 &&& Int32.toUInt32 31)).toInt32) &&& 255 = b1) (e2 : ((Int32.toUInt32 (xs 1) >>> (Int32.toUInt32 16 &&& Int32.toUInt32 31)).toInt32) &&& 255 = b2) (e3 : ((Int32.toUInt32 (xs 1) >>> (Int32.toUInt32 24 &&& Int32.toUInt32 31)).toInt32) &&& 255 = b3) (g0 : ((xs 1) >>> (0 &&& 31)) &&& 255 = b0) (g1 : ((xs 1) >>> (8 &&& 31)) &&& 255 = b1) (g2 : ((xs 1) >>> (16 &&& 31)) &&& 255 = b2) (g3 : ((xs 1) >>> (24 &&& 31)) &&& 255 = b3) (h0 : jbz b0) (h1 : jbv b1) (h2 : jbz b2) (h3 : jbz b3) : jLoop (jRun ((4, xs) : jX) 2000 39) ((4, xs) : jX) jm18 1000 ((23, [(4, .int 0), (3, .ref 153), (2, .ref 66), (1, .ref 64), (0, .ref 63)], [], jzv181) : jS) = some (.inl (some (.int 1)), (jzv304 b0 b1 b2 b3)) := by
  refine jl_s (S' := ((25, [(4, .int 0), (3, .ref 153), (2, .ref 66), (1, .ref 64), (0, .ref 63)], [.int 0], jzv181) : jS)) rfl ?_
  refine jl_s (S' := ((26, [(4, .int 0), (3, .ref 153), (2, .ref 66), (1, .ref 64), (0, .ref 63)], [.ref 63, .int 0], jzv181) : jS)) rfl ?_
  refine jl_s (S' := ((27, [(4, .int 0), (3, .ref 153), (2, .ref 66), (1, .ref 64), (0, .ref 63)], [.int 4, .int 0], jzv181) : jS)) rfl ?_
  refine jl_s (S' := ((28, [(4, .int 0), (3, .ref 153), (2, .ref 66), (1, .ref 64), (0, .ref 63)], [.int 4, .int 4, .int 0], jzv181) : jS)) rfl ?_
  refine jl_s (S' := ((29, [(4, .int 0), (3, .ref 153), (2, .ref 66), (1, .ref 64), (0, .ref 63)], [.int 0, .int 0], jzv181) : jS)) rfl ?_
  refine jl_s (S' := ((32, [(4, .int 0), (3, .ref 153), (2, .ref 66), (1, .ref 64), (0, .ref 63)], [], jzv181) : jS)) rfl ?_
  refine jl_s (S' := ((33, [(4, .int 0), (3, .ref 153), (2, .ref 66), (1, .ref 64), (0, .ref 63)], [.ref 63], jzv181) : jS)) rfl ?_
  refine jl_s (S' := ((35, [(4, .int 0), (3, .ref 153), (2, .ref 66), (1, .ref 64), (0, .ref 63)], [.int 0, .ref 63], jzv181) : jS)) rfl ?_
  refine jl_s (S' := ((36, [(4, .int 0), (3, .ref 153), (2, .ref 66), (1, .ref 64), (0, .ref 63)], [.int (xs 0)], jzv181) : jS)) rfl ?_
  refine jl_s (S' := ((38, [(4, .int 0), (3, .ref 153), (2, .ref 66), (1, .ref 64), (0, .ref 63)], [.int 31, .int (xs 0)], jzv181) : jS)) rfl ?_
  refine jl_s (S' := ((39, [(4, .int 0), (3, .ref 153), (2, .ref 66), (1, .ref 64), (0, .ref 63)], [.int ((xs 0) &&& 31)], jzv181) : jS)) rfl ?_
  rw [hop]
  refine jl_s (S' := ((128, [(4, .int 0), (3, .ref 153), (2, .ref 66), (1, .ref 64), (0, .ref 63)], [], jzv181) : jS)) rfl ?_
  refine jl_s (S' := ((129, [(4, .int 0), (3, .ref 153), (2, .ref 66), (1, .ref 64), (0, .ref 63)], [.ref 64], jzv181) : jS)) rfl ?_
  refine jl_s (S' := ((130, [(4, .int 0), (3, .ref 153), (2, .ref 66), (1, .ref 64), (0, .ref 63)], [.ref 63, .ref 64], jzv181) : jS)) rfl ?_
  refine jl_s (S' := ((132, [(4, .int 0), (3, .ref 153), (2, .ref 66), (1, .ref 64), (0, .ref 63)], [.int 0, .ref 63, .ref 64], jzv181) : jS)) rfl ?_
  refine jl_s (S' := ((133, [(4, .int 0), (3, .ref 153), (2, .ref 66), (1, .ref 64), (0, .ref 63)], [.int 1, .int 0, .ref 63, .ref 64], jzv181) : jS)) rfl ?_
  refine jl_s (S' := ((134, [(4, .int 0), (3, .ref 153), (2, .ref 66), (1, .ref 64), (0, .ref 63)], [.int 1, .ref 63, .ref 64], jzv181) : jS)) rfl ?_
  refine jl_s (S' := ((135, [(4, .int 0), (3, .ref 153), (2, .ref 66), (1, .ref 64), (0, .ref 63)], [.int (xs 1), .ref 64], jzv181) : jS)) rfl ?_
  refine jl_s (S' := ((136, [(4, .int 0), (3, .ref 153), (2, .ref 66), (1, .ref 64), (0, .ref 63)], [.ref 153, .int (xs 1), .ref 64], jzv181) : jS)) rfl ?_
  refine jl_c (t := 0) (as := [.ref 64, .int (xs 1), .ref 153]) (V := jzv181) (r := (.inl (some (.int 0)), (jzv302 b0 b1 b2 b3))) (S' := ((139, [(4, .int 0), (3, .ref 153), (2, .ref 66), (1, .ref 64), (0, .ref 63)], [.int 0], (jzv302 b0 b1 b2 b3)) : jS)) rfl (jzl586 xs hop b0 b1 b2 b3 e0 e1 e2 e3 g0 g1 g2 g3 h0 h1 h2 h3) rfl ?_
  refine jl_s (S' := ((141, [(5, .int 0), (4, .int 0), (3, .ref 153), (2, .ref 66), (1, .ref 64), (0, .ref 63)], [], (jzv302 b0 b1 b2 b3)) : jS)) rfl ?_
  refine jl_s (S' := ((142, [(5, .int 0), (4, .int 0), (3, .ref 153), (2, .ref 66), (1, .ref 64), (0, .ref 63)], [.ref 66], (jzv302 b0 b1 b2 b3)) : jS)) rfl ?_
  refine jl_s (S' := ((143, [(5, .int 0), (4, .int 0), (3, .ref 153), (2, .ref 66), (1, .ref 64), (0, .ref 63)], [.ref 63, .ref 66], (jzv302 b0 b1 b2 b3)) : jS)) rfl ?_
  refine jl_s (S' := ((145, [(5, .int 0), (4, .int 0), (3, .ref 153), (2, .ref 66), (1, .ref 64), (0, .ref 63)], [.int 0, .ref 63, .ref 66], (jzv302 b0 b1 b2 b3)) : jS)) rfl ?_
  refine jl_s (S' := ((146, [(5, .int 0), (4, .int 0), (3, .ref 153), (2, .ref 66), (1, .ref 64), (0, .ref 63)], [.int 1, .int 0, .ref 63, .ref 66], (jzv302 b0 b1 b2 b3)) : jS)) rfl ?_
  refine jl_s (S' := ((147, [(5, .int 0), (4, .int 0), (3, .ref 153), (2, .ref 66), (1, .ref 64), (0, .ref 63)], [.int 1, .ref 63, .ref 66], (jzv302 b0 b1 b2 b3)) : jS)) rfl ?_
  refine jl_s (S' := ((148, [(5, .int 0), (4, .int 0), (3, .ref 153), (2, .ref 66), (1, .ref 64), (0, .ref 63)], [.int (xs 1), .ref 66], (jzv302 b0 b1 b2 b3)) : jS)) rfl ?_
  refine jl_c (t := 248) (as := [.ref 66, .int (xs 1)]) (V := (jzv302 b0 b1 b2 b3)) (r := (.inl (some (.int 1)), (jzv304 b0 b1 b2 b3))) (S' := ((151, [(5, .int 0), (4, .int 0), (3, .ref 153), (2, .ref 66), (1, .ref 64), (0, .ref 63)], [.int 1], (jzv304 b0 b1 b2 b3)) : jS)) rfl (jzrp_ZVZZ xs b0 b1 b2 b3 g0 g1 g2 g3 h0 h1 h2 h3 ) rfl ?_
  refine jl_s (S' := ((153, [(6, .int 1), (5, .int 0), (4, .int 0), (3, .ref 153), (2, .ref 66), (1, .ref 64), (0, .ref 63)], [], (jzv304 b0 b1 b2 b3)) : jS)) rfl ?_
  refine jl_s (S' := ((154, [(6, .int 1), (5, .int 0), (4, .int 0), (3, .ref 153), (2, .ref 66), (1, .ref 64), (0, .ref 63)], [.ref 66], (jzv304 b0 b1 b2 b3)) : jS)) rfl ?_
  refine jl_c (t := 244) (as := [.ref 66]) (V := (jzv304 b0 b1 b2 b3)) (r := (.inl (some (.int 0)), (jzv304 b0 b1 b2 b3))) (S' := ((157, [(6, .int 1), (5, .int 0), (4, .int 0), (3, .ref 153), (2, .ref 66), (1, .ref 64), (0, .ref 63)], [.int 0], (jzv304 b0 b1 b2 b3)) : jS)) rfl (jzl604 xs hop b0 b1 b2 b3 e0 e1 e2 e3 g0 g1 g2 g3 h0 h1 h2 h3) rfl ?_
  refine jl_s (S' := ((159, [(6, .int 1), (5, .int 0), (4, .int 0), (3, .ref 153), (2, .ref 66), (1, .ref 64), (0, .ref 63)], [.int 0, .int 0], (jzv304 b0 b1 b2 b3)) : jS)) rfl ?_
  refine jl_s (S' := ((164, [(6, .int 1), (5, .int 0), (4, .int 0), (3, .ref 153), (2, .ref 66), (1, .ref 64), (0, .ref 63)], [], (jzv304 b0 b1 b2 b3)) : jS)) rfl ?_
  refine jl_s (S' := ((166, [(6, .int 1), (5, .int 0), (4, .int 0), (3, .ref 153), (2, .ref 66), (1, .ref 64), (0, .ref 63)], [.int 0], (jzv304 b0 b1 b2 b3)) : jS)) rfl ?_
  refine jl_s (S' := ((169, [(6, .int 1), (5, .int 0), (4, .int 0), (3, .ref 153), (2, .ref 66), (1, .ref 64), (0, .ref 63)], [], (jzv304 b0 b1 b2 b3)) : jS)) rfl ?_
  refine jl_s (S' := ((170, [(6, .int 1), (5, .int 0), (4, .int 0), (3, .ref 153), (2, .ref 66), (1, .ref 64), (0, .ref 63)], [.ref 153], (jzv304 b0 b1 b2 b3)) : jS)) rfl ?_
  refine jl_s (S' := ((171, [(6, .int 1), (5, .int 0), (4, .int 0), (3, .ref 153), (2, .ref 66), (1, .ref 64), (0, .ref 63)], [.int 0, .ref 153], (jzv304 b0 b1 b2 b3)) : jS)) rfl ?_
  refine jl_s (S' := ((172, [(6, .int 1), (5, .int 0), (4, .int 0), (3, .ref 153), (2, .ref 66), (1, .ref 64), (0, .ref 63)], [.long 1], (jzv304 b0 b1 b2 b3)) : jS)) rfl ?_
  refine jl_s (S' := ((174, [(6, .int 1), (5, .int 0), (4, .int 0), (3, .ref 153), (2, .ref 66), (1, .ref 64), (0, .ref 63)], [.int 1, .long 1], (jzv304 b0 b1 b2 b3)) : jS)) rfl ?_
  refine jl_s (S' := ((175, [(6, .int 1), (5, .int 0), (4, .int 0), (3, .ref 153), (2, .ref 66), (1, .ref 64), (0, .ref 63)], [.long 1, .long 1], (jzv304 b0 b1 b2 b3)) : jS)) rfl ?_
  refine jl_s (S' := ((176, [(6, .int 1), (5, .int 0), (4, .int 0), (3, .ref 153), (2, .ref 66), (1, .ref 64), (0, .ref 63)], [.int 0], (jzv304 b0 b1 b2 b3)) : jS)) rfl ?_
  refine jl_s (S' := ((181, [(6, .int 1), (5, .int 0), (4, .int 0), (3, .ref 153), (2, .ref 66), (1, .ref 64), (0, .ref 63)], [], (jzv304 b0 b1 b2 b3)) : jS)) rfl ?_
  refine jl_s (S' := ((1193, [(6, .int 1), (5, .int 0), (4, .int 0), (3, .ref 153), (2, .ref 66), (1, .ref 64), (0, .ref 63)], [], (jzv304 b0 b1 b2 b3)) : jS)) rfl ?_
  refine jl_s (S' := ((1196, [(4, .int 4), (6, .int 1), (5, .int 0), (3, .ref 153), (2, .ref 66), (1, .ref 64), (0, .ref 63)], [], (jzv304 b0 b1 b2 b3)) : jS)) rfl ?_
  refine jl_s (S' := ((23, [(4, .int 4), (6, .int 1), (5, .int 0), (3, .ref 153), (2, .ref 66), (1, .ref 64), (0, .ref 63)], [], (jzv304 b0 b1 b2 b3)) : jS)) rfl ?_
  refine jl_s (S' := ((25, [(4, .int 4), (6, .int 1), (5, .int 0), (3, .ref 153), (2, .ref 66), (1, .ref 64), (0, .ref 63)], [.int 4], (jzv304 b0 b1 b2 b3)) : jS)) rfl ?_
  refine jl_s (S' := ((26, [(4, .int 4), (6, .int 1), (5, .int 0), (3, .ref 153), (2, .ref 66), (1, .ref 64), (0, .ref 63)], [.ref 63, .int 4], (jzv304 b0 b1 b2 b3)) : jS)) rfl ?_
  refine jl_s (S' := ((27, [(4, .int 4), (6, .int 1), (5, .int 0), (3, .ref 153), (2, .ref 66), (1, .ref 64), (0, .ref 63)], [.int 4, .int 4], (jzv304 b0 b1 b2 b3)) : jS)) rfl ?_
  refine jl_s (S' := ((28, [(4, .int 4), (6, .int 1), (5, .int 0), (3, .ref 153), (2, .ref 66), (1, .ref 64), (0, .ref 63)], [.int 4, .int 4, .int 4], (jzv304 b0 b1 b2 b3)) : jS)) rfl ?_
  refine jl_s (S' := ((29, [(4, .int 4), (6, .int 1), (5, .int 0), (3, .ref 153), (2, .ref 66), (1, .ref 64), (0, .ref 63)], [.int 0, .int 4], (jzv304 b0 b1 b2 b3)) : jS)) rfl ?_
  refine jl_s (S' := ((1199, [(4, .int 4), (6, .int 1), (5, .int 0), (3, .ref 153), (2, .ref 66), (1, .ref 64), (0, .ref 63)], [], (jzv304 b0 b1 b2 b3)) : jS)) rfl ?_
  refine jl_s (S' := ((1200, [(4, .int 4), (6, .int 1), (5, .int 0), (3, .ref 153), (2, .ref 66), (1, .ref 64), (0, .ref 63)], [.int 1], (jzv304 b0 b1 b2 b3)) : jS)) rfl ?_
  exact jl_r (r := (.inl (some (.int 1)), (jzv304 b0 b1 b2 b3))) rfl
-- op 0 ZVZZ: jzl605
def jzv305 (b0 b1 b2 b3 : Int32) : jH := [jzc185, (jzc187 b0 b1 b2 b3), jzc117, jzc7, jzc9, jzc9, jzc9, jzc9, jzc9, jzc17, jzc19, jzc19, jzc19, jzc19, jzc19, jzc19, jzc19, jzc19, jzc28, jzc28, jzc28, jzc28, jzc28, jzc28, jzc28, jzc28, jzc28, jzc28, jzc28, jzc28, jzc28, jzc28, jzc43, jzc43, jzc43, jzc43, jzc43, jzc49, jzc49, jzc52, jzc52, jzc52, jzc56, jzc56, jzc59, jzc56, jzc62, jzc28, jzc28, jzc28, jzc28, jzc28, jzc69, jzc71, jzc73, jzc43, jzc76, jzc52, jzc52, jzc80, jzc80, jzc80, jzc84, jzc52, jzc52, jzc52, jzc52, jzc52, jzc52, jzc52, jzc93, jzc93, jzc52, jzc52, jzc98, jzc100, jzc93, jzc52, jzc52, jzc52, jzc52, jzc107, jzc109, jzc111, jzc100, jzc100, jzc100, jzc111, jzc111, jzc204]
set_option maxHeartbeats 4000000 in
set_option maxRecDepth 100000 in
theorem jzl606 (xs : Nat → Int32) (hop : xs 0 &&& 31 = 0) (b0 b1 b2 b3 : Int32) (e0 : ((Int32.toUInt32 (xs 1) >>> (Int32.toUInt32 0 &&& Int32.toUInt32 31)).toInt32) &&& 255 = b0) (e1 : ((Int32.toUInt32 (xs 1) >>> (Int32.toUInt32 8 &&& Int32.toUInt32 31)).toInt32) &&& 255 = b1) (e2 : ((Int32.toUInt32 (xs 1) >>> (Int32.toUInt32 16 &&& Int32.toUInt32 31)).toInt32) &&& 255 = b2) (e3 : ((Int32.toUInt32 (xs 1) >>> (Int32.toUInt32 24 &&& Int32.toUInt32 31)).toInt32) &&& 255 = b3) (g0 : ((xs 1) >>> (0 &&& 31)) &&& 255 = b0) (g1 : ((xs 1) >>> (8 &&& 31)) &&& 255 = b1) (g2 : ((xs 1) >>> (16 &&& 31)) &&& 255 = b2) (g3 : ((xs 1) >>> (24 &&& 31)) &&& 255 = b3) (h0 : jbz b0) (h1 : jbv b1) (h2 : jbz b2) (h3 : jbv b3) : jRun ((4, xs) : jX) 2000 39 0 [.ref 64, .int (xs 1), .ref 153] jzv181 = some (.inl (some (.int 0)), (jzv305 b0 b1 b2 b3)) := by
  refine jr_run (e := jm0) rfl (Nat.le_of_ble_eq_true rfl) ?_
  refine jl_s (S' := ((1, [(0, .ref 64), (1, .int (xs 1)), (2, .ref 153)], [.ref 153], jzv181) : jS)) rfl ?_
  refine jl_s (S' := ((2, [(0, .ref 64), (1, .int (xs 1)), (2, .ref 153)], [.int 0, .ref 153], jzv181) : jS)) rfl ?_
  refine jl_s (S' := ((3, [(0, .ref 64), (1, .int (xs 1)), (2, .ref 153)], [.ref 64, .int 0, .ref 153], jzv181) : jS)) rfl ?_
  refine jl_s (S' := ((4, [(0, .ref 64), (1, .int (xs 1)), (2, .ref 153)], [.int (xs 1), .ref 64, .int 0, .ref 153], jzv181) : jS)) rfl ?_
  refine jl_c (t := 20) (as := [.ref 64, .int (xs 1)]) (V := jzv181) (r := (.inl (some (.int 2)), (jzv270 b0 b1 b2 b3))) (S' := ((7, [(0, .ref 64), (1, .int (xs 1)), (2, .ref 153)], [.int 2, .int 0, .ref 153], (jzv270 b0 b1 b2 b3)) : jS)) rfl (jzcp_ZVZV xs b0 b1 b2 b3 e0 e1 e2 e3 h0 h1 h2 h3 ) rfl ?_
  refine jl_s (S' := ((8, [(0, .ref 64), (1, .int (xs 1)), (2, .ref 153)], [.long 2, .int 0, .ref 153], (jzv270 b0 b1 b2 b3)) : jS)) rfl ?_
  refine jl_s (S' := ((9, [(0, .ref 64), (1, .int (xs 1)), (2, .ref 153)], [], (jzv305 b0 b1 b2 b3)) : jS)) rfl ?_
  refine jl_s (S' := ((18, [(0, .ref 64), (1, .int (xs 1)), (2, .ref 153)], [], (jzv305 b0 b1 b2 b3)) : jS)) rfl ?_
  refine jl_s (S' := ((19, [(0, .ref 64), (1, .int (xs 1)), (2, .ref 153)], [.int 0], (jzv305 b0 b1 b2 b3)) : jS)) rfl ?_
  exact jl_r (r := (.inl (some (.int 0)), (jzv305 b0 b1 b2 b3))) rfl
set_option maxHeartbeats 4000000 in
set_option maxRecDepth 100000 in
theorem jzl607 (xs : Nat → Int32) (b0 b1 b2 b3 : Int32) : jRun ((4, xs) : jX) 2000 38 245 [.ref 66, .int 0, .int 0, .int 0] (jzv305 b0 b1 b2 b3) = some (.inl (some (.int 0)), (jzv305 b0 b1 b2 b3)) := by
  refine jr_run (e := jm245) rfl (Nat.le_of_ble_eq_true rfl) ?_
  refine jl_s (S' := ((1, [(0, .ref 66), (1, .int 0), (2, .int 0), (3, .int 0)], [.ref 66], (jzv305 b0 b1 b2 b3)) : jS)) rfl ?_
  refine jl_s (S' := ((2, [(0, .ref 66), (1, .int 0), (2, .int 0), (3, .int 0)], [.int 0, .ref 66], (jzv305 b0 b1 b2 b3)) : jS)) rfl ?_
  refine jl_s (S' := ((9, [(0, .ref 66), (1, .int 0), (2, .int 0), (3, .int 0)], [.ref 66], (jzv305 b0 b1 b2 b3)) : jS)) rfl ?_
  refine jl_s (S' := ((10, [(0, .ref 66), (1, .int 0), (2, .int 0), (3, .int 0)], [.int 0, .ref 66], (jzv305 b0 b1 b2 b3)) : jS)) rfl ?_
  refine jl_s (S' := ((17, [(0, .ref 66), (1, .int 0), (2, .int 0), (3, .int 0)], [.ref 66], (jzv305 b0 b1 b2 b3)) : jS)) rfl ?_
  refine jl_s (S' := ((18, [(0, .ref 66), (1, .int 0), (2, .int 0), (3, .int 0)], [.int 0, .ref 66], (jzv305 b0 b1 b2 b3)) : jS)) rfl ?_
  refine jl_s (S' := ((25, [(0, .ref 66), (1, .int 0), (2, .int 0), (3, .int 0)], [.ref 66], (jzv305 b0 b1 b2 b3)) : jS)) rfl ?_
  refine jl_s (S' := ((26, [(0, .ref 66), (1, .int 0), (2, .int 0), (3, .int 0)], [.int 0, .ref 66], (jzv305 b0 b1 b2 b3)) : jS)) rfl ?_
  refine jl_s (S' := ((29, [(0, .ref 66), (1, .int 0), (2, .int 0), (3, .int 0)], [], (jzv305 b0 b1 b2 b3)) : jS)) rfl ?_
  refine jl_s (S' := ((30, [(0, .ref 66), (1, .int 0), (2, .int 0), (3, .int 0)], [.ref 66], (jzv305 b0 b1 b2 b3)) : jS)) rfl ?_
  refine jl_s (S' := ((33, [(0, .ref 66), (1, .int 0), (2, .int 0), (3, .int 0)], [.int 0], (jzv305 b0 b1 b2 b3)) : jS)) rfl ?_
  refine jl_s (S' := ((40, [(0, .ref 66), (1, .int 0), (2, .int 0), (3, .int 0)], [], (jzv305 b0 b1 b2 b3)) : jS)) rfl ?_
  refine jl_s (S' := ((41, [(0, .ref 66), (1, .int 0), (2, .int 0), (3, .int 0)], [.int 0], (jzv305 b0 b1 b2 b3)) : jS)) rfl ?_
  exact jl_r (r := (.inl (some (.int 0)), (jzv305 b0 b1 b2 b3))) rfl
set_option maxHeartbeats 4000000 in
set_option maxRecDepth 100000 in
theorem jzq609 (xs : Nat → Int32) (b0 b1 b2 b3 : Int32) {f : Nat} {q : jO × jH} (hq : jLoop (jRun ((4, xs) : jX) 2000 38) ((4, xs) : jX) jm248 f ((101, [(4, .int 0), (3, .int 2), (2, .int 0), (5, .int (b3)), (0, .ref 66), (1, .int (xs 1))], [], (jzv305 b0 b1 b2 b3)) : jS) = some q) : jLoop (jRun ((4, xs) : jX) 2000 38) ((4, xs) : jX) jm248 (f + 19) ((7, [(4, .int 32), (3, .int 2), (2, .int 0), (5, .int (b3)), (0, .ref 66), (1, .int (xs 1))], [], (jzv305 b0 b1 b2 b3)) : jS) = some q := by
  refine jl_s (S' := ((9, [(4, .int 32), (3, .int 2), (2, .int 0), (5, .int (b3)), (0, .ref 66), (1, .int (xs 1))], [.int 32], (jzv305 b0 b1 b2 b3)) : jS)) rfl ?_
  refine jl_s (S' := ((11, [(4, .int 32), (3, .int 2), (2, .int 0), (5, .int (b3)), (0, .ref 66), (1, .int (xs 1))], [.int 32, .int 32], (jzv305 b0 b1 b2 b3)) : jS)) rfl ?_
  refine jl_s (S' := ((66, [(4, .int 32), (3, .int 2), (2, .int 0), (5, .int (b3)), (0, .ref 66), (1, .int (xs 1))], [], (jzv305 b0 b1 b2 b3)) : jS)) rfl ?_
  refine jl_s (S' := ((67, [(4, .int 32), (3, .int 2), (2, .int 0), (5, .int (b3)), (0, .ref 66), (1, .int (xs 1))], [.ref 66], (jzv305 b0 b1 b2 b3)) : jS)) rfl ?_
  refine jl_s (S' := ((68, [(4, .int 32), (3, .int 2), (2, .int 0), (5, .int (b3)), (0, .ref 66), (1, .int (xs 1))], [.int 0, .ref 66], (jzv305 b0 b1 b2 b3)) : jS)) rfl ?_
  refine jl_s (S' := ((69, [(4, .int 32), (3, .int 2), (2, .int 0), (5, .int (b3)), (0, .ref 66), (1, .int (xs 1))], [.int 0, .int 0, .ref 66], (jzv305 b0 b1 b2 b3)) : jS)) rfl ?_
  refine jl_s (S' := ((72, [(4, .int 32), (3, .int 2), (2, .int 0), (5, .int (b3)), (0, .ref 66), (1, .int (xs 1))], [.int 0, .ref 66], (jzv305 b0 b1 b2 b3)) : jS)) rfl ?_
  refine jl_s (S' := ((73, [(4, .int 32), (3, .int 2), (2, .int 0), (5, .int (b3)), (0, .ref 66), (1, .int (xs 1))], [.ref 66, .int 0, .ref 66], (jzv305 b0 b1 b2 b3)) : jS)) rfl ?_
  refine jl_s (S' := ((76, [(4, .int 32), (3, .int 2), (2, .int 0), (5, .int (b3)), (0, .ref 66), (1, .int (xs 1))], [.int 0, .int 0, .ref 66], (jzv305 b0 b1 b2 b3)) : jS)) rfl ?_
  refine jl_s (S' := ((77, [(4, .int 32), (3, .int 2), (2, .int 0), (5, .int (b3)), (0, .ref 66), (1, .int (xs 1))], [.int 2, .int 0, .int 0, .ref 66], (jzv305 b0 b1 b2 b3)) : jS)) rfl ?_
  refine jl_s (S' := ((78, [(4, .int 32), (3, .int 2), (2, .int 0), (5, .int (b3)), (0, .ref 66), (1, .int (xs 1))], [.int 2, .int 0, .ref 66], (jzv305 b0 b1 b2 b3)) : jS)) rfl ?_
  refine jl_s (S' := ((81, [(4, .int 32), (3, .int 2), (2, .int 0), (5, .int (b3)), (0, .ref 66), (1, .int (xs 1))], [.int 3000, .int 2, .int 0, .ref 66], (jzv305 b0 b1 b2 b3)) : jS)) rfl ?_
  refine jl_s (S' := ((88, [(4, .int 32), (3, .int 2), (2, .int 0), (5, .int (b3)), (0, .ref 66), (1, .int (xs 1))], [.int 0, .ref 66], (jzv305 b0 b1 b2 b3)) : jS)) rfl ?_
  refine jl_s (S' := ((89, [(4, .int 32), (3, .int 2), (2, .int 0), (5, .int (b3)), (0, .ref 66), (1, .int (xs 1))], [.int 0, .int 0, .ref 66], (jzv305 b0 b1 b2 b3)) : jS)) rfl ?_
  refine jl_s (S' := ((90, [(4, .int 32), (3, .int 2), (2, .int 0), (5, .int (b3)), (0, .ref 66), (1, .int (xs 1))], [.int 0, .int 0, .int 0, .ref 66], (jzv305 b0 b1 b2 b3)) : jS)) rfl ?_
  refine jl_c (t := 245) (as := [.ref 66, .int 0, .int 0, .int 0]) (V := (jzv305 b0 b1 b2 b3)) (r := (.inl (some (.int 0)), (jzv305 b0 b1 b2 b3))) (S' := ((93, [(4, .int 32), (3, .int 2), (2, .int 0), (5, .int (b3)), (0, .ref 66), (1, .int (xs 1))], [.int 0], (jzv305 b0 b1 b2 b3)) : jS)) rfl (jzl607 xs b0 b1 b2 b3) rfl ?_
  refine jl_s (S' := ((98, [(4, .int 32), (3, .int 2), (2, .int 0), (5, .int (b3)), (0, .ref 66), (1, .int (xs 1))], [], (jzv305 b0 b1 b2 b3)) : jS)) rfl ?_
  refine jl_s (S' := ((99, [(4, .int 32), (3, .int 2), (2, .int 0), (5, .int (b3)), (0, .ref 66), (1, .int (xs 1))], [.int 0], (jzv305 b0 b1 b2 b3)) : jS)) rfl ?_
  refine jl_s (S' := ((101, [(4, .int 0), (3, .int 2), (2, .int 0), (5, .int (b3)), (0, .ref 66), (1, .int (xs 1))], [], (jzv305 b0 b1 b2 b3)) : jS)) rfl ?_
  exact hq
set_option maxHeartbeats 4000000 in
set_option maxRecDepth 100000 in
theorem jzq611 (xs : Nat → Int32) (b0 b1 b2 b3 : Int32) (e : ((xs 1) >>> (0 &&& 31)) &&& 255 = b0) (h : jbz b0) {f : Nat} {q : jO × jH} (hq : jLoop (jRun ((4, xs) : jX) 2000 38) ((4, xs) : jX) jm248 f ((101, [(4, .int 8), (5, .int (b0)), (3, .int 2), (2, .int 0), (0, .ref 66), (1, .int (xs 1))], [], (jzv305 b0 b1 b2 b3)) : jS) = some q) : jLoop (jRun ((4, xs) : jX) 2000 38) ((4, xs) : jX) jm248 (f + 13) ((101, [(4, .int 0), (3, .int 2), (2, .int 0), (5, .int (b3)), (0, .ref 66), (1, .int (xs 1))], [], (jzv305 b0 b1 b2 b3)) : jS) = some q := by
  refine jl_s (S' := ((103, [(4, .int 0), (3, .int 2), (2, .int 0), (5, .int (b3)), (0, .ref 66), (1, .int (xs 1))], [.int 0], (jzv305 b0 b1 b2 b3)) : jS)) rfl ?_
  refine jl_s (S' := ((105, [(4, .int 0), (3, .int 2), (2, .int 0), (5, .int (b3)), (0, .ref 66), (1, .int (xs 1))], [.int 32, .int 0], (jzv305 b0 b1 b2 b3)) : jS)) rfl ?_
  refine jl_s (S' := ((108, [(4, .int 0), (3, .int 2), (2, .int 0), (5, .int (b3)), (0, .ref 66), (1, .int (xs 1))], [], (jzv305 b0 b1 b2 b3)) : jS)) rfl ?_
  refine jl_s (S' := ((109, [(4, .int 0), (3, .int 2), (2, .int 0), (5, .int (b3)), (0, .ref 66), (1, .int (xs 1))], [.int (xs 1)], (jzv305 b0 b1 b2 b3)) : jS)) rfl ?_
  refine jl_s (S' := ((111, [(4, .int 0), (3, .int 2), (2, .int 0), (5, .int (b3)), (0, .ref 66), (1, .int (xs 1))], [.int 0, .int (xs 1)], (jzv305 b0 b1 b2 b3)) : jS)) rfl ?_
  refine jl_s (S' := ((112, [(4, .int 0), (3, .int 2), (2, .int 0), (5, .int (b3)), (0, .ref 66), (1, .int (xs 1))], [.int ((xs 1) >>> (0 &&& 31))], (jzv305 b0 b1 b2 b3)) : jS)) rfl ?_
  refine jl_s (S' := ((115, [(4, .int 0), (3, .int 2), (2, .int 0), (5, .int (b3)), (0, .ref 66), (1, .int (xs 1))], [.int 255, .int ((xs 1) >>> (0 &&& 31))], (jzv305 b0 b1 b2 b3)) : jS)) rfl ?_
  refine jl_s (S' := ((116, [(4, .int 0), (3, .int 2), (2, .int 0), (5, .int (b3)), (0, .ref 66), (1, .int (xs 1))], [.int (((xs 1) >>> (0 &&& 31)) &&& 255)], (jzv305 b0 b1 b2 b3)) : jS)) rfl ?_
  rw [e]
  refine jl_s (S' := ((118, [(5, .int (b0)), (4, .int 0), (3, .int 2), (2, .int 0), (0, .ref 66), (1, .int (xs 1))], [], (jzv305 b0 b1 b2 b3)) : jS)) rfl ?_
  refine jl_s (S' := ((120, [(5, .int (b0)), (4, .int 0), (3, .int 2), (2, .int 0), (0, .ref 66), (1, .int (xs 1))], [.int (b0)], (jzv305 b0 b1 b2 b3)) : jS)) rfl ?_
  refine jl_ift (e := jm248) (o := 24) rfl (h.1) (t := 144) rfl ?_
  refine jl_s (S' := ((147, [(4, .int 8), (5, .int (b0)), (3, .int 2), (2, .int 0), (0, .ref 66), (1, .int (xs 1))], [], (jzv305 b0 b1 b2 b3)) : jS)) rfl ?_
  refine jl_s (S' := ((101, [(4, .int 8), (5, .int (b0)), (3, .int 2), (2, .int 0), (0, .ref 66), (1, .int (xs 1))], [], (jzv305 b0 b1 b2 b3)) : jS)) rfl ?_
  exact hq
def jzv306 (b0 b1 b2 b3 : Int32) : jH := [jzc185, (jzc187 b0 b1 b2 b3), jzc117, (jzc207 b0 b1 b2 b3), jzc9, jzc9, jzc9, jzc9, jzc9, jzc17, jzc19, jzc19, jzc19, jzc19, jzc19, jzc19, jzc19, jzc19, jzc28, jzc28, jzc28, jzc28, jzc28, jzc28, jzc28, jzc28, jzc28, jzc28, jzc28, jzc28, jzc28, jzc28, jzc43, jzc43, jzc43, jzc43, jzc43, jzc49, jzc49, jzc52, jzc52, jzc52, jzc56, jzc56, jzc59, jzc56, jzc62, jzc28, jzc28, jzc28, jzc28, jzc28, jzc69, jzc71, jzc73, jzc43, jzc76, jzc52, jzc52, jzc80, jzc80, jzc80, jzc84, jzc52, jzc52, jzc52, jzc52, jzc52, jzc52, jzc52, jzc93, jzc93, jzc52, jzc52, jzc98, jzc100, jzc93, jzc52, jzc52, jzc52, jzc52, jzc107, jzc109, jzc111, jzc100, jzc100, jzc100, jzc111, jzc111, jzc204]
def jzv307 (b0 b1 b2 b3 : Int32) : jH := [jzc185, (jzc187 b0 b1 b2 b3), jzc202, (jzc207 b0 b1 b2 b3), jzc9, jzc9, jzc9, jzc9, jzc9, jzc17, jzc19, jzc19, jzc19, jzc19, jzc19, jzc19, jzc19, jzc19, jzc28, jzc28, jzc28, jzc28, jzc28, jzc28, jzc28, jzc28, jzc28, jzc28, jzc28, jzc28, jzc28, jzc28, jzc43, jzc43, jzc43, jzc43, jzc43, jzc49, jzc49, jzc52, jzc52, jzc52, jzc56, jzc56, jzc59, jzc56, jzc62, jzc28, jzc28, jzc28, jzc28, jzc28, jzc69, jzc71, jzc73, jzc43, jzc76, jzc52, jzc52, jzc80, jzc80, jzc80, jzc84, jzc52, jzc52, jzc52, jzc52, jzc52, jzc52, jzc52, jzc93, jzc93, jzc52, jzc52, jzc98, jzc100, jzc93, jzc52, jzc52, jzc52, jzc52, jzc107, jzc109, jzc111, jzc100, jzc100, jzc100, jzc111, jzc111, jzc204]
set_option maxHeartbeats 4000000 in
set_option maxRecDepth 100000 in
theorem jzq613 (xs : Nat → Int32) (b0 b1 b2 b3 : Int32) (e : ((xs 1) >>> (8 &&& 31)) &&& 255 = b1) (h : jbn b1) {f : Nat} {q : jO × jH} (hq : jLoop (jRun ((4, xs) : jX) 2000 38) ((4, xs) : jX) jm248 f ((101, [(4, .int 16), (5, .int (b1)), (3, .int 2), (2, .int 0), (0, .ref 66), (1, .int (xs 1))], [], (jzv307 b0 b1 b2 b3)) : jS) = some q) : jLoop (jRun ((4, xs) : jX) 2000 38) ((4, xs) : jX) jm248 (f + 25) ((101, [(4, .int 8), (5, .int (b0)), (3, .int 2), (2, .int 0), (0, .ref 66), (1, .int (xs 1))], [], (jzv305 b0 b1 b2 b3)) : jS) = some q := by
  refine jl_s (S' := ((103, [(4, .int 8), (5, .int (b0)), (3, .int 2), (2, .int 0), (0, .ref 66), (1, .int (xs 1))], [.int 8], (jzv305 b0 b1 b2 b3)) : jS)) rfl ?_
  refine jl_s (S' := ((105, [(4, .int 8), (5, .int (b0)), (3, .int 2), (2, .int 0), (0, .ref 66), (1, .int (xs 1))], [.int 32, .int 8], (jzv305 b0 b1 b2 b3)) : jS)) rfl ?_
  refine jl_s (S' := ((108, [(4, .int 8), (5, .int (b0)), (3, .int 2), (2, .int 0), (0, .ref 66), (1, .int (xs 1))], [], (jzv305 b0 b1 b2 b3)) : jS)) rfl ?_
  refine jl_s (S' := ((109, [(4, .int 8), (5, .int (b0)), (3, .int 2), (2, .int 0), (0, .ref 66), (1, .int (xs 1))], [.int (xs 1)], (jzv305 b0 b1 b2 b3)) : jS)) rfl ?_
  refine jl_s (S' := ((111, [(4, .int 8), (5, .int (b0)), (3, .int 2), (2, .int 0), (0, .ref 66), (1, .int (xs 1))], [.int 8, .int (xs 1)], (jzv305 b0 b1 b2 b3)) : jS)) rfl ?_
  refine jl_s (S' := ((112, [(4, .int 8), (5, .int (b0)), (3, .int 2), (2, .int 0), (0, .ref 66), (1, .int (xs 1))], [.int ((xs 1) >>> (8 &&& 31))], (jzv305 b0 b1 b2 b3)) : jS)) rfl ?_
  refine jl_s (S' := ((115, [(4, .int 8), (5, .int (b0)), (3, .int 2), (2, .int 0), (0, .ref 66), (1, .int (xs 1))], [.int 255, .int ((xs 1) >>> (8 &&& 31))], (jzv305 b0 b1 b2 b3)) : jS)) rfl ?_
  refine jl_s (S' := ((116, [(4, .int 8), (5, .int (b0)), (3, .int 2), (2, .int 0), (0, .ref 66), (1, .int (xs 1))], [.int (((xs 1) >>> (8 &&& 31)) &&& 255)], (jzv305 b0 b1 b2 b3)) : jS)) rfl ?_
  rw [e]
  refine jl_s (S' := ((118, [(5, .int (b1)), (4, .int 8), (3, .int 2), (2, .int 0), (0, .ref 66), (1, .int (xs 1))], [], (jzv305 b0 b1 b2 b3)) : jS)) rfl ?_
  refine jl_s (S' := ((120, [(5, .int (b1)), (4, .int 8), (3, .int 2), (2, .int 0), (0, .ref 66), (1, .int (xs 1))], [.int (b1)], (jzv305 b0 b1 b2 b3)) : jS)) rfl ?_
  refine jl_iff (e := jm248) (o := 24) rfl (h.1) ?_
  refine jl_s (S' := ((124, [(5, .int (b1)), (4, .int 8), (3, .int 2), (2, .int 0), (0, .ref 66), (1, .int (xs 1))], [.ref 66], (jzv305 b0 b1 b2 b3)) : jS)) rfl ?_
  refine jl_s (S' := ((127, [(5, .int (b1)), (4, .int 8), (3, .int 2), (2, .int 0), (0, .ref 66), (1, .int (xs 1))], [.ref 67], (jzv305 b0 b1 b2 b3)) : jS)) rfl ?_
  refine jl_s (S' := ((128, [(5, .int (b1)), (4, .int 8), (3, .int 2), (2, .int 0), (0, .ref 66), (1, .int (xs 1))], [.ref 66, .ref 67], (jzv305 b0 b1 b2 b3)) : jS)) rfl ?_
  refine jl_s (S' := ((131, [(5, .int (b1)), (4, .int 8), (3, .int 2), (2, .int 0), (0, .ref 66), (1, .int (xs 1))], [.int 0, .ref 67], (jzv305 b0 b1 b2 b3)) : jS)) rfl ?_
  refine jl_s (S' := ((133, [(5, .int (b1)), (4, .int 8), (3, .int 2), (2, .int 0), (0, .ref 66), (1, .int (xs 1))], [.int (b1), .int 0, .ref 67], (jzv305 b0 b1 b2 b3)) : jS)) rfl ?_
  refine jl_s (S' := ((134, [(5, .int (b1)), (4, .int 8), (3, .int 2), (2, .int 0), (0, .ref 66), (1, .int (xs 1))], [], (jzv306 b0 b1 b2 b3)) : jS)) rfl ?_
  refine jl_s (S' := ((135, [(5, .int (b1)), (4, .int 8), (3, .int 2), (2, .int 0), (0, .ref 66), (1, .int (xs 1))], [.ref 66], (jzv306 b0 b1 b2 b3)) : jS)) rfl ?_
  refine jl_s (S' := ((136, [(5, .int (b1)), (4, .int 8), (3, .int 2), (2, .int 0), (0, .ref 66), (1, .int (xs 1))], [.ref 66, .ref 66], (jzv306 b0 b1 b2 b3)) : jS)) rfl ?_
  refine jl_s (S' := ((139, [(5, .int (b1)), (4, .int 8), (3, .int 2), (2, .int 0), (0, .ref 66), (1, .int (xs 1))], [.int 0, .ref 66], (jzv306 b0 b1 b2 b3)) : jS)) rfl ?_
  refine jl_s (S' := ((140, [(5, .int (b1)), (4, .int 8), (3, .int 2), (2, .int 0), (0, .ref 66), (1, .int (xs 1))], [.int 1, .int 0, .ref 66], (jzv306 b0 b1 b2 b3)) : jS)) rfl ?_
  refine jl_s (S' := ((141, [(5, .int (b1)), (4, .int 8), (3, .int 2), (2, .int 0), (0, .ref 66), (1, .int (xs 1))], [.int 1, .ref 66], (jzv306 b0 b1 b2 b3)) : jS)) rfl ?_
  refine jl_s (S' := ((144, [(5, .int (b1)), (4, .int 8), (3, .int 2), (2, .int 0), (0, .ref 66), (1, .int (xs 1))], [], (jzv307 b0 b1 b2 b3)) : jS)) rfl ?_
  refine jl_s (S' := ((147, [(4, .int 16), (5, .int (b1)), (3, .int 2), (2, .int 0), (0, .ref 66), (1, .int (xs 1))], [], (jzv307 b0 b1 b2 b3)) : jS)) rfl ?_
  refine jl_s (S' := ((101, [(4, .int 16), (5, .int (b1)), (3, .int 2), (2, .int 0), (0, .ref 66), (1, .int (xs 1))], [], (jzv307 b0 b1 b2 b3)) : jS)) rfl ?_
  exact hq
set_option maxHeartbeats 4000000 in
set_option maxRecDepth 100000 in
theorem jzq615 (xs : Nat → Int32) (b0 b1 b2 b3 : Int32) (e : ((xs 1) >>> (16 &&& 31)) &&& 255 = b2) (h : jbz b2) {f : Nat} {q : jO × jH} (hq : jLoop (jRun ((4, xs) : jX) 2000 38) ((4, xs) : jX) jm248 f ((101, [(4, .int 24), (5, .int (b2)), (3, .int 2), (2, .int 0), (0, .ref 66), (1, .int (xs 1))], [], (jzv307 b0 b1 b2 b3)) : jS) = some q) : jLoop (jRun ((4, xs) : jX) 2000 38) ((4, xs) : jX) jm248 (f + 13) ((101, [(4, .int 16), (5, .int (b1)), (3, .int 2), (2, .int 0), (0, .ref 66), (1, .int (xs 1))], [], (jzv307 b0 b1 b2 b3)) : jS) = some q := by
  refine jl_s (S' := ((103, [(4, .int 16), (5, .int (b1)), (3, .int 2), (2, .int 0), (0, .ref 66), (1, .int (xs 1))], [.int 16], (jzv307 b0 b1 b2 b3)) : jS)) rfl ?_
  refine jl_s (S' := ((105, [(4, .int 16), (5, .int (b1)), (3, .int 2), (2, .int 0), (0, .ref 66), (1, .int (xs 1))], [.int 32, .int 16], (jzv307 b0 b1 b2 b3)) : jS)) rfl ?_
  refine jl_s (S' := ((108, [(4, .int 16), (5, .int (b1)), (3, .int 2), (2, .int 0), (0, .ref 66), (1, .int (xs 1))], [], (jzv307 b0 b1 b2 b3)) : jS)) rfl ?_
  refine jl_s (S' := ((109, [(4, .int 16), (5, .int (b1)), (3, .int 2), (2, .int 0), (0, .ref 66), (1, .int (xs 1))], [.int (xs 1)], (jzv307 b0 b1 b2 b3)) : jS)) rfl ?_
  refine jl_s (S' := ((111, [(4, .int 16), (5, .int (b1)), (3, .int 2), (2, .int 0), (0, .ref 66), (1, .int (xs 1))], [.int 16, .int (xs 1)], (jzv307 b0 b1 b2 b3)) : jS)) rfl ?_
  refine jl_s (S' := ((112, [(4, .int 16), (5, .int (b1)), (3, .int 2), (2, .int 0), (0, .ref 66), (1, .int (xs 1))], [.int ((xs 1) >>> (16 &&& 31))], (jzv307 b0 b1 b2 b3)) : jS)) rfl ?_
  refine jl_s (S' := ((115, [(4, .int 16), (5, .int (b1)), (3, .int 2), (2, .int 0), (0, .ref 66), (1, .int (xs 1))], [.int 255, .int ((xs 1) >>> (16 &&& 31))], (jzv307 b0 b1 b2 b3)) : jS)) rfl ?_
  refine jl_s (S' := ((116, [(4, .int 16), (5, .int (b1)), (3, .int 2), (2, .int 0), (0, .ref 66), (1, .int (xs 1))], [.int (((xs 1) >>> (16 &&& 31)) &&& 255)], (jzv307 b0 b1 b2 b3)) : jS)) rfl ?_
  rw [e]
  refine jl_s (S' := ((118, [(5, .int (b2)), (4, .int 16), (3, .int 2), (2, .int 0), (0, .ref 66), (1, .int (xs 1))], [], (jzv307 b0 b1 b2 b3)) : jS)) rfl ?_
  refine jl_s (S' := ((120, [(5, .int (b2)), (4, .int 16), (3, .int 2), (2, .int 0), (0, .ref 66), (1, .int (xs 1))], [.int (b2)], (jzv307 b0 b1 b2 b3)) : jS)) rfl ?_
  refine jl_ift (e := jm248) (o := 24) rfl (h.1) (t := 144) rfl ?_
  refine jl_s (S' := ((147, [(4, .int 24), (5, .int (b2)), (3, .int 2), (2, .int 0), (0, .ref 66), (1, .int (xs 1))], [], (jzv307 b0 b1 b2 b3)) : jS)) rfl ?_
  refine jl_s (S' := ((101, [(4, .int 24), (5, .int (b2)), (3, .int 2), (2, .int 0), (0, .ref 66), (1, .int (xs 1))], [], (jzv307 b0 b1 b2 b3)) : jS)) rfl ?_
  exact hq
def jzc208 (b0 b1 b2 b3 : Int32) : jC := .inl (1, 3000, .inl (upd (upd (fun _ => 0) 0 (b1)) 1 (b3)))
def jzv308 (b0 b1 b2 b3 : Int32) : jH := [jzc185, (jzc187 b0 b1 b2 b3), jzc202, (jzc208 b0 b1 b2 b3), jzc9, jzc9, jzc9, jzc9, jzc9, jzc17, jzc19, jzc19, jzc19, jzc19, jzc19, jzc19, jzc19, jzc19, jzc28, jzc28, jzc28, jzc28, jzc28, jzc28, jzc28, jzc28, jzc28, jzc28, jzc28, jzc28, jzc28, jzc28, jzc43, jzc43, jzc43, jzc43, jzc43, jzc49, jzc49, jzc52, jzc52, jzc52, jzc56, jzc56, jzc59, jzc56, jzc62, jzc28, jzc28, jzc28, jzc28, jzc28, jzc69, jzc71, jzc73, jzc43, jzc76, jzc52, jzc52, jzc80, jzc80, jzc80, jzc84, jzc52, jzc52, jzc52, jzc52, jzc52, jzc52, jzc52, jzc93, jzc93, jzc52, jzc52, jzc98, jzc100, jzc93, jzc52, jzc52, jzc52, jzc52, jzc107, jzc109, jzc111, jzc100, jzc100, jzc100, jzc111, jzc111, jzc204]
def jzv309 (b0 b1 b2 b3 : Int32) : jH := [jzc185, (jzc187 b0 b1 b2 b3), jzc206, (jzc208 b0 b1 b2 b3), jzc9, jzc9, jzc9, jzc9, jzc9, jzc17, jzc19, jzc19, jzc19, jzc19, jzc19, jzc19, jzc19, jzc19, jzc28, jzc28, jzc28, jzc28, jzc28, jzc28, jzc28, jzc28, jzc28, jzc28, jzc28, jzc28, jzc28, jzc28, jzc43, jzc43, jzc43, jzc43, jzc43, jzc49, jzc49, jzc52, jzc52, jzc52, jzc56, jzc56, jzc59, jzc56, jzc62, jzc28, jzc28, jzc28, jzc28, jzc28, jzc69, jzc71, jzc73, jzc43, jzc76, jzc52, jzc52, jzc80, jzc80, jzc80, jzc84, jzc52, jzc52, jzc52, jzc52, jzc52, jzc52, jzc52, jzc93, jzc93, jzc52, jzc52, jzc98, jzc100, jzc93, jzc52, jzc52, jzc52, jzc52, jzc107, jzc109, jzc111, jzc100, jzc100, jzc100, jzc111, jzc111, jzc204]
set_option maxHeartbeats 4000000 in
set_option maxRecDepth 100000 in
theorem jzq617 (xs : Nat → Int32) (b0 b1 b2 b3 : Int32) (e : ((xs 1) >>> (24 &&& 31)) &&& 255 = b3) (h : jbn b3) {f : Nat} {q : jO × jH} (hq : jLoop (jRun ((4, xs) : jX) 2000 38) ((4, xs) : jX) jm248 f ((101, [(4, .int 32), (5, .int (b3)), (3, .int 2), (2, .int 0), (0, .ref 66), (1, .int (xs 1))], [], (jzv309 b0 b1 b2 b3)) : jS) = some q) : jLoop (jRun ((4, xs) : jX) 2000 38) ((4, xs) : jX) jm248 (f + 25) ((101, [(4, .int 24), (5, .int (b2)), (3, .int 2), (2, .int 0), (0, .ref 66), (1, .int (xs 1))], [], (jzv307 b0 b1 b2 b3)) : jS) = some q := by
  refine jl_s (S' := ((103, [(4, .int 24), (5, .int (b2)), (3, .int 2), (2, .int 0), (0, .ref 66), (1, .int (xs 1))], [.int 24], (jzv307 b0 b1 b2 b3)) : jS)) rfl ?_
  refine jl_s (S' := ((105, [(4, .int 24), (5, .int (b2)), (3, .int 2), (2, .int 0), (0, .ref 66), (1, .int (xs 1))], [.int 32, .int 24], (jzv307 b0 b1 b2 b3)) : jS)) rfl ?_
  refine jl_s (S' := ((108, [(4, .int 24), (5, .int (b2)), (3, .int 2), (2, .int 0), (0, .ref 66), (1, .int (xs 1))], [], (jzv307 b0 b1 b2 b3)) : jS)) rfl ?_
  refine jl_s (S' := ((109, [(4, .int 24), (5, .int (b2)), (3, .int 2), (2, .int 0), (0, .ref 66), (1, .int (xs 1))], [.int (xs 1)], (jzv307 b0 b1 b2 b3)) : jS)) rfl ?_
  refine jl_s (S' := ((111, [(4, .int 24), (5, .int (b2)), (3, .int 2), (2, .int 0), (0, .ref 66), (1, .int (xs 1))], [.int 24, .int (xs 1)], (jzv307 b0 b1 b2 b3)) : jS)) rfl ?_
  refine jl_s (S' := ((112, [(4, .int 24), (5, .int (b2)), (3, .int 2), (2, .int 0), (0, .ref 66), (1, .int (xs 1))], [.int ((xs 1) >>> (24 &&& 31))], (jzv307 b0 b1 b2 b3)) : jS)) rfl ?_
  refine jl_s (S' := ((115, [(4, .int 24), (5, .int (b2)), (3, .int 2), (2, .int 0), (0, .ref 66), (1, .int (xs 1))], [.int 255, .int ((xs 1) >>> (24 &&& 31))], (jzv307 b0 b1 b2 b3)) : jS)) rfl ?_
  refine jl_s (S' := ((116, [(4, .int 24), (5, .int (b2)), (3, .int 2), (2, .int 0), (0, .ref 66), (1, .int (xs 1))], [.int (((xs 1) >>> (24 &&& 31)) &&& 255)], (jzv307 b0 b1 b2 b3)) : jS)) rfl ?_
  rw [e]
  refine jl_s (S' := ((118, [(5, .int (b3)), (4, .int 24), (3, .int 2), (2, .int 0), (0, .ref 66), (1, .int (xs 1))], [], (jzv307 b0 b1 b2 b3)) : jS)) rfl ?_
  refine jl_s (S' := ((120, [(5, .int (b3)), (4, .int 24), (3, .int 2), (2, .int 0), (0, .ref 66), (1, .int (xs 1))], [.int (b3)], (jzv307 b0 b1 b2 b3)) : jS)) rfl ?_
  refine jl_iff (e := jm248) (o := 24) rfl (h.1) ?_
  refine jl_s (S' := ((124, [(5, .int (b3)), (4, .int 24), (3, .int 2), (2, .int 0), (0, .ref 66), (1, .int (xs 1))], [.ref 66], (jzv307 b0 b1 b2 b3)) : jS)) rfl ?_
  refine jl_s (S' := ((127, [(5, .int (b3)), (4, .int 24), (3, .int 2), (2, .int 0), (0, .ref 66), (1, .int (xs 1))], [.ref 67], (jzv307 b0 b1 b2 b3)) : jS)) rfl ?_
  refine jl_s (S' := ((128, [(5, .int (b3)), (4, .int 24), (3, .int 2), (2, .int 0), (0, .ref 66), (1, .int (xs 1))], [.ref 66, .ref 67], (jzv307 b0 b1 b2 b3)) : jS)) rfl ?_
  refine jl_s (S' := ((131, [(5, .int (b3)), (4, .int 24), (3, .int 2), (2, .int 0), (0, .ref 66), (1, .int (xs 1))], [.int 1, .ref 67], (jzv307 b0 b1 b2 b3)) : jS)) rfl ?_
  refine jl_s (S' := ((133, [(5, .int (b3)), (4, .int 24), (3, .int 2), (2, .int 0), (0, .ref 66), (1, .int (xs 1))], [.int (b3), .int 1, .ref 67], (jzv307 b0 b1 b2 b3)) : jS)) rfl ?_
  refine jl_s (S' := ((134, [(5, .int (b3)), (4, .int 24), (3, .int 2), (2, .int 0), (0, .ref 66), (1, .int (xs 1))], [], (jzv308 b0 b1 b2 b3)) : jS)) rfl ?_
  refine jl_s (S' := ((135, [(5, .int (b3)), (4, .int 24), (3, .int 2), (2, .int 0), (0, .ref 66), (1, .int (xs 1))], [.ref 66], (jzv308 b0 b1 b2 b3)) : jS)) rfl ?_
  refine jl_s (S' := ((136, [(5, .int (b3)), (4, .int 24), (3, .int 2), (2, .int 0), (0, .ref 66), (1, .int (xs 1))], [.ref 66, .ref 66], (jzv308 b0 b1 b2 b3)) : jS)) rfl ?_
  refine jl_s (S' := ((139, [(5, .int (b3)), (4, .int 24), (3, .int 2), (2, .int 0), (0, .ref 66), (1, .int (xs 1))], [.int 1, .ref 66], (jzv308 b0 b1 b2 b3)) : jS)) rfl ?_
  refine jl_s (S' := ((140, [(5, .int (b3)), (4, .int 24), (3, .int 2), (2, .int 0), (0, .ref 66), (1, .int (xs 1))], [.int 1, .int 1, .ref 66], (jzv308 b0 b1 b2 b3)) : jS)) rfl ?_
  refine jl_s (S' := ((141, [(5, .int (b3)), (4, .int 24), (3, .int 2), (2, .int 0), (0, .ref 66), (1, .int (xs 1))], [.int 2, .ref 66], (jzv308 b0 b1 b2 b3)) : jS)) rfl ?_
  refine jl_s (S' := ((144, [(5, .int (b3)), (4, .int 24), (3, .int 2), (2, .int 0), (0, .ref 66), (1, .int (xs 1))], [], (jzv309 b0 b1 b2 b3)) : jS)) rfl ?_
  refine jl_s (S' := ((147, [(4, .int 32), (5, .int (b3)), (3, .int 2), (2, .int 0), (0, .ref 66), (1, .int (xs 1))], [], (jzv309 b0 b1 b2 b3)) : jS)) rfl ?_
  refine jl_s (S' := ((101, [(4, .int 32), (5, .int (b3)), (3, .int 2), (2, .int 0), (0, .ref 66), (1, .int (xs 1))], [], (jzv309 b0 b1 b2 b3)) : jS)) rfl ?_
  exact hq
set_option maxHeartbeats 4000000 in
set_option maxRecDepth 100000 in
theorem jzq619 (xs : Nat → Int32) (b0 b1 b2 b3 : Int32) {f : Nat} : jLoop (jRun ((4, xs) : jX) 2000 38) ((4, xs) : jX) jm248 (f + 6) ((101, [(4, .int 32), (5, .int (b3)), (3, .int 2), (2, .int 0), (0, .ref 66), (1, .int (xs 1))], [], (jzv309 b0 b1 b2 b3)) : jS) = some (.inl (some (.int 2)), (jzv309 b0 b1 b2 b3)) := by
  refine jl_s (S' := ((103, [(4, .int 32), (5, .int (b3)), (3, .int 2), (2, .int 0), (0, .ref 66), (1, .int (xs 1))], [.int 32], (jzv309 b0 b1 b2 b3)) : jS)) rfl ?_
  refine jl_s (S' := ((105, [(4, .int 32), (5, .int (b3)), (3, .int 2), (2, .int 0), (0, .ref 66), (1, .int (xs 1))], [.int 32, .int 32], (jzv309 b0 b1 b2 b3)) : jS)) rfl ?_
  refine jl_s (S' := ((150, [(4, .int 32), (5, .int (b3)), (3, .int 2), (2, .int 0), (0, .ref 66), (1, .int (xs 1))], [], (jzv309 b0 b1 b2 b3)) : jS)) rfl ?_
  refine jl_s (S' := ((151, [(4, .int 32), (5, .int (b3)), (3, .int 2), (2, .int 0), (0, .ref 66), (1, .int (xs 1))], [.ref 66], (jzv309 b0 b1 b2 b3)) : jS)) rfl ?_
  refine jl_s (S' := ((154, [(4, .int 32), (5, .int (b3)), (3, .int 2), (2, .int 0), (0, .ref 66), (1, .int (xs 1))], [.int 2], (jzv309 b0 b1 b2 b3)) : jS)) rfl ?_
  exact jl_r (r := (.inl (some (.int 2)), (jzv309 b0 b1 b2 b3))) rfl
set_option maxHeartbeats 4000000 in
set_option maxRecDepth 100000 in
theorem jzrp_ZVZV (xs : Nat → Int32) (b0 b1 b2 b3 : Int32) (e0 : ((xs 1) >>> (0 &&& 31)) &&& 255 = b0) (e1 : ((xs 1) >>> (8 &&& 31)) &&& 255 = b1) (e2 : ((xs 1) >>> (16 &&& 31)) &&& 255 = b2) (e3 : ((xs 1) >>> (24 &&& 31)) &&& 255 = b3) (h0 : jbz b0) (h1 : jbv b1) (h2 : jbz b2) (h3 : jbv b3) : jRun ((4, xs) : jX) 2000 39 248 [.ref 66, .int (xs 1)] (jzv305 b0 b1 b2 b3) = some (.inl (some (.int 2)), (jzv309 b0 b1 b2 b3)) := by
  refine jr_run (e := jm248) rfl (Nat.le_of_ble_eq_true rfl) ?_
  refine jzq506 xs b0 b1 b2 b3 _ ?_
  refine jzq508 xs b0 b1 b2 b3 _ e0 h0 ?_
  refine jzq588 xs b0 b1 b2 b3 _ e1 h1 ?_
  refine jzq590 xs b0 b1 b2 b3 _ e2 h2 ?_
  refine jzq570 xs b0 b1 b2 b3 _ e3 h3 ?_
  refine jzq609 xs b0 b1 b2 b3 ?_
  refine jzq611 xs b0 b1 b2 b3 e0 h0 ?_
  refine jzq613 xs b0 b1 b2 b3 e1 h1.1 ?_
  refine jzq615 xs b0 b1 b2 b3 e2 h2 ?_
  refine jzq617 xs b0 b1 b2 b3 e3 h3.1 ?_
  exact jzq619 xs b0 b1 b2 b3
set_option maxHeartbeats 4000000 in
set_option maxRecDepth 100000 in
theorem jzl620 (xs : Nat → Int32) (hop : xs 0 &&& 31 = 0) (b0 b1 b2 b3 : Int32) (e0 : ((Int32.toUInt32 (xs 1) >>> (Int32.toUInt32 0 &&& Int32.toUInt32 31)).toInt32) &&& 255 = b0) (e1 : ((Int32.toUInt32 (xs 1) >>> (Int32.toUInt32 8 &&& Int32.toUInt32 31)).toInt32) &&& 255 = b1) (e2 : ((Int32.toUInt32 (xs 1) >>> (Int32.toUInt32 16 &&& Int32.toUInt32 31)).toInt32) &&& 255 = b2) (e3 : ((Int32.toUInt32 (xs 1) >>> (Int32.toUInt32 24 &&& Int32.toUInt32 31)).toInt32) &&& 255 = b3) (g0 : ((xs 1) >>> (0 &&& 31)) &&& 255 = b0) (g1 : ((xs 1) >>> (8 &&& 31)) &&& 255 = b1) (g2 : ((xs 1) >>> (16 &&& 31)) &&& 255 = b2) (g3 : ((xs 1) >>> (24 &&& 31)) &&& 255 = b3) (h0 : jbz b0) (h1 : jbv b1) (h2 : jbz b2) (h3 : jbv b3) : jRun ((4, xs) : jX) 2000 39 244 [.ref 66] (jzv309 b0 b1 b2 b3) = some (.inl (some (.int 0)), (jzv309 b0 b1 b2 b3)) := by
  refine jr_run (e := jm244) rfl (Nat.le_of_ble_eq_true rfl) ?_
  refine jl_s (S' := ((1, [(0, .ref 66)], [.ref 66], (jzv309 b0 b1 b2 b3)) : jS)) rfl ?_
  refine jl_s (S' := ((4, [(0, .ref 66)], [.int 0], (jzv309 b0 b1 b2 b3)) : jS)) rfl ?_
  exact jl_r (r := (.inl (some (.int 0)), (jzv309 b0 b1 b2 b3))) rfl
set_option maxHeartbeats 4000000 in
set_option maxRecDepth 100000 in
theorem jzl621 (xs : Nat → Int32) (hop : xs 0 &&& 31 = 0) (b0 b1 b2 b3 : Int32) (e0 : ((Int32.toUInt32 (xs 1) >>> (Int32.toUInt32 0 &&& Int32.toUInt32 31)).toInt32) &&& 255 = b0) (e1 : ((Int32.toUInt32 (xs 1) >>> (Int32.toUInt32 8 &&& Int32.toUInt32 31)).toInt32) &&& 255 = b1) (e2 : ((Int32.toUInt32 (xs 1) >>> (Int32.toUInt32 16 &&& Int32.toUInt32 31)).toInt32) &&& 255 = b2) (e3 : ((Int32.toUInt32 (xs 1) >>> (Int32.toUInt32 24 &&& Int32.toUInt32 31)).toInt32) &&& 255 = b3) (g0 : ((xs 1) >>> (0 &&& 31)) &&& 255 = b0) (g1 : ((xs 1) >>> (8 &&& 31)) &&& 255 = b1) (g2 : ((xs 1) >>> (16 &&& 31)) &&& 255 = b2) (g3 : ((xs 1) >>> (24 &&& 31)) &&& 255 = b3) (h0 : jbz b0) (h1 : jbv b1) (h2 : jbz b2) (h3 : jbv b3) : jLoop (jRun ((4, xs) : jX) 2000 39) ((4, xs) : jX) jm18 1000 ((23, [(4, .int 0), (3, .ref 153), (2, .ref 66), (1, .ref 64), (0, .ref 63)], [], jzv181) : jS) = some (.inl (some (.int 1)), (jzv309 b0 b1 b2 b3)) := by
  refine jl_s (S' := ((25, [(4, .int 0), (3, .ref 153), (2, .ref 66), (1, .ref 64), (0, .ref 63)], [.int 0], jzv181) : jS)) rfl ?_
  refine jl_s (S' := ((26, [(4, .int 0), (3, .ref 153), (2, .ref 66), (1, .ref 64), (0, .ref 63)], [.ref 63, .int 0], jzv181) : jS)) rfl ?_
  refine jl_s (S' := ((27, [(4, .int 0), (3, .ref 153), (2, .ref 66), (1, .ref 64), (0, .ref 63)], [.int 4, .int 0], jzv181) : jS)) rfl ?_
  refine jl_s (S' := ((28, [(4, .int 0), (3, .ref 153), (2, .ref 66), (1, .ref 64), (0, .ref 63)], [.int 4, .int 4, .int 0], jzv181) : jS)) rfl ?_
  refine jl_s (S' := ((29, [(4, .int 0), (3, .ref 153), (2, .ref 66), (1, .ref 64), (0, .ref 63)], [.int 0, .int 0], jzv181) : jS)) rfl ?_
  refine jl_s (S' := ((32, [(4, .int 0), (3, .ref 153), (2, .ref 66), (1, .ref 64), (0, .ref 63)], [], jzv181) : jS)) rfl ?_
  refine jl_s (S' := ((33, [(4, .int 0), (3, .ref 153), (2, .ref 66), (1, .ref 64), (0, .ref 63)], [.ref 63], jzv181) : jS)) rfl ?_
  refine jl_s (S' := ((35, [(4, .int 0), (3, .ref 153), (2, .ref 66), (1, .ref 64), (0, .ref 63)], [.int 0, .ref 63], jzv181) : jS)) rfl ?_
  refine jl_s (S' := ((36, [(4, .int 0), (3, .ref 153), (2, .ref 66), (1, .ref 64), (0, .ref 63)], [.int (xs 0)], jzv181) : jS)) rfl ?_
  refine jl_s (S' := ((38, [(4, .int 0), (3, .ref 153), (2, .ref 66), (1, .ref 64), (0, .ref 63)], [.int 31, .int (xs 0)], jzv181) : jS)) rfl ?_
  refine jl_s (S' := ((39, [(4, .int 0), (3, .ref 153), (2, .ref 66), (1, .ref 64), (0, .ref 63)], [.int ((xs 0) &&& 31)], jzv181) : jS)) rfl ?_
  rw [hop]
  refine jl_s (S' := ((128, [(4, .int 0), (3, .ref 153), (2, .ref 66), (1, .ref 64), (0, .ref 63)], [], jzv181) : jS)) rfl ?_
  refine jl_s (S' := ((129, [(4, .int 0), (3, .ref 153), (2, .ref 66), (1, .ref 64), (0, .ref 63)], [.ref 64], jzv181) : jS)) rfl ?_
  refine jl_s (S' := ((130, [(4, .int 0), (3, .ref 153), (2, .ref 66), (1, .ref 64), (0, .ref 63)], [.ref 63, .ref 64], jzv181) : jS)) rfl ?_
  refine jl_s (S' := ((132, [(4, .int 0), (3, .ref 153), (2, .ref 66), (1, .ref 64), (0, .ref 63)], [.int 0, .ref 63, .ref 64], jzv181) : jS)) rfl ?_
  refine jl_s (S' := ((133, [(4, .int 0), (3, .ref 153), (2, .ref 66), (1, .ref 64), (0, .ref 63)], [.int 1, .int 0, .ref 63, .ref 64], jzv181) : jS)) rfl ?_
  refine jl_s (S' := ((134, [(4, .int 0), (3, .ref 153), (2, .ref 66), (1, .ref 64), (0, .ref 63)], [.int 1, .ref 63, .ref 64], jzv181) : jS)) rfl ?_
  refine jl_s (S' := ((135, [(4, .int 0), (3, .ref 153), (2, .ref 66), (1, .ref 64), (0, .ref 63)], [.int (xs 1), .ref 64], jzv181) : jS)) rfl ?_
  refine jl_s (S' := ((136, [(4, .int 0), (3, .ref 153), (2, .ref 66), (1, .ref 64), (0, .ref 63)], [.ref 153, .int (xs 1), .ref 64], jzv181) : jS)) rfl ?_
  refine jl_c (t := 0) (as := [.ref 64, .int (xs 1), .ref 153]) (V := jzv181) (r := (.inl (some (.int 0)), (jzv305 b0 b1 b2 b3))) (S' := ((139, [(4, .int 0), (3, .ref 153), (2, .ref 66), (1, .ref 64), (0, .ref 63)], [.int 0], (jzv305 b0 b1 b2 b3)) : jS)) rfl (jzl606 xs hop b0 b1 b2 b3 e0 e1 e2 e3 g0 g1 g2 g3 h0 h1 h2 h3) rfl ?_
  refine jl_s (S' := ((141, [(5, .int 0), (4, .int 0), (3, .ref 153), (2, .ref 66), (1, .ref 64), (0, .ref 63)], [], (jzv305 b0 b1 b2 b3)) : jS)) rfl ?_
  refine jl_s (S' := ((142, [(5, .int 0), (4, .int 0), (3, .ref 153), (2, .ref 66), (1, .ref 64), (0, .ref 63)], [.ref 66], (jzv305 b0 b1 b2 b3)) : jS)) rfl ?_
  refine jl_s (S' := ((143, [(5, .int 0), (4, .int 0), (3, .ref 153), (2, .ref 66), (1, .ref 64), (0, .ref 63)], [.ref 63, .ref 66], (jzv305 b0 b1 b2 b3)) : jS)) rfl ?_
  refine jl_s (S' := ((145, [(5, .int 0), (4, .int 0), (3, .ref 153), (2, .ref 66), (1, .ref 64), (0, .ref 63)], [.int 0, .ref 63, .ref 66], (jzv305 b0 b1 b2 b3)) : jS)) rfl ?_
  refine jl_s (S' := ((146, [(5, .int 0), (4, .int 0), (3, .ref 153), (2, .ref 66), (1, .ref 64), (0, .ref 63)], [.int 1, .int 0, .ref 63, .ref 66], (jzv305 b0 b1 b2 b3)) : jS)) rfl ?_
  refine jl_s (S' := ((147, [(5, .int 0), (4, .int 0), (3, .ref 153), (2, .ref 66), (1, .ref 64), (0, .ref 63)], [.int 1, .ref 63, .ref 66], (jzv305 b0 b1 b2 b3)) : jS)) rfl ?_
  refine jl_s (S' := ((148, [(5, .int 0), (4, .int 0), (3, .ref 153), (2, .ref 66), (1, .ref 64), (0, .ref 63)], [.int (xs 1), .ref 66], (jzv305 b0 b1 b2 b3)) : jS)) rfl ?_
  refine jl_c (t := 248) (as := [.ref 66, .int (xs 1)]) (V := (jzv305 b0 b1 b2 b3)) (r := (.inl (some (.int 2)), (jzv309 b0 b1 b2 b3))) (S' := ((151, [(5, .int 0), (4, .int 0), (3, .ref 153), (2, .ref 66), (1, .ref 64), (0, .ref 63)], [.int 2], (jzv309 b0 b1 b2 b3)) : jS)) rfl (jzrp_ZVZV xs b0 b1 b2 b3 g0 g1 g2 g3 h0 h1 h2 h3 ) rfl ?_
  refine jl_s (S' := ((153, [(6, .int 2), (5, .int 0), (4, .int 0), (3, .ref 153), (2, .ref 66), (1, .ref 64), (0, .ref 63)], [], (jzv309 b0 b1 b2 b3)) : jS)) rfl ?_
  refine jl_s (S' := ((154, [(6, .int 2), (5, .int 0), (4, .int 0), (3, .ref 153), (2, .ref 66), (1, .ref 64), (0, .ref 63)], [.ref 66], (jzv309 b0 b1 b2 b3)) : jS)) rfl ?_
  refine jl_c (t := 244) (as := [.ref 66]) (V := (jzv309 b0 b1 b2 b3)) (r := (.inl (some (.int 0)), (jzv309 b0 b1 b2 b3))) (S' := ((157, [(6, .int 2), (5, .int 0), (4, .int 0), (3, .ref 153), (2, .ref 66), (1, .ref 64), (0, .ref 63)], [.int 0], (jzv309 b0 b1 b2 b3)) : jS)) rfl (jzl620 xs hop b0 b1 b2 b3 e0 e1 e2 e3 g0 g1 g2 g3 h0 h1 h2 h3) rfl ?_
  refine jl_s (S' := ((159, [(6, .int 2), (5, .int 0), (4, .int 0), (3, .ref 153), (2, .ref 66), (1, .ref 64), (0, .ref 63)], [.int 0, .int 0], (jzv309 b0 b1 b2 b3)) : jS)) rfl ?_
  refine jl_s (S' := ((164, [(6, .int 2), (5, .int 0), (4, .int 0), (3, .ref 153), (2, .ref 66), (1, .ref 64), (0, .ref 63)], [], (jzv309 b0 b1 b2 b3)) : jS)) rfl ?_
  refine jl_s (S' := ((166, [(6, .int 2), (5, .int 0), (4, .int 0), (3, .ref 153), (2, .ref 66), (1, .ref 64), (0, .ref 63)], [.int 0], (jzv309 b0 b1 b2 b3)) : jS)) rfl ?_
  refine jl_s (S' := ((169, [(6, .int 2), (5, .int 0), (4, .int 0), (3, .ref 153), (2, .ref 66), (1, .ref 64), (0, .ref 63)], [], (jzv309 b0 b1 b2 b3)) : jS)) rfl ?_
  refine jl_s (S' := ((170, [(6, .int 2), (5, .int 0), (4, .int 0), (3, .ref 153), (2, .ref 66), (1, .ref 64), (0, .ref 63)], [.ref 153], (jzv309 b0 b1 b2 b3)) : jS)) rfl ?_
  refine jl_s (S' := ((171, [(6, .int 2), (5, .int 0), (4, .int 0), (3, .ref 153), (2, .ref 66), (1, .ref 64), (0, .ref 63)], [.int 0, .ref 153], (jzv309 b0 b1 b2 b3)) : jS)) rfl ?_
  refine jl_s (S' := ((172, [(6, .int 2), (5, .int 0), (4, .int 0), (3, .ref 153), (2, .ref 66), (1, .ref 64), (0, .ref 63)], [.long 2], (jzv309 b0 b1 b2 b3)) : jS)) rfl ?_
  refine jl_s (S' := ((174, [(6, .int 2), (5, .int 0), (4, .int 0), (3, .ref 153), (2, .ref 66), (1, .ref 64), (0, .ref 63)], [.int 2, .long 2], (jzv309 b0 b1 b2 b3)) : jS)) rfl ?_
  refine jl_s (S' := ((175, [(6, .int 2), (5, .int 0), (4, .int 0), (3, .ref 153), (2, .ref 66), (1, .ref 64), (0, .ref 63)], [.long 2, .long 2], (jzv309 b0 b1 b2 b3)) : jS)) rfl ?_
  refine jl_s (S' := ((176, [(6, .int 2), (5, .int 0), (4, .int 0), (3, .ref 153), (2, .ref 66), (1, .ref 64), (0, .ref 63)], [.int 0], (jzv309 b0 b1 b2 b3)) : jS)) rfl ?_
  refine jl_s (S' := ((181, [(6, .int 2), (5, .int 0), (4, .int 0), (3, .ref 153), (2, .ref 66), (1, .ref 64), (0, .ref 63)], [], (jzv309 b0 b1 b2 b3)) : jS)) rfl ?_
  refine jl_s (S' := ((1193, [(6, .int 2), (5, .int 0), (4, .int 0), (3, .ref 153), (2, .ref 66), (1, .ref 64), (0, .ref 63)], [], (jzv309 b0 b1 b2 b3)) : jS)) rfl ?_
  refine jl_s (S' := ((1196, [(4, .int 4), (6, .int 2), (5, .int 0), (3, .ref 153), (2, .ref 66), (1, .ref 64), (0, .ref 63)], [], (jzv309 b0 b1 b2 b3)) : jS)) rfl ?_
  refine jl_s (S' := ((23, [(4, .int 4), (6, .int 2), (5, .int 0), (3, .ref 153), (2, .ref 66), (1, .ref 64), (0, .ref 63)], [], (jzv309 b0 b1 b2 b3)) : jS)) rfl ?_
  refine jl_s (S' := ((25, [(4, .int 4), (6, .int 2), (5, .int 0), (3, .ref 153), (2, .ref 66), (1, .ref 64), (0, .ref 63)], [.int 4], (jzv309 b0 b1 b2 b3)) : jS)) rfl ?_
  refine jl_s (S' := ((26, [(4, .int 4), (6, .int 2), (5, .int 0), (3, .ref 153), (2, .ref 66), (1, .ref 64), (0, .ref 63)], [.ref 63, .int 4], (jzv309 b0 b1 b2 b3)) : jS)) rfl ?_
  refine jl_s (S' := ((27, [(4, .int 4), (6, .int 2), (5, .int 0), (3, .ref 153), (2, .ref 66), (1, .ref 64), (0, .ref 63)], [.int 4, .int 4], (jzv309 b0 b1 b2 b3)) : jS)) rfl ?_
  refine jl_s (S' := ((28, [(4, .int 4), (6, .int 2), (5, .int 0), (3, .ref 153), (2, .ref 66), (1, .ref 64), (0, .ref 63)], [.int 4, .int 4, .int 4], (jzv309 b0 b1 b2 b3)) : jS)) rfl ?_
  refine jl_s (S' := ((29, [(4, .int 4), (6, .int 2), (5, .int 0), (3, .ref 153), (2, .ref 66), (1, .ref 64), (0, .ref 63)], [.int 0, .int 4], (jzv309 b0 b1 b2 b3)) : jS)) rfl ?_
  refine jl_s (S' := ((1199, [(4, .int 4), (6, .int 2), (5, .int 0), (3, .ref 153), (2, .ref 66), (1, .ref 64), (0, .ref 63)], [], (jzv309 b0 b1 b2 b3)) : jS)) rfl ?_
  refine jl_s (S' := ((1200, [(4, .int 4), (6, .int 2), (5, .int 0), (3, .ref 153), (2, .ref 66), (1, .ref 64), (0, .ref 63)], [.int 1], (jzv309 b0 b1 b2 b3)) : jS)) rfl ?_
  exact jl_r (r := (.inl (some (.int 1)), (jzv309 b0 b1 b2 b3))) rfl
-- op 0 ZVZV: jzl621
def jzv310 (b0 b1 b2 b3 : Int32) : jH := [jzc185, (jzc188 b0 b1 b2 b3), jzc117, jzc7, jzc9, jzc9, jzc9, jzc9, jzc9, jzc17, jzc19, jzc19, jzc19, jzc19, jzc19, jzc19, jzc19, jzc19, jzc28, jzc28, jzc28, jzc28, jzc28, jzc28, jzc28, jzc28, jzc28, jzc28, jzc28, jzc28, jzc28, jzc28, jzc43, jzc43, jzc43, jzc43, jzc43, jzc49, jzc49, jzc52, jzc52, jzc52, jzc56, jzc56, jzc59, jzc56, jzc62, jzc28, jzc28, jzc28, jzc28, jzc28, jzc69, jzc71, jzc73, jzc43, jzc76, jzc52, jzc52, jzc80, jzc80, jzc80, jzc84, jzc52, jzc52, jzc52, jzc52, jzc52, jzc52, jzc52, jzc93, jzc93, jzc52, jzc52, jzc98, jzc100, jzc93, jzc52, jzc52, jzc52, jzc52, jzc107, jzc109, jzc111, jzc100, jzc100, jzc100, jzc111, jzc111, jzc204]
set_option maxHeartbeats 4000000 in
set_option maxRecDepth 100000 in
theorem jzl622 (xs : Nat → Int32) (hop : xs 0 &&& 31 = 0) (b0 b1 b2 b3 : Int32) (e0 : ((Int32.toUInt32 (xs 1) >>> (Int32.toUInt32 0 &&& Int32.toUInt32 31)).toInt32) &&& 255 = b0) (e1 : ((Int32.toUInt32 (xs 1) >>> (Int32.toUInt32 8 &&& Int32.toUInt32 31)).toInt32) &&& 255 = b1) (e2 : ((Int32.toUInt32 (xs 1) >>> (Int32.toUInt32 16 &&& Int32.toUInt32 31)).toInt32) &&& 255 = b2) (e3 : ((Int32.toUInt32 (xs 1) >>> (Int32.toUInt32 24 &&& Int32.toUInt32 31)).toInt32) &&& 255 = b3) (g0 : ((xs 1) >>> (0 &&& 31)) &&& 255 = b0) (g1 : ((xs 1) >>> (8 &&& 31)) &&& 255 = b1) (g2 : ((xs 1) >>> (16 &&& 31)) &&& 255 = b2) (g3 : ((xs 1) >>> (24 &&& 31)) &&& 255 = b3) (h0 : jbz b0) (h1 : jbv b1) (h2 : jbv b2) (h3 : jbz b3) : jRun ((4, xs) : jX) 2000 39 0 [.ref 64, .int (xs 1), .ref 153] jzv181 = some (.inl (some (.int 0)), (jzv310 b0 b1 b2 b3)) := by
  refine jr_run (e := jm0) rfl (Nat.le_of_ble_eq_true rfl) ?_
  refine jl_s (S' := ((1, [(0, .ref 64), (1, .int (xs 1)), (2, .ref 153)], [.ref 153], jzv181) : jS)) rfl ?_
  refine jl_s (S' := ((2, [(0, .ref 64), (1, .int (xs 1)), (2, .ref 153)], [.int 0, .ref 153], jzv181) : jS)) rfl ?_
  refine jl_s (S' := ((3, [(0, .ref 64), (1, .int (xs 1)), (2, .ref 153)], [.ref 64, .int 0, .ref 153], jzv181) : jS)) rfl ?_
  refine jl_s (S' := ((4, [(0, .ref 64), (1, .int (xs 1)), (2, .ref 153)], [.int (xs 1), .ref 64, .int 0, .ref 153], jzv181) : jS)) rfl ?_
  refine jl_c (t := 20) (as := [.ref 64, .int (xs 1)]) (V := jzv181) (r := (.inl (some (.int 2)), (jzv272 b0 b1 b2 b3))) (S' := ((7, [(0, .ref 64), (1, .int (xs 1)), (2, .ref 153)], [.int 2, .int 0, .ref 153], (jzv272 b0 b1 b2 b3)) : jS)) rfl (jzcp_ZVVZ xs b0 b1 b2 b3 e0 e1 e2 e3 h0 h1 h2 h3 ) rfl ?_
  refine jl_s (S' := ((8, [(0, .ref 64), (1, .int (xs 1)), (2, .ref 153)], [.long 2, .int 0, .ref 153], (jzv272 b0 b1 b2 b3)) : jS)) rfl ?_
  refine jl_s (S' := ((9, [(0, .ref 64), (1, .int (xs 1)), (2, .ref 153)], [], (jzv310 b0 b1 b2 b3)) : jS)) rfl ?_
  refine jl_s (S' := ((18, [(0, .ref 64), (1, .int (xs 1)), (2, .ref 153)], [], (jzv310 b0 b1 b2 b3)) : jS)) rfl ?_
  refine jl_s (S' := ((19, [(0, .ref 64), (1, .int (xs 1)), (2, .ref 153)], [.int 0], (jzv310 b0 b1 b2 b3)) : jS)) rfl ?_
  exact jl_r (r := (.inl (some (.int 0)), (jzv310 b0 b1 b2 b3))) rfl
set_option maxHeartbeats 4000000 in
set_option maxRecDepth 100000 in
theorem jzq624 (xs : Nat → Int32) (b0 b1 b2 b3 : Int32) (V : jH) (e : ((xs 1) >>> (16 &&& 31)) &&& 255 = b2) (h : jbv b2) {f : Nat} {q : jO × jH} (hq : jLoop (jRun ((4, xs) : jX) 2000 38) ((4, xs) : jX) jm248 f ((7, [(4, .int 24), (3, .int 2), (2, .int 0), (5, .int (b2)), (0, .ref 66), (1, .int (xs 1))], [], V) : jS) = some q) : jLoop (jRun ((4, xs) : jX) 2000 38) ((4, xs) : jX) jm248 (f + 27) ((7, [(4, .int 16), (3, .int 1), (2, .int 0), (5, .int (b1)), (0, .ref 66), (1, .int (xs 1))], [], V) : jS) = some q := by
  refine jl_s (S' := ((9, [(4, .int 16), (3, .int 1), (2, .int 0), (5, .int (b1)), (0, .ref 66), (1, .int (xs 1))], [.int 16], V) : jS)) rfl ?_
  refine jl_s (S' := ((11, [(4, .int 16), (3, .int 1), (2, .int 0), (5, .int (b1)), (0, .ref 66), (1, .int (xs 1))], [.int 32, .int 16], V) : jS)) rfl ?_
  refine jl_s (S' := ((14, [(4, .int 16), (3, .int 1), (2, .int 0), (5, .int (b1)), (0, .ref 66), (1, .int (xs 1))], [], V) : jS)) rfl ?_
  refine jl_s (S' := ((15, [(4, .int 16), (3, .int 1), (2, .int 0), (5, .int (b1)), (0, .ref 66), (1, .int (xs 1))], [.int (xs 1)], V) : jS)) rfl ?_
  refine jl_s (S' := ((17, [(4, .int 16), (3, .int 1), (2, .int 0), (5, .int (b1)), (0, .ref 66), (1, .int (xs 1))], [.int 16, .int (xs 1)], V) : jS)) rfl ?_
  refine jl_s (S' := ((18, [(4, .int 16), (3, .int 1), (2, .int 0), (5, .int (b1)), (0, .ref 66), (1, .int (xs 1))], [.int ((xs 1) >>> (16 &&& 31))], V) : jS)) rfl ?_
  refine jl_s (S' := ((21, [(4, .int 16), (3, .int 1), (2, .int 0), (5, .int (b1)), (0, .ref 66), (1, .int (xs 1))], [.int 255, .int ((xs 1) >>> (16 &&& 31))], V) : jS)) rfl ?_
  refine jl_s (S' := ((22, [(4, .int 16), (3, .int 1), (2, .int 0), (5, .int (b1)), (0, .ref 66), (1, .int (xs 1))], [.int (((xs 1) >>> (16 &&& 31)) &&& 255)], V) : jS)) rfl ?_
  rw [e]
  refine jl_s (S' := ((24, [(5, .int (b2)), (4, .int 16), (3, .int 1), (2, .int 0), (0, .ref 66), (1, .int (xs 1))], [], V) : jS)) rfl ?_
  refine jl_s (S' := ((25, [(5, .int (b2)), (4, .int 16), (3, .int 1), (2, .int 0), (0, .ref 66), (1, .int (xs 1))], [.int 0], V) : jS)) rfl ?_
  refine jl_s (S' := ((28, [(5, .int (b2)), (4, .int 16), (3, .int 1), (2, .int 0), (0, .ref 66), (1, .int (xs 1))], [], V) : jS)) rfl ?_
  refine jl_s (S' := ((30, [(5, .int (b2)), (4, .int 16), (3, .int 1), (2, .int 0), (0, .ref 66), (1, .int (xs 1))], [.int (b2)], V) : jS)) rfl ?_
  refine jl_iff (e := jm248) (o := 15) rfl (h.1.1) ?_
  refine jl_s (S' := ((35, [(5, .int (b2)), (4, .int 16), (3, .int 1), (2, .int 0), (0, .ref 66), (1, .int (xs 1))], [.int (b2)], V) : jS)) rfl ?_
  refine jl_c (t := 247) (as := [.int (b2)]) (V := V) (r := (.inl (some (.int 1)), V)) (S' := ((38, [(5, .int (b2)), (4, .int 16), (3, .int 1), (2, .int 0), (0, .ref 66), (1, .int (xs 1))], [.int 1], V) : jS)) rfl (jz_sv ((4, xs) : jX) V b2 h ) rfl ?_
  refine jl_s (S' := ((45, [(5, .int (b2)), (4, .int 16), (3, .int 1), (2, .int 0), (0, .ref 66), (1, .int (xs 1))], [], V) : jS)) rfl ?_
  refine jl_s (S' := ((46, [(5, .int (b2)), (4, .int 16), (3, .int 1), (2, .int 0), (0, .ref 66), (1, .int (xs 1))], [.int 0], V) : jS)) rfl ?_
  refine jl_s (S' := ((47, [(2, .int 0), (5, .int (b2)), (4, .int 16), (3, .int 1), (0, .ref 66), (1, .int (xs 1))], [], V) : jS)) rfl ?_
  refine jl_s (S' := ((49, [(2, .int 0), (5, .int (b2)), (4, .int 16), (3, .int 1), (0, .ref 66), (1, .int (xs 1))], [.int (b2)], V) : jS)) rfl ?_
  refine jl_iff (e := jm248) (o := 9) rfl (h.1.1) ?_
  refine jl_s (S' := ((53, [(2, .int 0), (5, .int (b2)), (4, .int 16), (3, .int 1), (0, .ref 66), (1, .int (xs 1))], [.int 1], V) : jS)) rfl ?_
  refine jl_s (S' := ((54, [(2, .int 0), (5, .int (b2)), (4, .int 16), (3, .int 1), (0, .ref 66), (1, .int (xs 1))], [.int 1, .int 1], V) : jS)) rfl ?_
  refine jl_s (S' := ((55, [(2, .int 0), (5, .int (b2)), (4, .int 16), (3, .int 1), (0, .ref 66), (1, .int (xs 1))], [.int 2], V) : jS)) rfl ?_
  refine jl_s (S' := ((59, [(2, .int 0), (5, .int (b2)), (4, .int 16), (3, .int 1), (0, .ref 66), (1, .int (xs 1))], [.int 2], V) : jS)) rfl ?_
  refine jl_s (S' := ((60, [(3, .int 2), (2, .int 0), (5, .int (b2)), (4, .int 16), (0, .ref 66), (1, .int (xs 1))], [], V) : jS)) rfl ?_
  refine jl_s (S' := ((63, [(4, .int 24), (3, .int 2), (2, .int 0), (5, .int (b2)), (0, .ref 66), (1, .int (xs 1))], [], V) : jS)) rfl ?_
  refine jl_s (S' := ((7, [(4, .int 24), (3, .int 2), (2, .int 0), (5, .int (b2)), (0, .ref 66), (1, .int (xs 1))], [], V) : jS)) rfl ?_
  exact hq
set_option maxHeartbeats 4000000 in
set_option maxRecDepth 100000 in
theorem jzq626 (xs : Nat → Int32) (b0 b1 b2 b3 : Int32) (V : jH) (e : ((xs 1) >>> (24 &&& 31)) &&& 255 = b3) (h : jbz b3) {f : Nat} {q : jO × jH} (hq : jLoop (jRun ((4, xs) : jX) 2000 38) ((4, xs) : jX) jm248 f ((7, [(4, .int 32), (3, .int 2), (2, .int 0), (5, .int (b3)), (0, .ref 66), (1, .int (xs 1))], [], V) : jS) = some q) : jLoop (jRun ((4, xs) : jX) 2000 38) ((4, xs) : jX) jm248 (f + 21) ((7, [(4, .int 24), (3, .int 2), (2, .int 0), (5, .int (b2)), (0, .ref 66), (1, .int (xs 1))], [], V) : jS) = some q := by
  refine jl_s (S' := ((9, [(4, .int 24), (3, .int 2), (2, .int 0), (5, .int (b2)), (0, .ref 66), (1, .int (xs 1))], [.int 24], V) : jS)) rfl ?_
  refine jl_s (S' := ((11, [(4, .int 24), (3, .int 2), (2, .int 0), (5, .int (b2)), (0, .ref 66), (1, .int (xs 1))], [.int 32, .int 24], V) : jS)) rfl ?_
  refine jl_s (S' := ((14, [(4, .int 24), (3, .int 2), (2, .int 0), (5, .int (b2)), (0, .ref 66), (1, .int (xs 1))], [], V) : jS)) rfl ?_
  refine jl_s (S' := ((15, [(4, .int 24), (3, .int 2), (2, .int 0), (5, .int (b2)), (0, .ref 66), (1, .int (xs 1))], [.int (xs 1)], V) : jS)) rfl ?_
  refine jl_s (S' := ((17, [(4, .int 24), (3, .int 2), (2, .int 0), (5, .int (b2)), (0, .ref 66), (1, .int (xs 1))], [.int 24, .int (xs 1)], V) : jS)) rfl ?_
  refine jl_s (S' := ((18, [(4, .int 24), (3, .int 2), (2, .int 0), (5, .int (b2)), (0, .ref 66), (1, .int (xs 1))], [.int ((xs 1) >>> (24 &&& 31))], V) : jS)) rfl ?_
  refine jl_s (S' := ((21, [(4, .int 24), (3, .int 2), (2, .int 0), (5, .int (b2)), (0, .ref 66), (1, .int (xs 1))], [.int 255, .int ((xs 1) >>> (24 &&& 31))], V) : jS)) rfl ?_
  refine jl_s (S' := ((22, [(4, .int 24), (3, .int 2), (2, .int 0), (5, .int (b2)), (0, .ref 66), (1, .int (xs 1))], [.int (((xs 1) >>> (24 &&& 31)) &&& 255)], V) : jS)) rfl ?_
  rw [e]
  refine jl_s (S' := ((24, [(5, .int (b3)), (4, .int 24), (3, .int 2), (2, .int 0), (0, .ref 66), (1, .int (xs 1))], [], V) : jS)) rfl ?_
  refine jl_s (S' := ((25, [(5, .int (b3)), (4, .int 24), (3, .int 2), (2, .int 0), (0, .ref 66), (1, .int (xs 1))], [.int 0], V) : jS)) rfl ?_
  refine jl_s (S' := ((28, [(5, .int (b3)), (4, .int 24), (3, .int 2), (2, .int 0), (0, .ref 66), (1, .int (xs 1))], [], V) : jS)) rfl ?_
  refine jl_s (S' := ((30, [(5, .int (b3)), (4, .int 24), (3, .int 2), (2, .int 0), (0, .ref 66), (1, .int (xs 1))], [.int (b3)], V) : jS)) rfl ?_
  refine jl_ift (e := jm248) (o := 15) rfl (h.1) (t := 45) rfl ?_
  refine jl_s (S' := ((46, [(5, .int (b3)), (4, .int 24), (3, .int 2), (2, .int 0), (0, .ref 66), (1, .int (xs 1))], [.int 0], V) : jS)) rfl ?_
  refine jl_s (S' := ((47, [(2, .int 0), (5, .int (b3)), (4, .int 24), (3, .int 2), (0, .ref 66), (1, .int (xs 1))], [], V) : jS)) rfl ?_
  refine jl_s (S' := ((49, [(2, .int 0), (5, .int (b3)), (4, .int 24), (3, .int 2), (0, .ref 66), (1, .int (xs 1))], [.int (b3)], V) : jS)) rfl ?_
  refine jl_ift (e := jm248) (o := 9) rfl (h.1) (t := 58) rfl ?_
  refine jl_s (S' := ((59, [(2, .int 0), (5, .int (b3)), (4, .int 24), (3, .int 2), (0, .ref 66), (1, .int (xs 1))], [.int 2], V) : jS)) rfl ?_
  refine jl_s (S' := ((60, [(3, .int 2), (2, .int 0), (5, .int (b3)), (4, .int 24), (0, .ref 66), (1, .int (xs 1))], [], V) : jS)) rfl ?_
  refine jl_s (S' := ((63, [(4, .int 32), (3, .int 2), (2, .int 0), (5, .int (b3)), (0, .ref 66), (1, .int (xs 1))], [], V) : jS)) rfl ?_
  refine jl_s (S' := ((7, [(4, .int 32), (3, .int 2), (2, .int 0), (5, .int (b3)), (0, .ref 66), (1, .int (xs 1))], [], V) : jS)) rfl ?_
  exact hq
set_option maxHeartbeats 4000000 in
set_option maxRecDepth 100000 in
theorem jzl627 (xs : Nat → Int32) (b0 b1 b2 b3 : Int32) : jRun ((4, xs) : jX) 2000 38 245 [.ref 66, .int 0, .int 0, .int 0] (jzv310 b0 b1 b2 b3) = some (.inl (some (.int 0)), (jzv310 b0 b1 b2 b3)) := by
  refine jr_run (e := jm245) rfl (Nat.le_of_ble_eq_true rfl) ?_
  refine jl_s (S' := ((1, [(0, .ref 66), (1, .int 0), (2, .int 0), (3, .int 0)], [.ref 66], (jzv310 b0 b1 b2 b3)) : jS)) rfl ?_
  refine jl_s (S' := ((2, [(0, .ref 66), (1, .int 0), (2, .int 0), (3, .int 0)], [.int 0, .ref 66], (jzv310 b0 b1 b2 b3)) : jS)) rfl ?_
  refine jl_s (S' := ((9, [(0, .ref 66), (1, .int 0), (2, .int 0), (3, .int 0)], [.ref 66], (jzv310 b0 b1 b2 b3)) : jS)) rfl ?_
  refine jl_s (S' := ((10, [(0, .ref 66), (1, .int 0), (2, .int 0), (3, .int 0)], [.int 0, .ref 66], (jzv310 b0 b1 b2 b3)) : jS)) rfl ?_
  refine jl_s (S' := ((17, [(0, .ref 66), (1, .int 0), (2, .int 0), (3, .int 0)], [.ref 66], (jzv310 b0 b1 b2 b3)) : jS)) rfl ?_
  refine jl_s (S' := ((18, [(0, .ref 66), (1, .int 0), (2, .int 0), (3, .int 0)], [.int 0, .ref 66], (jzv310 b0 b1 b2 b3)) : jS)) rfl ?_
  refine jl_s (S' := ((25, [(0, .ref 66), (1, .int 0), (2, .int 0), (3, .int 0)], [.ref 66], (jzv310 b0 b1 b2 b3)) : jS)) rfl ?_
  refine jl_s (S' := ((26, [(0, .ref 66), (1, .int 0), (2, .int 0), (3, .int 0)], [.int 0, .ref 66], (jzv310 b0 b1 b2 b3)) : jS)) rfl ?_
  refine jl_s (S' := ((29, [(0, .ref 66), (1, .int 0), (2, .int 0), (3, .int 0)], [], (jzv310 b0 b1 b2 b3)) : jS)) rfl ?_
  refine jl_s (S' := ((30, [(0, .ref 66), (1, .int 0), (2, .int 0), (3, .int 0)], [.ref 66], (jzv310 b0 b1 b2 b3)) : jS)) rfl ?_
  refine jl_s (S' := ((33, [(0, .ref 66), (1, .int 0), (2, .int 0), (3, .int 0)], [.int 0], (jzv310 b0 b1 b2 b3)) : jS)) rfl ?_
  refine jl_s (S' := ((40, [(0, .ref 66), (1, .int 0), (2, .int 0), (3, .int 0)], [], (jzv310 b0 b1 b2 b3)) : jS)) rfl ?_
  refine jl_s (S' := ((41, [(0, .ref 66), (1, .int 0), (2, .int 0), (3, .int 0)], [.int 0], (jzv310 b0 b1 b2 b3)) : jS)) rfl ?_
  exact jl_r (r := (.inl (some (.int 0)), (jzv310 b0 b1 b2 b3))) rfl
set_option maxHeartbeats 4000000 in
set_option maxRecDepth 100000 in
theorem jzq629 (xs : Nat → Int32) (b0 b1 b2 b3 : Int32) {f : Nat} {q : jO × jH} (hq : jLoop (jRun ((4, xs) : jX) 2000 38) ((4, xs) : jX) jm248 f ((101, [(4, .int 0), (3, .int 2), (2, .int 0), (5, .int (b3)), (0, .ref 66), (1, .int (xs 1))], [], (jzv310 b0 b1 b2 b3)) : jS) = some q) : jLoop (jRun ((4, xs) : jX) 2000 38) ((4, xs) : jX) jm248 (f + 19) ((7, [(4, .int 32), (3, .int 2), (2, .int 0), (5, .int (b3)), (0, .ref 66), (1, .int (xs 1))], [], (jzv310 b0 b1 b2 b3)) : jS) = some q := by
  refine jl_s (S' := ((9, [(4, .int 32), (3, .int 2), (2, .int 0), (5, .int (b3)), (0, .ref 66), (1, .int (xs 1))], [.int 32], (jzv310 b0 b1 b2 b3)) : jS)) rfl ?_
  refine jl_s (S' := ((11, [(4, .int 32), (3, .int 2), (2, .int 0), (5, .int (b3)), (0, .ref 66), (1, .int (xs 1))], [.int 32, .int 32], (jzv310 b0 b1 b2 b3)) : jS)) rfl ?_
  refine jl_s (S' := ((66, [(4, .int 32), (3, .int 2), (2, .int 0), (5, .int (b3)), (0, .ref 66), (1, .int (xs 1))], [], (jzv310 b0 b1 b2 b3)) : jS)) rfl ?_
  refine jl_s (S' := ((67, [(4, .int 32), (3, .int 2), (2, .int 0), (5, .int (b3)), (0, .ref 66), (1, .int (xs 1))], [.ref 66], (jzv310 b0 b1 b2 b3)) : jS)) rfl ?_
  refine jl_s (S' := ((68, [(4, .int 32), (3, .int 2), (2, .int 0), (5, .int (b3)), (0, .ref 66), (1, .int (xs 1))], [.int 0, .ref 66], (jzv310 b0 b1 b2 b3)) : jS)) rfl ?_
  refine jl_s (S' := ((69, [(4, .int 32), (3, .int 2), (2, .int 0), (5, .int (b3)), (0, .ref 66), (1, .int (xs 1))], [.int 0, .int 0, .ref 66], (jzv310 b0 b1 b2 b3)) : jS)) rfl ?_
  refine jl_s (S' := ((72, [(4, .int 32), (3, .int 2), (2, .int 0), (5, .int (b3)), (0, .ref 66), (1, .int (xs 1))], [.int 0, .ref 66], (jzv310 b0 b1 b2 b3)) : jS)) rfl ?_
  refine jl_s (S' := ((73, [(4, .int 32), (3, .int 2), (2, .int 0), (5, .int (b3)), (0, .ref 66), (1, .int (xs 1))], [.ref 66, .int 0, .ref 66], (jzv310 b0 b1 b2 b3)) : jS)) rfl ?_
  refine jl_s (S' := ((76, [(4, .int 32), (3, .int 2), (2, .int 0), (5, .int (b3)), (0, .ref 66), (1, .int (xs 1))], [.int 0, .int 0, .ref 66], (jzv310 b0 b1 b2 b3)) : jS)) rfl ?_
  refine jl_s (S' := ((77, [(4, .int 32), (3, .int 2), (2, .int 0), (5, .int (b3)), (0, .ref 66), (1, .int (xs 1))], [.int 2, .int 0, .int 0, .ref 66], (jzv310 b0 b1 b2 b3)) : jS)) rfl ?_
  refine jl_s (S' := ((78, [(4, .int 32), (3, .int 2), (2, .int 0), (5, .int (b3)), (0, .ref 66), (1, .int (xs 1))], [.int 2, .int 0, .ref 66], (jzv310 b0 b1 b2 b3)) : jS)) rfl ?_
  refine jl_s (S' := ((81, [(4, .int 32), (3, .int 2), (2, .int 0), (5, .int (b3)), (0, .ref 66), (1, .int (xs 1))], [.int 3000, .int 2, .int 0, .ref 66], (jzv310 b0 b1 b2 b3)) : jS)) rfl ?_
  refine jl_s (S' := ((88, [(4, .int 32), (3, .int 2), (2, .int 0), (5, .int (b3)), (0, .ref 66), (1, .int (xs 1))], [.int 0, .ref 66], (jzv310 b0 b1 b2 b3)) : jS)) rfl ?_
  refine jl_s (S' := ((89, [(4, .int 32), (3, .int 2), (2, .int 0), (5, .int (b3)), (0, .ref 66), (1, .int (xs 1))], [.int 0, .int 0, .ref 66], (jzv310 b0 b1 b2 b3)) : jS)) rfl ?_
  refine jl_s (S' := ((90, [(4, .int 32), (3, .int 2), (2, .int 0), (5, .int (b3)), (0, .ref 66), (1, .int (xs 1))], [.int 0, .int 0, .int 0, .ref 66], (jzv310 b0 b1 b2 b3)) : jS)) rfl ?_
  refine jl_c (t := 245) (as := [.ref 66, .int 0, .int 0, .int 0]) (V := (jzv310 b0 b1 b2 b3)) (r := (.inl (some (.int 0)), (jzv310 b0 b1 b2 b3))) (S' := ((93, [(4, .int 32), (3, .int 2), (2, .int 0), (5, .int (b3)), (0, .ref 66), (1, .int (xs 1))], [.int 0], (jzv310 b0 b1 b2 b3)) : jS)) rfl (jzl627 xs b0 b1 b2 b3) rfl ?_
  refine jl_s (S' := ((98, [(4, .int 32), (3, .int 2), (2, .int 0), (5, .int (b3)), (0, .ref 66), (1, .int (xs 1))], [], (jzv310 b0 b1 b2 b3)) : jS)) rfl ?_
  refine jl_s (S' := ((99, [(4, .int 32), (3, .int 2), (2, .int 0), (5, .int (b3)), (0, .ref 66), (1, .int (xs 1))], [.int 0], (jzv310 b0 b1 b2 b3)) : jS)) rfl ?_
  refine jl_s (S' := ((101, [(4, .int 0), (3, .int 2), (2, .int 0), (5, .int (b3)), (0, .ref 66), (1, .int (xs 1))], [], (jzv310 b0 b1 b2 b3)) : jS)) rfl ?_
  exact hq
set_option maxHeartbeats 4000000 in
set_option maxRecDepth 100000 in
theorem jzq631 (xs : Nat → Int32) (b0 b1 b2 b3 : Int32) (e : ((xs 1) >>> (0 &&& 31)) &&& 255 = b0) (h : jbz b0) {f : Nat} {q : jO × jH} (hq : jLoop (jRun ((4, xs) : jX) 2000 38) ((4, xs) : jX) jm248 f ((101, [(4, .int 8), (5, .int (b0)), (3, .int 2), (2, .int 0), (0, .ref 66), (1, .int (xs 1))], [], (jzv310 b0 b1 b2 b3)) : jS) = some q) : jLoop (jRun ((4, xs) : jX) 2000 38) ((4, xs) : jX) jm248 (f + 13) ((101, [(4, .int 0), (3, .int 2), (2, .int 0), (5, .int (b3)), (0, .ref 66), (1, .int (xs 1))], [], (jzv310 b0 b1 b2 b3)) : jS) = some q := by
  refine jl_s (S' := ((103, [(4, .int 0), (3, .int 2), (2, .int 0), (5, .int (b3)), (0, .ref 66), (1, .int (xs 1))], [.int 0], (jzv310 b0 b1 b2 b3)) : jS)) rfl ?_
  refine jl_s (S' := ((105, [(4, .int 0), (3, .int 2), (2, .int 0), (5, .int (b3)), (0, .ref 66), (1, .int (xs 1))], [.int 32, .int 0], (jzv310 b0 b1 b2 b3)) : jS)) rfl ?_
  refine jl_s (S' := ((108, [(4, .int 0), (3, .int 2), (2, .int 0), (5, .int (b3)), (0, .ref 66), (1, .int (xs 1))], [], (jzv310 b0 b1 b2 b3)) : jS)) rfl ?_
  refine jl_s (S' := ((109, [(4, .int 0), (3, .int 2), (2, .int 0), (5, .int (b3)), (0, .ref 66), (1, .int (xs 1))], [.int (xs 1)], (jzv310 b0 b1 b2 b3)) : jS)) rfl ?_
  refine jl_s (S' := ((111, [(4, .int 0), (3, .int 2), (2, .int 0), (5, .int (b3)), (0, .ref 66), (1, .int (xs 1))], [.int 0, .int (xs 1)], (jzv310 b0 b1 b2 b3)) : jS)) rfl ?_
  refine jl_s (S' := ((112, [(4, .int 0), (3, .int 2), (2, .int 0), (5, .int (b3)), (0, .ref 66), (1, .int (xs 1))], [.int ((xs 1) >>> (0 &&& 31))], (jzv310 b0 b1 b2 b3)) : jS)) rfl ?_
  refine jl_s (S' := ((115, [(4, .int 0), (3, .int 2), (2, .int 0), (5, .int (b3)), (0, .ref 66), (1, .int (xs 1))], [.int 255, .int ((xs 1) >>> (0 &&& 31))], (jzv310 b0 b1 b2 b3)) : jS)) rfl ?_
  refine jl_s (S' := ((116, [(4, .int 0), (3, .int 2), (2, .int 0), (5, .int (b3)), (0, .ref 66), (1, .int (xs 1))], [.int (((xs 1) >>> (0 &&& 31)) &&& 255)], (jzv310 b0 b1 b2 b3)) : jS)) rfl ?_
  rw [e]
  refine jl_s (S' := ((118, [(5, .int (b0)), (4, .int 0), (3, .int 2), (2, .int 0), (0, .ref 66), (1, .int (xs 1))], [], (jzv310 b0 b1 b2 b3)) : jS)) rfl ?_
  refine jl_s (S' := ((120, [(5, .int (b0)), (4, .int 0), (3, .int 2), (2, .int 0), (0, .ref 66), (1, .int (xs 1))], [.int (b0)], (jzv310 b0 b1 b2 b3)) : jS)) rfl ?_
  refine jl_ift (e := jm248) (o := 24) rfl (h.1) (t := 144) rfl ?_
  refine jl_s (S' := ((147, [(4, .int 8), (5, .int (b0)), (3, .int 2), (2, .int 0), (0, .ref 66), (1, .int (xs 1))], [], (jzv310 b0 b1 b2 b3)) : jS)) rfl ?_
  refine jl_s (S' := ((101, [(4, .int 8), (5, .int (b0)), (3, .int 2), (2, .int 0), (0, .ref 66), (1, .int (xs 1))], [], (jzv310 b0 b1 b2 b3)) : jS)) rfl ?_
  exact hq
def jzv311 (b0 b1 b2 b3 : Int32) : jH := [jzc185, (jzc188 b0 b1 b2 b3), jzc117, (jzc207 b0 b1 b2 b3), jzc9, jzc9, jzc9, jzc9, jzc9, jzc17, jzc19, jzc19, jzc19, jzc19, jzc19, jzc19, jzc19, jzc19, jzc28, jzc28, jzc28, jzc28, jzc28, jzc28, jzc28, jzc28, jzc28, jzc28, jzc28, jzc28, jzc28, jzc28, jzc43, jzc43, jzc43, jzc43, jzc43, jzc49, jzc49, jzc52, jzc52, jzc52, jzc56, jzc56, jzc59, jzc56, jzc62, jzc28, jzc28, jzc28, jzc28, jzc28, jzc69, jzc71, jzc73, jzc43, jzc76, jzc52, jzc52, jzc80, jzc80, jzc80, jzc84, jzc52, jzc52, jzc52, jzc52, jzc52, jzc52, jzc52, jzc93, jzc93, jzc52, jzc52, jzc98, jzc100, jzc93, jzc52, jzc52, jzc52, jzc52, jzc107, jzc109, jzc111, jzc100, jzc100, jzc100, jzc111, jzc111, jzc204]
def jzv312 (b0 b1 b2 b3 : Int32) : jH := [jzc185, (jzc188 b0 b1 b2 b3), jzc202, (jzc207 b0 b1 b2 b3), jzc9, jzc9, jzc9, jzc9, jzc9, jzc17, jzc19, jzc19, jzc19, jzc19, jzc19, jzc19, jzc19, jzc19, jzc28, jzc28, jzc28, jzc28, jzc28, jzc28, jzc28, jzc28, jzc28, jzc28, jzc28, jzc28, jzc28, jzc28, jzc43, jzc43, jzc43, jzc43, jzc43, jzc49, jzc49, jzc52, jzc52, jzc52, jzc56, jzc56, jzc59, jzc56, jzc62, jzc28, jzc28, jzc28, jzc28, jzc28, jzc69, jzc71, jzc73, jzc43, jzc76, jzc52, jzc52, jzc80, jzc80, jzc80, jzc84, jzc52, jzc52, jzc52, jzc52, jzc52, jzc52, jzc52, jzc93, jzc93, jzc52, jzc52, jzc98, jzc100, jzc93, jzc52, jzc52, jzc52, jzc52, jzc107, jzc109, jzc111, jzc100, jzc100, jzc100, jzc111, jzc111, jzc204]
set_option maxHeartbeats 4000000 in
set_option maxRecDepth 100000 in
theorem jzq633 (xs : Nat → Int32) (b0 b1 b2 b3 : Int32) (e : ((xs 1) >>> (8 &&& 31)) &&& 255 = b1) (h : jbn b1) {f : Nat} {q : jO × jH} (hq : jLoop (jRun ((4, xs) : jX) 2000 38) ((4, xs) : jX) jm248 f ((101, [(4, .int 16), (5, .int (b1)), (3, .int 2), (2, .int 0), (0, .ref 66), (1, .int (xs 1))], [], (jzv312 b0 b1 b2 b3)) : jS) = some q) : jLoop (jRun ((4, xs) : jX) 2000 38) ((4, xs) : jX) jm248 (f + 25) ((101, [(4, .int 8), (5, .int (b0)), (3, .int 2), (2, .int 0), (0, .ref 66), (1, .int (xs 1))], [], (jzv310 b0 b1 b2 b3)) : jS) = some q := by
  refine jl_s (S' := ((103, [(4, .int 8), (5, .int (b0)), (3, .int 2), (2, .int 0), (0, .ref 66), (1, .int (xs 1))], [.int 8], (jzv310 b0 b1 b2 b3)) : jS)) rfl ?_
  refine jl_s (S' := ((105, [(4, .int 8), (5, .int (b0)), (3, .int 2), (2, .int 0), (0, .ref 66), (1, .int (xs 1))], [.int 32, .int 8], (jzv310 b0 b1 b2 b3)) : jS)) rfl ?_
  refine jl_s (S' := ((108, [(4, .int 8), (5, .int (b0)), (3, .int 2), (2, .int 0), (0, .ref 66), (1, .int (xs 1))], [], (jzv310 b0 b1 b2 b3)) : jS)) rfl ?_
  refine jl_s (S' := ((109, [(4, .int 8), (5, .int (b0)), (3, .int 2), (2, .int 0), (0, .ref 66), (1, .int (xs 1))], [.int (xs 1)], (jzv310 b0 b1 b2 b3)) : jS)) rfl ?_
  refine jl_s (S' := ((111, [(4, .int 8), (5, .int (b0)), (3, .int 2), (2, .int 0), (0, .ref 66), (1, .int (xs 1))], [.int 8, .int (xs 1)], (jzv310 b0 b1 b2 b3)) : jS)) rfl ?_
  refine jl_s (S' := ((112, [(4, .int 8), (5, .int (b0)), (3, .int 2), (2, .int 0), (0, .ref 66), (1, .int (xs 1))], [.int ((xs 1) >>> (8 &&& 31))], (jzv310 b0 b1 b2 b3)) : jS)) rfl ?_
  refine jl_s (S' := ((115, [(4, .int 8), (5, .int (b0)), (3, .int 2), (2, .int 0), (0, .ref 66), (1, .int (xs 1))], [.int 255, .int ((xs 1) >>> (8 &&& 31))], (jzv310 b0 b1 b2 b3)) : jS)) rfl ?_
  refine jl_s (S' := ((116, [(4, .int 8), (5, .int (b0)), (3, .int 2), (2, .int 0), (0, .ref 66), (1, .int (xs 1))], [.int (((xs 1) >>> (8 &&& 31)) &&& 255)], (jzv310 b0 b1 b2 b3)) : jS)) rfl ?_
  rw [e]
  refine jl_s (S' := ((118, [(5, .int (b1)), (4, .int 8), (3, .int 2), (2, .int 0), (0, .ref 66), (1, .int (xs 1))], [], (jzv310 b0 b1 b2 b3)) : jS)) rfl ?_
  refine jl_s (S' := ((120, [(5, .int (b1)), (4, .int 8), (3, .int 2), (2, .int 0), (0, .ref 66), (1, .int (xs 1))], [.int (b1)], (jzv310 b0 b1 b2 b3)) : jS)) rfl ?_
  refine jl_iff (e := jm248) (o := 24) rfl (h.1) ?_
  refine jl_s (S' := ((124, [(5, .int (b1)), (4, .int 8), (3, .int 2), (2, .int 0), (0, .ref 66), (1, .int (xs 1))], [.ref 66], (jzv310 b0 b1 b2 b3)) : jS)) rfl ?_
  refine jl_s (S' := ((127, [(5, .int (b1)), (4, .int 8), (3, .int 2), (2, .int 0), (0, .ref 66), (1, .int (xs 1))], [.ref 67], (jzv310 b0 b1 b2 b3)) : jS)) rfl ?_
  refine jl_s (S' := ((128, [(5, .int (b1)), (4, .int 8), (3, .int 2), (2, .int 0), (0, .ref 66), (1, .int (xs 1))], [.ref 66, .ref 67], (jzv310 b0 b1 b2 b3)) : jS)) rfl ?_
  refine jl_s (S' := ((131, [(5, .int (b1)), (4, .int 8), (3, .int 2), (2, .int 0), (0, .ref 66), (1, .int (xs 1))], [.int 0, .ref 67], (jzv310 b0 b1 b2 b3)) : jS)) rfl ?_
  refine jl_s (S' := ((133, [(5, .int (b1)), (4, .int 8), (3, .int 2), (2, .int 0), (0, .ref 66), (1, .int (xs 1))], [.int (b1), .int 0, .ref 67], (jzv310 b0 b1 b2 b3)) : jS)) rfl ?_
  refine jl_s (S' := ((134, [(5, .int (b1)), (4, .int 8), (3, .int 2), (2, .int 0), (0, .ref 66), (1, .int (xs 1))], [], (jzv311 b0 b1 b2 b3)) : jS)) rfl ?_
  refine jl_s (S' := ((135, [(5, .int (b1)), (4, .int 8), (3, .int 2), (2, .int 0), (0, .ref 66), (1, .int (xs 1))], [.ref 66], (jzv311 b0 b1 b2 b3)) : jS)) rfl ?_
  refine jl_s (S' := ((136, [(5, .int (b1)), (4, .int 8), (3, .int 2), (2, .int 0), (0, .ref 66), (1, .int (xs 1))], [.ref 66, .ref 66], (jzv311 b0 b1 b2 b3)) : jS)) rfl ?_
  refine jl_s (S' := ((139, [(5, .int (b1)), (4, .int 8), (3, .int 2), (2, .int 0), (0, .ref 66), (1, .int (xs 1))], [.int 0, .ref 66], (jzv311 b0 b1 b2 b3)) : jS)) rfl ?_
  refine jl_s (S' := ((140, [(5, .int (b1)), (4, .int 8), (3, .int 2), (2, .int 0), (0, .ref 66), (1, .int (xs 1))], [.int 1, .int 0, .ref 66], (jzv311 b0 b1 b2 b3)) : jS)) rfl ?_
  refine jl_s (S' := ((141, [(5, .int (b1)), (4, .int 8), (3, .int 2), (2, .int 0), (0, .ref 66), (1, .int (xs 1))], [.int 1, .ref 66], (jzv311 b0 b1 b2 b3)) : jS)) rfl ?_
  refine jl_s (S' := ((144, [(5, .int (b1)), (4, .int 8), (3, .int 2), (2, .int 0), (0, .ref 66), (1, .int (xs 1))], [], (jzv312 b0 b1 b2 b3)) : jS)) rfl ?_
  refine jl_s (S' := ((147, [(4, .int 16), (5, .int (b1)), (3, .int 2), (2, .int 0), (0, .ref 66), (1, .int (xs 1))], [], (jzv312 b0 b1 b2 b3)) : jS)) rfl ?_
  refine jl_s (S' := ((101, [(4, .int 16), (5, .int (b1)), (3, .int 2), (2, .int 0), (0, .ref 66), (1, .int (xs 1))], [], (jzv312 b0 b1 b2 b3)) : jS)) rfl ?_
  exact hq
def jzc209 (b0 b1 b2 b3 : Int32) : jC := .inl (1, 3000, .inl (upd (upd (fun _ => 0) 0 (b1)) 1 (b2)))
def jzv313 (b0 b1 b2 b3 : Int32) : jH := [jzc185, (jzc188 b0 b1 b2 b3), jzc202, (jzc209 b0 b1 b2 b3), jzc9, jzc9, jzc9, jzc9, jzc9, jzc17, jzc19, jzc19, jzc19, jzc19, jzc19, jzc19, jzc19, jzc19, jzc28, jzc28, jzc28, jzc28, jzc28, jzc28, jzc28, jzc28, jzc28, jzc28, jzc28, jzc28, jzc28, jzc28, jzc43, jzc43, jzc43, jzc43, jzc43, jzc49, jzc49, jzc52, jzc52, jzc52, jzc56, jzc56, jzc59, jzc56, jzc62, jzc28, jzc28, jzc28, jzc28, jzc28, jzc69, jzc71, jzc73, jzc43, jzc76, jzc52, jzc52, jzc80, jzc80, jzc80, jzc84, jzc52, jzc52, jzc52, jzc52, jzc52, jzc52, jzc52, jzc93, jzc93, jzc52, jzc52, jzc98, jzc100, jzc93, jzc52, jzc52, jzc52, jzc52, jzc107, jzc109, jzc111, jzc100, jzc100, jzc100, jzc111, jzc111, jzc204]
def jzv314 (b0 b1 b2 b3 : Int32) : jH := [jzc185, (jzc188 b0 b1 b2 b3), jzc206, (jzc209 b0 b1 b2 b3), jzc9, jzc9, jzc9, jzc9, jzc9, jzc17, jzc19, jzc19, jzc19, jzc19, jzc19, jzc19, jzc19, jzc19, jzc28, jzc28, jzc28, jzc28, jzc28, jzc28, jzc28, jzc28, jzc28, jzc28, jzc28, jzc28, jzc28, jzc28, jzc43, jzc43, jzc43, jzc43, jzc43, jzc49, jzc49, jzc52, jzc52, jzc52, jzc56, jzc56, jzc59, jzc56, jzc62, jzc28, jzc28, jzc28, jzc28, jzc28, jzc69, jzc71, jzc73, jzc43, jzc76, jzc52, jzc52, jzc80, jzc80, jzc80, jzc84, jzc52, jzc52, jzc52, jzc52, jzc52, jzc52, jzc52, jzc93, jzc93, jzc52, jzc52, jzc98, jzc100, jzc93, jzc52, jzc52, jzc52, jzc52, jzc107, jzc109, jzc111, jzc100, jzc100, jzc100, jzc111, jzc111, jzc204]
set_option maxHeartbeats 4000000 in
set_option maxRecDepth 100000 in
theorem jzq635 (xs : Nat → Int32) (b0 b1 b2 b3 : Int32) (e : ((xs 1) >>> (16 &&& 31)) &&& 255 = b2) (h : jbn b2) {f : Nat} {q : jO × jH} (hq : jLoop (jRun ((4, xs) : jX) 2000 38) ((4, xs) : jX) jm248 f ((101, [(4, .int 24), (5, .int (b2)), (3, .int 2), (2, .int 0), (0, .ref 66), (1, .int (xs 1))], [], (jzv314 b0 b1 b2 b3)) : jS) = some q) : jLoop (jRun ((4, xs) : jX) 2000 38) ((4, xs) : jX) jm248 (f + 25) ((101, [(4, .int 16), (5, .int (b1)), (3, .int 2), (2, .int 0), (0, .ref 66), (1, .int (xs 1))], [], (jzv312 b0 b1 b2 b3)) : jS) = some q := by
  refine jl_s (S' := ((103, [(4, .int 16), (5, .int (b1)), (3, .int 2), (2, .int 0), (0, .ref 66), (1, .int (xs 1))], [.int 16], (jzv312 b0 b1 b2 b3)) : jS)) rfl ?_
  refine jl_s (S' := ((105, [(4, .int 16), (5, .int (b1)), (3, .int 2), (2, .int 0), (0, .ref 66), (1, .int (xs 1))], [.int 32, .int 16], (jzv312 b0 b1 b2 b3)) : jS)) rfl ?_
  refine jl_s (S' := ((108, [(4, .int 16), (5, .int (b1)), (3, .int 2), (2, .int 0), (0, .ref 66), (1, .int (xs 1))], [], (jzv312 b0 b1 b2 b3)) : jS)) rfl ?_
  refine jl_s (S' := ((109, [(4, .int 16), (5, .int (b1)), (3, .int 2), (2, .int 0), (0, .ref 66), (1, .int (xs 1))], [.int (xs 1)], (jzv312 b0 b1 b2 b3)) : jS)) rfl ?_
  refine jl_s (S' := ((111, [(4, .int 16), (5, .int (b1)), (3, .int 2), (2, .int 0), (0, .ref 66), (1, .int (xs 1))], [.int 16, .int (xs 1)], (jzv312 b0 b1 b2 b3)) : jS)) rfl ?_
  refine jl_s (S' := ((112, [(4, .int 16), (5, .int (b1)), (3, .int 2), (2, .int 0), (0, .ref 66), (1, .int (xs 1))], [.int ((xs 1) >>> (16 &&& 31))], (jzv312 b0 b1 b2 b3)) : jS)) rfl ?_
  refine jl_s (S' := ((115, [(4, .int 16), (5, .int (b1)), (3, .int 2), (2, .int 0), (0, .ref 66), (1, .int (xs 1))], [.int 255, .int ((xs 1) >>> (16 &&& 31))], (jzv312 b0 b1 b2 b3)) : jS)) rfl ?_
  refine jl_s (S' := ((116, [(4, .int 16), (5, .int (b1)), (3, .int 2), (2, .int 0), (0, .ref 66), (1, .int (xs 1))], [.int (((xs 1) >>> (16 &&& 31)) &&& 255)], (jzv312 b0 b1 b2 b3)) : jS)) rfl ?_
  rw [e]
  refine jl_s (S' := ((118, [(5, .int (b2)), (4, .int 16), (3, .int 2), (2, .int 0), (0, .ref 66), (1, .int (xs 1))], [], (jzv312 b0 b1 b2 b3)) : jS)) rfl ?_
  refine jl_s (S' := ((120, [(5, .int (b2)), (4, .int 16), (3, .int 2), (2, .int 0), (0, .ref 66), (1, .int (xs 1))], [.int (b2)], (jzv312 b0 b1 b2 b3)) : jS)) rfl ?_
  refine jl_iff (e := jm248) (o := 24) rfl (h.1) ?_
  refine jl_s (S' := ((124, [(5, .int (b2)), (4, .int 16), (3, .int 2), (2, .int 0), (0, .ref 66), (1, .int (xs 1))], [.ref 66], (jzv312 b0 b1 b2 b3)) : jS)) rfl ?_
  refine jl_s (S' := ((127, [(5, .int (b2)), (4, .int 16), (3, .int 2), (2, .int 0), (0, .ref 66), (1, .int (xs 1))], [.ref 67], (jzv312 b0 b1 b2 b3)) : jS)) rfl ?_
  refine jl_s (S' := ((128, [(5, .int (b2)), (4, .int 16), (3, .int 2), (2, .int 0), (0, .ref 66), (1, .int (xs 1))], [.ref 66, .ref 67], (jzv312 b0 b1 b2 b3)) : jS)) rfl ?_
  refine jl_s (S' := ((131, [(5, .int (b2)), (4, .int 16), (3, .int 2), (2, .int 0), (0, .ref 66), (1, .int (xs 1))], [.int 1, .ref 67], (jzv312 b0 b1 b2 b3)) : jS)) rfl ?_
  refine jl_s (S' := ((133, [(5, .int (b2)), (4, .int 16), (3, .int 2), (2, .int 0), (0, .ref 66), (1, .int (xs 1))], [.int (b2), .int 1, .ref 67], (jzv312 b0 b1 b2 b3)) : jS)) rfl ?_
  refine jl_s (S' := ((134, [(5, .int (b2)), (4, .int 16), (3, .int 2), (2, .int 0), (0, .ref 66), (1, .int (xs 1))], [], (jzv313 b0 b1 b2 b3)) : jS)) rfl ?_
  refine jl_s (S' := ((135, [(5, .int (b2)), (4, .int 16), (3, .int 2), (2, .int 0), (0, .ref 66), (1, .int (xs 1))], [.ref 66], (jzv313 b0 b1 b2 b3)) : jS)) rfl ?_
  refine jl_s (S' := ((136, [(5, .int (b2)), (4, .int 16), (3, .int 2), (2, .int 0), (0, .ref 66), (1, .int (xs 1))], [.ref 66, .ref 66], (jzv313 b0 b1 b2 b3)) : jS)) rfl ?_
  refine jl_s (S' := ((139, [(5, .int (b2)), (4, .int 16), (3, .int 2), (2, .int 0), (0, .ref 66), (1, .int (xs 1))], [.int 1, .ref 66], (jzv313 b0 b1 b2 b3)) : jS)) rfl ?_
  refine jl_s (S' := ((140, [(5, .int (b2)), (4, .int 16), (3, .int 2), (2, .int 0), (0, .ref 66), (1, .int (xs 1))], [.int 1, .int 1, .ref 66], (jzv313 b0 b1 b2 b3)) : jS)) rfl ?_
  refine jl_s (S' := ((141, [(5, .int (b2)), (4, .int 16), (3, .int 2), (2, .int 0), (0, .ref 66), (1, .int (xs 1))], [.int 2, .ref 66], (jzv313 b0 b1 b2 b3)) : jS)) rfl ?_
  refine jl_s (S' := ((144, [(5, .int (b2)), (4, .int 16), (3, .int 2), (2, .int 0), (0, .ref 66), (1, .int (xs 1))], [], (jzv314 b0 b1 b2 b3)) : jS)) rfl ?_
  refine jl_s (S' := ((147, [(4, .int 24), (5, .int (b2)), (3, .int 2), (2, .int 0), (0, .ref 66), (1, .int (xs 1))], [], (jzv314 b0 b1 b2 b3)) : jS)) rfl ?_
  refine jl_s (S' := ((101, [(4, .int 24), (5, .int (b2)), (3, .int 2), (2, .int 0), (0, .ref 66), (1, .int (xs 1))], [], (jzv314 b0 b1 b2 b3)) : jS)) rfl ?_
  exact hq
set_option maxHeartbeats 4000000 in
set_option maxRecDepth 100000 in
theorem jzq637 (xs : Nat → Int32) (b0 b1 b2 b3 : Int32) (e : ((xs 1) >>> (24 &&& 31)) &&& 255 = b3) (h : jbz b3) {f : Nat} {q : jO × jH} (hq : jLoop (jRun ((4, xs) : jX) 2000 38) ((4, xs) : jX) jm248 f ((101, [(4, .int 32), (5, .int (b3)), (3, .int 2), (2, .int 0), (0, .ref 66), (1, .int (xs 1))], [], (jzv314 b0 b1 b2 b3)) : jS) = some q) : jLoop (jRun ((4, xs) : jX) 2000 38) ((4, xs) : jX) jm248 (f + 13) ((101, [(4, .int 24), (5, .int (b2)), (3, .int 2), (2, .int 0), (0, .ref 66), (1, .int (xs 1))], [], (jzv314 b0 b1 b2 b3)) : jS) = some q := by
  refine jl_s (S' := ((103, [(4, .int 24), (5, .int (b2)), (3, .int 2), (2, .int 0), (0, .ref 66), (1, .int (xs 1))], [.int 24], (jzv314 b0 b1 b2 b3)) : jS)) rfl ?_
  refine jl_s (S' := ((105, [(4, .int 24), (5, .int (b2)), (3, .int 2), (2, .int 0), (0, .ref 66), (1, .int (xs 1))], [.int 32, .int 24], (jzv314 b0 b1 b2 b3)) : jS)) rfl ?_
  refine jl_s (S' := ((108, [(4, .int 24), (5, .int (b2)), (3, .int 2), (2, .int 0), (0, .ref 66), (1, .int (xs 1))], [], (jzv314 b0 b1 b2 b3)) : jS)) rfl ?_
  refine jl_s (S' := ((109, [(4, .int 24), (5, .int (b2)), (3, .int 2), (2, .int 0), (0, .ref 66), (1, .int (xs 1))], [.int (xs 1)], (jzv314 b0 b1 b2 b3)) : jS)) rfl ?_
  refine jl_s (S' := ((111, [(4, .int 24), (5, .int (b2)), (3, .int 2), (2, .int 0), (0, .ref 66), (1, .int (xs 1))], [.int 24, .int (xs 1)], (jzv314 b0 b1 b2 b3)) : jS)) rfl ?_
  refine jl_s (S' := ((112, [(4, .int 24), (5, .int (b2)), (3, .int 2), (2, .int 0), (0, .ref 66), (1, .int (xs 1))], [.int ((xs 1) >>> (24 &&& 31))], (jzv314 b0 b1 b2 b3)) : jS)) rfl ?_
  refine jl_s (S' := ((115, [(4, .int 24), (5, .int (b2)), (3, .int 2), (2, .int 0), (0, .ref 66), (1, .int (xs 1))], [.int 255, .int ((xs 1) >>> (24 &&& 31))], (jzv314 b0 b1 b2 b3)) : jS)) rfl ?_
  refine jl_s (S' := ((116, [(4, .int 24), (5, .int (b2)), (3, .int 2), (2, .int 0), (0, .ref 66), (1, .int (xs 1))], [.int (((xs 1) >>> (24 &&& 31)) &&& 255)], (jzv314 b0 b1 b2 b3)) : jS)) rfl ?_
  rw [e]
  refine jl_s (S' := ((118, [(5, .int (b3)), (4, .int 24), (3, .int 2), (2, .int 0), (0, .ref 66), (1, .int (xs 1))], [], (jzv314 b0 b1 b2 b3)) : jS)) rfl ?_
  refine jl_s (S' := ((120, [(5, .int (b3)), (4, .int 24), (3, .int 2), (2, .int 0), (0, .ref 66), (1, .int (xs 1))], [.int (b3)], (jzv314 b0 b1 b2 b3)) : jS)) rfl ?_
  refine jl_ift (e := jm248) (o := 24) rfl (h.1) (t := 144) rfl ?_
  refine jl_s (S' := ((147, [(4, .int 32), (5, .int (b3)), (3, .int 2), (2, .int 0), (0, .ref 66), (1, .int (xs 1))], [], (jzv314 b0 b1 b2 b3)) : jS)) rfl ?_
  refine jl_s (S' := ((101, [(4, .int 32), (5, .int (b3)), (3, .int 2), (2, .int 0), (0, .ref 66), (1, .int (xs 1))], [], (jzv314 b0 b1 b2 b3)) : jS)) rfl ?_
  exact hq
set_option maxHeartbeats 4000000 in
set_option maxRecDepth 100000 in
theorem jzq639 (xs : Nat → Int32) (b0 b1 b2 b3 : Int32) {f : Nat} : jLoop (jRun ((4, xs) : jX) 2000 38) ((4, xs) : jX) jm248 (f + 6) ((101, [(4, .int 32), (5, .int (b3)), (3, .int 2), (2, .int 0), (0, .ref 66), (1, .int (xs 1))], [], (jzv314 b0 b1 b2 b3)) : jS) = some (.inl (some (.int 2)), (jzv314 b0 b1 b2 b3)) := by
  refine jl_s (S' := ((103, [(4, .int 32), (5, .int (b3)), (3, .int 2), (2, .int 0), (0, .ref 66), (1, .int (xs 1))], [.int 32], (jzv314 b0 b1 b2 b3)) : jS)) rfl ?_
  refine jl_s (S' := ((105, [(4, .int 32), (5, .int (b3)), (3, .int 2), (2, .int 0), (0, .ref 66), (1, .int (xs 1))], [.int 32, .int 32], (jzv314 b0 b1 b2 b3)) : jS)) rfl ?_
  refine jl_s (S' := ((150, [(4, .int 32), (5, .int (b3)), (3, .int 2), (2, .int 0), (0, .ref 66), (1, .int (xs 1))], [], (jzv314 b0 b1 b2 b3)) : jS)) rfl ?_
  refine jl_s (S' := ((151, [(4, .int 32), (5, .int (b3)), (3, .int 2), (2, .int 0), (0, .ref 66), (1, .int (xs 1))], [.ref 66], (jzv314 b0 b1 b2 b3)) : jS)) rfl ?_
  refine jl_s (S' := ((154, [(4, .int 32), (5, .int (b3)), (3, .int 2), (2, .int 0), (0, .ref 66), (1, .int (xs 1))], [.int 2], (jzv314 b0 b1 b2 b3)) : jS)) rfl ?_
  exact jl_r (r := (.inl (some (.int 2)), (jzv314 b0 b1 b2 b3))) rfl
set_option maxHeartbeats 4000000 in
set_option maxRecDepth 100000 in
theorem jzrp_ZVVZ (xs : Nat → Int32) (b0 b1 b2 b3 : Int32) (e0 : ((xs 1) >>> (0 &&& 31)) &&& 255 = b0) (e1 : ((xs 1) >>> (8 &&& 31)) &&& 255 = b1) (e2 : ((xs 1) >>> (16 &&& 31)) &&& 255 = b2) (e3 : ((xs 1) >>> (24 &&& 31)) &&& 255 = b3) (h0 : jbz b0) (h1 : jbv b1) (h2 : jbv b2) (h3 : jbz b3) : jRun ((4, xs) : jX) 2000 39 248 [.ref 66, .int (xs 1)] (jzv310 b0 b1 b2 b3) = some (.inl (some (.int 2)), (jzv314 b0 b1 b2 b3)) := by
  refine jr_run (e := jm248) rfl (Nat.le_of_ble_eq_true rfl) ?_
  refine jzq506 xs b0 b1 b2 b3 _ ?_
  refine jzq508 xs b0 b1 b2 b3 _ e0 h0 ?_
  refine jzq588 xs b0 b1 b2 b3 _ e1 h1 ?_
  refine jzq624 xs b0 b1 b2 b3 _ e2 h2 ?_
  refine jzq626 xs b0 b1 b2 b3 _ e3 h3 ?_
  refine jzq629 xs b0 b1 b2 b3 ?_
  refine jzq631 xs b0 b1 b2 b3 e0 h0 ?_
  refine jzq633 xs b0 b1 b2 b3 e1 h1.1 ?_
  refine jzq635 xs b0 b1 b2 b3 e2 h2.1 ?_
  refine jzq637 xs b0 b1 b2 b3 e3 h3 ?_
  exact jzq639 xs b0 b1 b2 b3
set_option maxHeartbeats 4000000 in
set_option maxRecDepth 100000 in
theorem jzl640 (xs : Nat → Int32) (hop : xs 0 &&& 31 = 0) (b0 b1 b2 b3 : Int32) (e0 : ((Int32.toUInt32 (xs 1) >>> (Int32.toUInt32 0 &&& Int32.toUInt32 31)).toInt32) &&& 255 = b0) (e1 : ((Int32.toUInt32 (xs 1) >>> (Int32.toUInt32 8 &&& Int32.toUInt32 31)).toInt32) &&& 255 = b1) (e2 : ((Int32.toUInt32 (xs 1) >>> (Int32.toUInt32 16 &&& Int32.toUInt32 31)).toInt32) &&& 255 = b2) (e3 : ((Int32.toUInt32 (xs 1) >>> (Int32.toUInt32 24 &&& Int32.toUInt32 31)).toInt32) &&& 255 = b3) (g0 : ((xs 1) >>> (0 &&& 31)) &&& 255 = b0) (g1 : ((xs 1) >>> (8 &&& 31)) &&& 255 = b1) (g2 : ((xs 1) >>> (16 &&& 31)) &&& 255 = b2) (g3 : ((xs 1) >>> (24 &&& 31)) &&& 255 = b3) (h0 : jbz b0) (h1 : jbv b1) (h2 : jbv b2) (h3 : jbz b3) : jRun ((4, xs) : jX) 2000 39 244 [.ref 66] (jzv314 b0 b1 b2 b3) = some (.inl (some (.int 0)), (jzv314 b0 b1 b2 b3)) := by
  refine jr_run (e := jm244) rfl (Nat.le_of_ble_eq_true rfl) ?_
  refine jl_s (S' := ((1, [(0, .ref 66)], [.ref 66], (jzv314 b0 b1 b2 b3)) : jS)) rfl ?_
  refine jl_s (S' := ((4, [(0, .ref 66)], [.int 0], (jzv314 b0 b1 b2 b3)) : jS)) rfl ?_
  exact jl_r (r := (.inl (some (.int 0)), (jzv314 b0 b1 b2 b3))) rfl
set_option maxHeartbeats 4000000 in
set_option maxRecDepth 100000 in
theorem jzl641 (xs : Nat → Int32) (hop : xs 0 &&& 31 = 0) (b0 b1 b2 b3 : Int32) (e0 : ((Int32.toUInt32 (xs 1) >>> (Int32.toUInt32 0 &&& Int32.toUInt32 31)).toInt32) &&& 255 = b0) (e1 : ((Int32.toUInt32 (xs 1) >>> (Int32.toUInt32 8 &&& Int32.toUInt32 31)).toInt32) &&& 255 = b1) (e2 : ((Int32.toUInt32 (xs 1) >>> (Int32.toUInt32 16 &&& Int32.toUInt32 31)).toInt32) &&& 255 = b2) (e3 : ((Int32.toUInt32 (xs 1) >>> (Int32.toUInt32 24 &&& Int32.toUInt32 31)).toInt32) &&& 255 = b3) (g0 : ((xs 1) >>> (0 &&& 31)) &&& 255 = b0) (g1 : ((xs 1) >>> (8 &&& 31)) &&& 255 = b1) (g2 : ((xs 1) >>> (16 &&& 31)) &&& 255 = b2) (g3 : ((xs 1) >>> (24 &&& 31)) &&& 255 = b3) (h0 : jbz b0) (h1 : jbv b1) (h2 : jbv b2) (h3 : jbz b3) : jLoop (jRun ((4, xs) : jX) 2000 39) ((4, xs) : jX) jm18 1000 ((23, [(4, .int 0), (3, .ref 153), (2, .ref 66), (1, .ref 64), (0, .ref 63)], [], jzv181) : jS) = some (.inl (some (.int 1)), (jzv314 b0 b1 b2 b3)) := by
  refine jl_s (S' := ((25, [(4, .int 0), (3, .ref 153), (2, .ref 66), (1, .ref 64), (0, .ref 63)], [.int 0], jzv181) : jS)) rfl ?_
  refine jl_s (S' := ((26, [(4, .int 0), (3, .ref 153), (2, .ref 66), (1, .ref 64), (0, .ref 63)], [.ref 63, .int 0], jzv181) : jS)) rfl ?_
  refine jl_s (S' := ((27, [(4, .int 0), (3, .ref 153), (2, .ref 66), (1, .ref 64), (0, .ref 63)], [.int 4, .int 0], jzv181) : jS)) rfl ?_
  refine jl_s (S' := ((28, [(4, .int 0), (3, .ref 153), (2, .ref 66), (1, .ref 64), (0, .ref 63)], [.int 4, .int 4, .int 0], jzv181) : jS)) rfl ?_
  refine jl_s (S' := ((29, [(4, .int 0), (3, .ref 153), (2, .ref 66), (1, .ref 64), (0, .ref 63)], [.int 0, .int 0], jzv181) : jS)) rfl ?_
  refine jl_s (S' := ((32, [(4, .int 0), (3, .ref 153), (2, .ref 66), (1, .ref 64), (0, .ref 63)], [], jzv181) : jS)) rfl ?_
  refine jl_s (S' := ((33, [(4, .int 0), (3, .ref 153), (2, .ref 66), (1, .ref 64), (0, .ref 63)], [.ref 63], jzv181) : jS)) rfl ?_
  refine jl_s (S' := ((35, [(4, .int 0), (3, .ref 153), (2, .ref 66), (1, .ref 64), (0, .ref 63)], [.int 0, .ref 63], jzv181) : jS)) rfl ?_
  refine jl_s (S' := ((36, [(4, .int 0), (3, .ref 153), (2, .ref 66), (1, .ref 64), (0, .ref 63)], [.int (xs 0)], jzv181) : jS)) rfl ?_
  refine jl_s (S' := ((38, [(4, .int 0), (3, .ref 153), (2, .ref 66), (1, .ref 64), (0, .ref 63)], [.int 31, .int (xs 0)], jzv181) : jS)) rfl ?_
  refine jl_s (S' := ((39, [(4, .int 0), (3, .ref 153), (2, .ref 66), (1, .ref 64), (0, .ref 63)], [.int ((xs 0) &&& 31)], jzv181) : jS)) rfl ?_
  rw [hop]
  refine jl_s (S' := ((128, [(4, .int 0), (3, .ref 153), (2, .ref 66), (1, .ref 64), (0, .ref 63)], [], jzv181) : jS)) rfl ?_
  refine jl_s (S' := ((129, [(4, .int 0), (3, .ref 153), (2, .ref 66), (1, .ref 64), (0, .ref 63)], [.ref 64], jzv181) : jS)) rfl ?_
  refine jl_s (S' := ((130, [(4, .int 0), (3, .ref 153), (2, .ref 66), (1, .ref 64), (0, .ref 63)], [.ref 63, .ref 64], jzv181) : jS)) rfl ?_
  refine jl_s (S' := ((132, [(4, .int 0), (3, .ref 153), (2, .ref 66), (1, .ref 64), (0, .ref 63)], [.int 0, .ref 63, .ref 64], jzv181) : jS)) rfl ?_
  refine jl_s (S' := ((133, [(4, .int 0), (3, .ref 153), (2, .ref 66), (1, .ref 64), (0, .ref 63)], [.int 1, .int 0, .ref 63, .ref 64], jzv181) : jS)) rfl ?_
  refine jl_s (S' := ((134, [(4, .int 0), (3, .ref 153), (2, .ref 66), (1, .ref 64), (0, .ref 63)], [.int 1, .ref 63, .ref 64], jzv181) : jS)) rfl ?_
  refine jl_s (S' := ((135, [(4, .int 0), (3, .ref 153), (2, .ref 66), (1, .ref 64), (0, .ref 63)], [.int (xs 1), .ref 64], jzv181) : jS)) rfl ?_
  refine jl_s (S' := ((136, [(4, .int 0), (3, .ref 153), (2, .ref 66), (1, .ref 64), (0, .ref 63)], [.ref 153, .int (xs 1), .ref 64], jzv181) : jS)) rfl ?_
  refine jl_c (t := 0) (as := [.ref 64, .int (xs 1), .ref 153]) (V := jzv181) (r := (.inl (some (.int 0)), (jzv310 b0 b1 b2 b3))) (S' := ((139, [(4, .int 0), (3, .ref 153), (2, .ref 66), (1, .ref 64), (0, .ref 63)], [.int 0], (jzv310 b0 b1 b2 b3)) : jS)) rfl (jzl622 xs hop b0 b1 b2 b3 e0 e1 e2 e3 g0 g1 g2 g3 h0 h1 h2 h3) rfl ?_
  refine jl_s (S' := ((141, [(5, .int 0), (4, .int 0), (3, .ref 153), (2, .ref 66), (1, .ref 64), (0, .ref 63)], [], (jzv310 b0 b1 b2 b3)) : jS)) rfl ?_
  refine jl_s (S' := ((142, [(5, .int 0), (4, .int 0), (3, .ref 153), (2, .ref 66), (1, .ref 64), (0, .ref 63)], [.ref 66], (jzv310 b0 b1 b2 b3)) : jS)) rfl ?_
  refine jl_s (S' := ((143, [(5, .int 0), (4, .int 0), (3, .ref 153), (2, .ref 66), (1, .ref 64), (0, .ref 63)], [.ref 63, .ref 66], (jzv310 b0 b1 b2 b3)) : jS)) rfl ?_
  refine jl_s (S' := ((145, [(5, .int 0), (4, .int 0), (3, .ref 153), (2, .ref 66), (1, .ref 64), (0, .ref 63)], [.int 0, .ref 63, .ref 66], (jzv310 b0 b1 b2 b3)) : jS)) rfl ?_
  refine jl_s (S' := ((146, [(5, .int 0), (4, .int 0), (3, .ref 153), (2, .ref 66), (1, .ref 64), (0, .ref 63)], [.int 1, .int 0, .ref 63, .ref 66], (jzv310 b0 b1 b2 b3)) : jS)) rfl ?_
  refine jl_s (S' := ((147, [(5, .int 0), (4, .int 0), (3, .ref 153), (2, .ref 66), (1, .ref 64), (0, .ref 63)], [.int 1, .ref 63, .ref 66], (jzv310 b0 b1 b2 b3)) : jS)) rfl ?_
  refine jl_s (S' := ((148, [(5, .int 0), (4, .int 0), (3, .ref 153), (2, .ref 66), (1, .ref 64), (0, .ref 63)], [.int (xs 1), .ref 66], (jzv310 b0 b1 b2 b3)) : jS)) rfl ?_
  refine jl_c (t := 248) (as := [.ref 66, .int (xs 1)]) (V := (jzv310 b0 b1 b2 b3)) (r := (.inl (some (.int 2)), (jzv314 b0 b1 b2 b3))) (S' := ((151, [(5, .int 0), (4, .int 0), (3, .ref 153), (2, .ref 66), (1, .ref 64), (0, .ref 63)], [.int 2], (jzv314 b0 b1 b2 b3)) : jS)) rfl (jzrp_ZVVZ xs b0 b1 b2 b3 g0 g1 g2 g3 h0 h1 h2 h3 ) rfl ?_
  refine jl_s (S' := ((153, [(6, .int 2), (5, .int 0), (4, .int 0), (3, .ref 153), (2, .ref 66), (1, .ref 64), (0, .ref 63)], [], (jzv314 b0 b1 b2 b3)) : jS)) rfl ?_
  refine jl_s (S' := ((154, [(6, .int 2), (5, .int 0), (4, .int 0), (3, .ref 153), (2, .ref 66), (1, .ref 64), (0, .ref 63)], [.ref 66], (jzv314 b0 b1 b2 b3)) : jS)) rfl ?_
  refine jl_c (t := 244) (as := [.ref 66]) (V := (jzv314 b0 b1 b2 b3)) (r := (.inl (some (.int 0)), (jzv314 b0 b1 b2 b3))) (S' := ((157, [(6, .int 2), (5, .int 0), (4, .int 0), (3, .ref 153), (2, .ref 66), (1, .ref 64), (0, .ref 63)], [.int 0], (jzv314 b0 b1 b2 b3)) : jS)) rfl (jzl640 xs hop b0 b1 b2 b3 e0 e1 e2 e3 g0 g1 g2 g3 h0 h1 h2 h3) rfl ?_
  refine jl_s (S' := ((159, [(6, .int 2), (5, .int 0), (4, .int 0), (3, .ref 153), (2, .ref 66), (1, .ref 64), (0, .ref 63)], [.int 0, .int 0], (jzv314 b0 b1 b2 b3)) : jS)) rfl ?_
  refine jl_s (S' := ((164, [(6, .int 2), (5, .int 0), (4, .int 0), (3, .ref 153), (2, .ref 66), (1, .ref 64), (0, .ref 63)], [], (jzv314 b0 b1 b2 b3)) : jS)) rfl ?_
  refine jl_s (S' := ((166, [(6, .int 2), (5, .int 0), (4, .int 0), (3, .ref 153), (2, .ref 66), (1, .ref 64), (0, .ref 63)], [.int 0], (jzv314 b0 b1 b2 b3)) : jS)) rfl ?_
  refine jl_s (S' := ((169, [(6, .int 2), (5, .int 0), (4, .int 0), (3, .ref 153), (2, .ref 66), (1, .ref 64), (0, .ref 63)], [], (jzv314 b0 b1 b2 b3)) : jS)) rfl ?_
  refine jl_s (S' := ((170, [(6, .int 2), (5, .int 0), (4, .int 0), (3, .ref 153), (2, .ref 66), (1, .ref 64), (0, .ref 63)], [.ref 153], (jzv314 b0 b1 b2 b3)) : jS)) rfl ?_
  refine jl_s (S' := ((171, [(6, .int 2), (5, .int 0), (4, .int 0), (3, .ref 153), (2, .ref 66), (1, .ref 64), (0, .ref 63)], [.int 0, .ref 153], (jzv314 b0 b1 b2 b3)) : jS)) rfl ?_
  refine jl_s (S' := ((172, [(6, .int 2), (5, .int 0), (4, .int 0), (3, .ref 153), (2, .ref 66), (1, .ref 64), (0, .ref 63)], [.long 2], (jzv314 b0 b1 b2 b3)) : jS)) rfl ?_
  refine jl_s (S' := ((174, [(6, .int 2), (5, .int 0), (4, .int 0), (3, .ref 153), (2, .ref 66), (1, .ref 64), (0, .ref 63)], [.int 2, .long 2], (jzv314 b0 b1 b2 b3)) : jS)) rfl ?_
  refine jl_s (S' := ((175, [(6, .int 2), (5, .int 0), (4, .int 0), (3, .ref 153), (2, .ref 66), (1, .ref 64), (0, .ref 63)], [.long 2, .long 2], (jzv314 b0 b1 b2 b3)) : jS)) rfl ?_
  refine jl_s (S' := ((176, [(6, .int 2), (5, .int 0), (4, .int 0), (3, .ref 153), (2, .ref 66), (1, .ref 64), (0, .ref 63)], [.int 0], (jzv314 b0 b1 b2 b3)) : jS)) rfl ?_
  refine jl_s (S' := ((181, [(6, .int 2), (5, .int 0), (4, .int 0), (3, .ref 153), (2, .ref 66), (1, .ref 64), (0, .ref 63)], [], (jzv314 b0 b1 b2 b3)) : jS)) rfl ?_
  refine jl_s (S' := ((1193, [(6, .int 2), (5, .int 0), (4, .int 0), (3, .ref 153), (2, .ref 66), (1, .ref 64), (0, .ref 63)], [], (jzv314 b0 b1 b2 b3)) : jS)) rfl ?_
  refine jl_s (S' := ((1196, [(4, .int 4), (6, .int 2), (5, .int 0), (3, .ref 153), (2, .ref 66), (1, .ref 64), (0, .ref 63)], [], (jzv314 b0 b1 b2 b3)) : jS)) rfl ?_
  refine jl_s (S' := ((23, [(4, .int 4), (6, .int 2), (5, .int 0), (3, .ref 153), (2, .ref 66), (1, .ref 64), (0, .ref 63)], [], (jzv314 b0 b1 b2 b3)) : jS)) rfl ?_
  refine jl_s (S' := ((25, [(4, .int 4), (6, .int 2), (5, .int 0), (3, .ref 153), (2, .ref 66), (1, .ref 64), (0, .ref 63)], [.int 4], (jzv314 b0 b1 b2 b3)) : jS)) rfl ?_
  refine jl_s (S' := ((26, [(4, .int 4), (6, .int 2), (5, .int 0), (3, .ref 153), (2, .ref 66), (1, .ref 64), (0, .ref 63)], [.ref 63, .int 4], (jzv314 b0 b1 b2 b3)) : jS)) rfl ?_
  refine jl_s (S' := ((27, [(4, .int 4), (6, .int 2), (5, .int 0), (3, .ref 153), (2, .ref 66), (1, .ref 64), (0, .ref 63)], [.int 4, .int 4], (jzv314 b0 b1 b2 b3)) : jS)) rfl ?_
  refine jl_s (S' := ((28, [(4, .int 4), (6, .int 2), (5, .int 0), (3, .ref 153), (2, .ref 66), (1, .ref 64), (0, .ref 63)], [.int 4, .int 4, .int 4], (jzv314 b0 b1 b2 b3)) : jS)) rfl ?_
  refine jl_s (S' := ((29, [(4, .int 4), (6, .int 2), (5, .int 0), (3, .ref 153), (2, .ref 66), (1, .ref 64), (0, .ref 63)], [.int 0, .int 4], (jzv314 b0 b1 b2 b3)) : jS)) rfl ?_
  refine jl_s (S' := ((1199, [(4, .int 4), (6, .int 2), (5, .int 0), (3, .ref 153), (2, .ref 66), (1, .ref 64), (0, .ref 63)], [], (jzv314 b0 b1 b2 b3)) : jS)) rfl ?_
  refine jl_s (S' := ((1200, [(4, .int 4), (6, .int 2), (5, .int 0), (3, .ref 153), (2, .ref 66), (1, .ref 64), (0, .ref 63)], [.int 1], (jzv314 b0 b1 b2 b3)) : jS)) rfl ?_
  exact jl_r (r := (.inl (some (.int 1)), (jzv314 b0 b1 b2 b3))) rfl
-- op 0 ZVVZ: jzl641
def jzc210 : jC := .inl (2, 1, .inr (.inl (vp_updL (fun _ => 0) 0 3)))
def jzv315 (b0 b1 b2 b3 : Int32) : jH := [jzc190, (jzc189 b0 b1 b2 b3), jzc117, jzc7, jzc9, jzc9, jzc9, jzc9, jzc9, jzc17, jzc19, jzc19, jzc19, jzc19, jzc19, jzc19, jzc19, jzc19, jzc28, jzc28, jzc28, jzc28, jzc28, jzc28, jzc28, jzc28, jzc28, jzc28, jzc28, jzc28, jzc28, jzc28, jzc43, jzc43, jzc43, jzc43, jzc43, jzc49, jzc49, jzc52, jzc52, jzc52, jzc56, jzc56, jzc59, jzc56, jzc62, jzc28, jzc28, jzc28, jzc28, jzc28, jzc69, jzc71, jzc73, jzc43, jzc76, jzc52, jzc52, jzc80, jzc80, jzc80, jzc84, jzc52, jzc52, jzc52, jzc52, jzc52, jzc52, jzc52, jzc93, jzc93, jzc52, jzc52, jzc98, jzc100, jzc93, jzc52, jzc52, jzc52, jzc52, jzc107, jzc109, jzc111, jzc100, jzc100, jzc100, jzc111, jzc111, jzc210]
set_option maxHeartbeats 4000000 in
set_option maxRecDepth 100000 in
theorem jzl642 (xs : Nat → Int32) (hop : xs 0 &&& 31 = 0) (b0 b1 b2 b3 : Int32) (e0 : ((Int32.toUInt32 (xs 1) >>> (Int32.toUInt32 0 &&& Int32.toUInt32 31)).toInt32) &&& 255 = b0) (e1 : ((Int32.toUInt32 (xs 1) >>> (Int32.toUInt32 8 &&& Int32.toUInt32 31)).toInt32) &&& 255 = b1) (e2 : ((Int32.toUInt32 (xs 1) >>> (Int32.toUInt32 16 &&& Int32.toUInt32 31)).toInt32) &&& 255 = b2) (e3 : ((Int32.toUInt32 (xs 1) >>> (Int32.toUInt32 24 &&& Int32.toUInt32 31)).toInt32) &&& 255 = b3) (g0 : ((xs 1) >>> (0 &&& 31)) &&& 255 = b0) (g1 : ((xs 1) >>> (8 &&& 31)) &&& 255 = b1) (g2 : ((xs 1) >>> (16 &&& 31)) &&& 255 = b2) (g3 : ((xs 1) >>> (24 &&& 31)) &&& 255 = b3) (h0 : jbz b0) (h1 : jbv b1) (h2 : jbv b2) (h3 : jbv b3) : jRun ((4, xs) : jX) 2000 39 0 [.ref 64, .int (xs 1), .ref 153] jzv181 = some (.inl (some (.int 0)), (jzv315 b0 b1 b2 b3)) := by
  refine jr_run (e := jm0) rfl (Nat.le_of_ble_eq_true rfl) ?_
  refine jl_s (S' := ((1, [(0, .ref 64), (1, .int (xs 1)), (2, .ref 153)], [.ref 153], jzv181) : jS)) rfl ?_
  refine jl_s (S' := ((2, [(0, .ref 64), (1, .int (xs 1)), (2, .ref 153)], [.int 0, .ref 153], jzv181) : jS)) rfl ?_
  refine jl_s (S' := ((3, [(0, .ref 64), (1, .int (xs 1)), (2, .ref 153)], [.ref 64, .int 0, .ref 153], jzv181) : jS)) rfl ?_
  refine jl_s (S' := ((4, [(0, .ref 64), (1, .int (xs 1)), (2, .ref 153)], [.int (xs 1), .ref 64, .int 0, .ref 153], jzv181) : jS)) rfl ?_
  refine jl_c (t := 20) (as := [.ref 64, .int (xs 1)]) (V := jzv181) (r := (.inl (some (.int 3)), (jzv274 b0 b1 b2 b3))) (S' := ((7, [(0, .ref 64), (1, .int (xs 1)), (2, .ref 153)], [.int 3, .int 0, .ref 153], (jzv274 b0 b1 b2 b3)) : jS)) rfl (jzcp_ZVVV xs b0 b1 b2 b3 e0 e1 e2 e3 h0 h1 h2 h3 ) rfl ?_
  refine jl_s (S' := ((8, [(0, .ref 64), (1, .int (xs 1)), (2, .ref 153)], [.long 3, .int 0, .ref 153], (jzv274 b0 b1 b2 b3)) : jS)) rfl ?_
  refine jl_s (S' := ((9, [(0, .ref 64), (1, .int (xs 1)), (2, .ref 153)], [], (jzv315 b0 b1 b2 b3)) : jS)) rfl ?_
  refine jl_s (S' := ((18, [(0, .ref 64), (1, .int (xs 1)), (2, .ref 153)], [], (jzv315 b0 b1 b2 b3)) : jS)) rfl ?_
  refine jl_s (S' := ((19, [(0, .ref 64), (1, .int (xs 1)), (2, .ref 153)], [.int 0], (jzv315 b0 b1 b2 b3)) : jS)) rfl ?_
  exact jl_r (r := (.inl (some (.int 0)), (jzv315 b0 b1 b2 b3))) rfl
set_option maxHeartbeats 4000000 in
set_option maxRecDepth 100000 in
theorem jzq644 (xs : Nat → Int32) (b0 b1 b2 b3 : Int32) (V : jH) (e : ((xs 1) >>> (24 &&& 31)) &&& 255 = b3) (h : jbv b3) {f : Nat} {q : jO × jH} (hq : jLoop (jRun ((4, xs) : jX) 2000 38) ((4, xs) : jX) jm248 f ((7, [(4, .int 32), (3, .int 3), (2, .int 0), (5, .int (b3)), (0, .ref 66), (1, .int (xs 1))], [], V) : jS) = some q) : jLoop (jRun ((4, xs) : jX) 2000 38) ((4, xs) : jX) jm248 (f + 27) ((7, [(4, .int 24), (3, .int 2), (2, .int 0), (5, .int (b2)), (0, .ref 66), (1, .int (xs 1))], [], V) : jS) = some q := by
  refine jl_s (S' := ((9, [(4, .int 24), (3, .int 2), (2, .int 0), (5, .int (b2)), (0, .ref 66), (1, .int (xs 1))], [.int 24], V) : jS)) rfl ?_
  refine jl_s (S' := ((11, [(4, .int 24), (3, .int 2), (2, .int 0), (5, .int (b2)), (0, .ref 66), (1, .int (xs 1))], [.int 32, .int 24], V) : jS)) rfl ?_
  refine jl_s (S' := ((14, [(4, .int 24), (3, .int 2), (2, .int 0), (5, .int (b2)), (0, .ref 66), (1, .int (xs 1))], [], V) : jS)) rfl ?_
  refine jl_s (S' := ((15, [(4, .int 24), (3, .int 2), (2, .int 0), (5, .int (b2)), (0, .ref 66), (1, .int (xs 1))], [.int (xs 1)], V) : jS)) rfl ?_
  refine jl_s (S' := ((17, [(4, .int 24), (3, .int 2), (2, .int 0), (5, .int (b2)), (0, .ref 66), (1, .int (xs 1))], [.int 24, .int (xs 1)], V) : jS)) rfl ?_
  refine jl_s (S' := ((18, [(4, .int 24), (3, .int 2), (2, .int 0), (5, .int (b2)), (0, .ref 66), (1, .int (xs 1))], [.int ((xs 1) >>> (24 &&& 31))], V) : jS)) rfl ?_
  refine jl_s (S' := ((21, [(4, .int 24), (3, .int 2), (2, .int 0), (5, .int (b2)), (0, .ref 66), (1, .int (xs 1))], [.int 255, .int ((xs 1) >>> (24 &&& 31))], V) : jS)) rfl ?_
  refine jl_s (S' := ((22, [(4, .int 24), (3, .int 2), (2, .int 0), (5, .int (b2)), (0, .ref 66), (1, .int (xs 1))], [.int (((xs 1) >>> (24 &&& 31)) &&& 255)], V) : jS)) rfl ?_
  rw [e]
  refine jl_s (S' := ((24, [(5, .int (b3)), (4, .int 24), (3, .int 2), (2, .int 0), (0, .ref 66), (1, .int (xs 1))], [], V) : jS)) rfl ?_
  refine jl_s (S' := ((25, [(5, .int (b3)), (4, .int 24), (3, .int 2), (2, .int 0), (0, .ref 66), (1, .int (xs 1))], [.int 0], V) : jS)) rfl ?_
  refine jl_s (S' := ((28, [(5, .int (b3)), (4, .int 24), (3, .int 2), (2, .int 0), (0, .ref 66), (1, .int (xs 1))], [], V) : jS)) rfl ?_
  refine jl_s (S' := ((30, [(5, .int (b3)), (4, .int 24), (3, .int 2), (2, .int 0), (0, .ref 66), (1, .int (xs 1))], [.int (b3)], V) : jS)) rfl ?_
  refine jl_iff (e := jm248) (o := 15) rfl (h.1.1) ?_
  refine jl_s (S' := ((35, [(5, .int (b3)), (4, .int 24), (3, .int 2), (2, .int 0), (0, .ref 66), (1, .int (xs 1))], [.int (b3)], V) : jS)) rfl ?_
  refine jl_c (t := 247) (as := [.int (b3)]) (V := V) (r := (.inl (some (.int 1)), V)) (S' := ((38, [(5, .int (b3)), (4, .int 24), (3, .int 2), (2, .int 0), (0, .ref 66), (1, .int (xs 1))], [.int 1], V) : jS)) rfl (jz_sv ((4, xs) : jX) V b3 h ) rfl ?_
  refine jl_s (S' := ((45, [(5, .int (b3)), (4, .int 24), (3, .int 2), (2, .int 0), (0, .ref 66), (1, .int (xs 1))], [], V) : jS)) rfl ?_
  refine jl_s (S' := ((46, [(5, .int (b3)), (4, .int 24), (3, .int 2), (2, .int 0), (0, .ref 66), (1, .int (xs 1))], [.int 0], V) : jS)) rfl ?_
  refine jl_s (S' := ((47, [(2, .int 0), (5, .int (b3)), (4, .int 24), (3, .int 2), (0, .ref 66), (1, .int (xs 1))], [], V) : jS)) rfl ?_
  refine jl_s (S' := ((49, [(2, .int 0), (5, .int (b3)), (4, .int 24), (3, .int 2), (0, .ref 66), (1, .int (xs 1))], [.int (b3)], V) : jS)) rfl ?_
  refine jl_iff (e := jm248) (o := 9) rfl (h.1.1) ?_
  refine jl_s (S' := ((53, [(2, .int 0), (5, .int (b3)), (4, .int 24), (3, .int 2), (0, .ref 66), (1, .int (xs 1))], [.int 2], V) : jS)) rfl ?_
  refine jl_s (S' := ((54, [(2, .int 0), (5, .int (b3)), (4, .int 24), (3, .int 2), (0, .ref 66), (1, .int (xs 1))], [.int 1, .int 2], V) : jS)) rfl ?_
  refine jl_s (S' := ((55, [(2, .int 0), (5, .int (b3)), (4, .int 24), (3, .int 2), (0, .ref 66), (1, .int (xs 1))], [.int 3], V) : jS)) rfl ?_
  refine jl_s (S' := ((59, [(2, .int 0), (5, .int (b3)), (4, .int 24), (3, .int 2), (0, .ref 66), (1, .int (xs 1))], [.int 3], V) : jS)) rfl ?_
  refine jl_s (S' := ((60, [(3, .int 3), (2, .int 0), (5, .int (b3)), (4, .int 24), (0, .ref 66), (1, .int (xs 1))], [], V) : jS)) rfl ?_
  refine jl_s (S' := ((63, [(4, .int 32), (3, .int 3), (2, .int 0), (5, .int (b3)), (0, .ref 66), (1, .int (xs 1))], [], V) : jS)) rfl ?_
  refine jl_s (S' := ((7, [(4, .int 32), (3, .int 3), (2, .int 0), (5, .int (b3)), (0, .ref 66), (1, .int (xs 1))], [], V) : jS)) rfl ?_
  exact hq
set_option maxHeartbeats 4000000 in
set_option maxRecDepth 100000 in
theorem jzl645 (xs : Nat → Int32) (b0 b1 b2 b3 : Int32) : jRun ((4, xs) : jX) 2000 38 245 [.ref 66, .int 0, .int 0, .int 0] (jzv315 b0 b1 b2 b3) = some (.inl (some (.int 0)), (jzv315 b0 b1 b2 b3)) := by
  refine jr_run (e := jm245) rfl (Nat.le_of_ble_eq_true rfl) ?_
  refine jl_s (S' := ((1, [(0, .ref 66), (1, .int 0), (2, .int 0), (3, .int 0)], [.ref 66], (jzv315 b0 b1 b2 b3)) : jS)) rfl ?_
  refine jl_s (S' := ((2, [(0, .ref 66), (1, .int 0), (2, .int 0), (3, .int 0)], [.int 0, .ref 66], (jzv315 b0 b1 b2 b3)) : jS)) rfl ?_
  refine jl_s (S' := ((9, [(0, .ref 66), (1, .int 0), (2, .int 0), (3, .int 0)], [.ref 66], (jzv315 b0 b1 b2 b3)) : jS)) rfl ?_
  refine jl_s (S' := ((10, [(0, .ref 66), (1, .int 0), (2, .int 0), (3, .int 0)], [.int 0, .ref 66], (jzv315 b0 b1 b2 b3)) : jS)) rfl ?_
  refine jl_s (S' := ((17, [(0, .ref 66), (1, .int 0), (2, .int 0), (3, .int 0)], [.ref 66], (jzv315 b0 b1 b2 b3)) : jS)) rfl ?_
  refine jl_s (S' := ((18, [(0, .ref 66), (1, .int 0), (2, .int 0), (3, .int 0)], [.int 0, .ref 66], (jzv315 b0 b1 b2 b3)) : jS)) rfl ?_
  refine jl_s (S' := ((25, [(0, .ref 66), (1, .int 0), (2, .int 0), (3, .int 0)], [.ref 66], (jzv315 b0 b1 b2 b3)) : jS)) rfl ?_
  refine jl_s (S' := ((26, [(0, .ref 66), (1, .int 0), (2, .int 0), (3, .int 0)], [.int 0, .ref 66], (jzv315 b0 b1 b2 b3)) : jS)) rfl ?_
  refine jl_s (S' := ((29, [(0, .ref 66), (1, .int 0), (2, .int 0), (3, .int 0)], [], (jzv315 b0 b1 b2 b3)) : jS)) rfl ?_
  refine jl_s (S' := ((30, [(0, .ref 66), (1, .int 0), (2, .int 0), (3, .int 0)], [.ref 66], (jzv315 b0 b1 b2 b3)) : jS)) rfl ?_
  refine jl_s (S' := ((33, [(0, .ref 66), (1, .int 0), (2, .int 0), (3, .int 0)], [.int 0], (jzv315 b0 b1 b2 b3)) : jS)) rfl ?_
  refine jl_s (S' := ((40, [(0, .ref 66), (1, .int 0), (2, .int 0), (3, .int 0)], [], (jzv315 b0 b1 b2 b3)) : jS)) rfl ?_
  refine jl_s (S' := ((41, [(0, .ref 66), (1, .int 0), (2, .int 0), (3, .int 0)], [.int 0], (jzv315 b0 b1 b2 b3)) : jS)) rfl ?_
  exact jl_r (r := (.inl (some (.int 0)), (jzv315 b0 b1 b2 b3))) rfl
set_option maxHeartbeats 4000000 in
set_option maxRecDepth 100000 in
theorem jzq647 (xs : Nat → Int32) (b0 b1 b2 b3 : Int32) {f : Nat} {q : jO × jH} (hq : jLoop (jRun ((4, xs) : jX) 2000 38) ((4, xs) : jX) jm248 f ((101, [(4, .int 0), (3, .int 3), (2, .int 0), (5, .int (b3)), (0, .ref 66), (1, .int (xs 1))], [], (jzv315 b0 b1 b2 b3)) : jS) = some q) : jLoop (jRun ((4, xs) : jX) 2000 38) ((4, xs) : jX) jm248 (f + 19) ((7, [(4, .int 32), (3, .int 3), (2, .int 0), (5, .int (b3)), (0, .ref 66), (1, .int (xs 1))], [], (jzv315 b0 b1 b2 b3)) : jS) = some q := by
  refine jl_s (S' := ((9, [(4, .int 32), (3, .int 3), (2, .int 0), (5, .int (b3)), (0, .ref 66), (1, .int (xs 1))], [.int 32], (jzv315 b0 b1 b2 b3)) : jS)) rfl ?_
  refine jl_s (S' := ((11, [(4, .int 32), (3, .int 3), (2, .int 0), (5, .int (b3)), (0, .ref 66), (1, .int (xs 1))], [.int 32, .int 32], (jzv315 b0 b1 b2 b3)) : jS)) rfl ?_
  refine jl_s (S' := ((66, [(4, .int 32), (3, .int 3), (2, .int 0), (5, .int (b3)), (0, .ref 66), (1, .int (xs 1))], [], (jzv315 b0 b1 b2 b3)) : jS)) rfl ?_
  refine jl_s (S' := ((67, [(4, .int 32), (3, .int 3), (2, .int 0), (5, .int (b3)), (0, .ref 66), (1, .int (xs 1))], [.ref 66], (jzv315 b0 b1 b2 b3)) : jS)) rfl ?_
  refine jl_s (S' := ((68, [(4, .int 32), (3, .int 3), (2, .int 0), (5, .int (b3)), (0, .ref 66), (1, .int (xs 1))], [.int 0, .ref 66], (jzv315 b0 b1 b2 b3)) : jS)) rfl ?_
  refine jl_s (S' := ((69, [(4, .int 32), (3, .int 3), (2, .int 0), (5, .int (b3)), (0, .ref 66), (1, .int (xs 1))], [.int 0, .int 0, .ref 66], (jzv315 b0 b1 b2 b3)) : jS)) rfl ?_
  refine jl_s (S' := ((72, [(4, .int 32), (3, .int 3), (2, .int 0), (5, .int (b3)), (0, .ref 66), (1, .int (xs 1))], [.int 0, .ref 66], (jzv315 b0 b1 b2 b3)) : jS)) rfl ?_
  refine jl_s (S' := ((73, [(4, .int 32), (3, .int 3), (2, .int 0), (5, .int (b3)), (0, .ref 66), (1, .int (xs 1))], [.ref 66, .int 0, .ref 66], (jzv315 b0 b1 b2 b3)) : jS)) rfl ?_
  refine jl_s (S' := ((76, [(4, .int 32), (3, .int 3), (2, .int 0), (5, .int (b3)), (0, .ref 66), (1, .int (xs 1))], [.int 0, .int 0, .ref 66], (jzv315 b0 b1 b2 b3)) : jS)) rfl ?_
  refine jl_s (S' := ((77, [(4, .int 32), (3, .int 3), (2, .int 0), (5, .int (b3)), (0, .ref 66), (1, .int (xs 1))], [.int 3, .int 0, .int 0, .ref 66], (jzv315 b0 b1 b2 b3)) : jS)) rfl ?_
  refine jl_s (S' := ((78, [(4, .int 32), (3, .int 3), (2, .int 0), (5, .int (b3)), (0, .ref 66), (1, .int (xs 1))], [.int 3, .int 0, .ref 66], (jzv315 b0 b1 b2 b3)) : jS)) rfl ?_
  refine jl_s (S' := ((81, [(4, .int 32), (3, .int 3), (2, .int 0), (5, .int (b3)), (0, .ref 66), (1, .int (xs 1))], [.int 3000, .int 3, .int 0, .ref 66], (jzv315 b0 b1 b2 b3)) : jS)) rfl ?_
  refine jl_s (S' := ((88, [(4, .int 32), (3, .int 3), (2, .int 0), (5, .int (b3)), (0, .ref 66), (1, .int (xs 1))], [.int 0, .ref 66], (jzv315 b0 b1 b2 b3)) : jS)) rfl ?_
  refine jl_s (S' := ((89, [(4, .int 32), (3, .int 3), (2, .int 0), (5, .int (b3)), (0, .ref 66), (1, .int (xs 1))], [.int 0, .int 0, .ref 66], (jzv315 b0 b1 b2 b3)) : jS)) rfl ?_
  refine jl_s (S' := ((90, [(4, .int 32), (3, .int 3), (2, .int 0), (5, .int (b3)), (0, .ref 66), (1, .int (xs 1))], [.int 0, .int 0, .int 0, .ref 66], (jzv315 b0 b1 b2 b3)) : jS)) rfl ?_
  refine jl_c (t := 245) (as := [.ref 66, .int 0, .int 0, .int 0]) (V := (jzv315 b0 b1 b2 b3)) (r := (.inl (some (.int 0)), (jzv315 b0 b1 b2 b3))) (S' := ((93, [(4, .int 32), (3, .int 3), (2, .int 0), (5, .int (b3)), (0, .ref 66), (1, .int (xs 1))], [.int 0], (jzv315 b0 b1 b2 b3)) : jS)) rfl (jzl645 xs b0 b1 b2 b3) rfl ?_
  refine jl_s (S' := ((98, [(4, .int 32), (3, .int 3), (2, .int 0), (5, .int (b3)), (0, .ref 66), (1, .int (xs 1))], [], (jzv315 b0 b1 b2 b3)) : jS)) rfl ?_
  refine jl_s (S' := ((99, [(4, .int 32), (3, .int 3), (2, .int 0), (5, .int (b3)), (0, .ref 66), (1, .int (xs 1))], [.int 0], (jzv315 b0 b1 b2 b3)) : jS)) rfl ?_
  refine jl_s (S' := ((101, [(4, .int 0), (3, .int 3), (2, .int 0), (5, .int (b3)), (0, .ref 66), (1, .int (xs 1))], [], (jzv315 b0 b1 b2 b3)) : jS)) rfl ?_
  exact hq
set_option maxHeartbeats 4000000 in
set_option maxRecDepth 100000 in
theorem jzq649 (xs : Nat → Int32) (b0 b1 b2 b3 : Int32) (e : ((xs 1) >>> (0 &&& 31)) &&& 255 = b0) (h : jbz b0) {f : Nat} {q : jO × jH} (hq : jLoop (jRun ((4, xs) : jX) 2000 38) ((4, xs) : jX) jm248 f ((101, [(4, .int 8), (5, .int (b0)), (3, .int 3), (2, .int 0), (0, .ref 66), (1, .int (xs 1))], [], (jzv315 b0 b1 b2 b3)) : jS) = some q) : jLoop (jRun ((4, xs) : jX) 2000 38) ((4, xs) : jX) jm248 (f + 13) ((101, [(4, .int 0), (3, .int 3), (2, .int 0), (5, .int (b3)), (0, .ref 66), (1, .int (xs 1))], [], (jzv315 b0 b1 b2 b3)) : jS) = some q := by
  refine jl_s (S' := ((103, [(4, .int 0), (3, .int 3), (2, .int 0), (5, .int (b3)), (0, .ref 66), (1, .int (xs 1))], [.int 0], (jzv315 b0 b1 b2 b3)) : jS)) rfl ?_
  refine jl_s (S' := ((105, [(4, .int 0), (3, .int 3), (2, .int 0), (5, .int (b3)), (0, .ref 66), (1, .int (xs 1))], [.int 32, .int 0], (jzv315 b0 b1 b2 b3)) : jS)) rfl ?_
  refine jl_s (S' := ((108, [(4, .int 0), (3, .int 3), (2, .int 0), (5, .int (b3)), (0, .ref 66), (1, .int (xs 1))], [], (jzv315 b0 b1 b2 b3)) : jS)) rfl ?_
  refine jl_s (S' := ((109, [(4, .int 0), (3, .int 3), (2, .int 0), (5, .int (b3)), (0, .ref 66), (1, .int (xs 1))], [.int (xs 1)], (jzv315 b0 b1 b2 b3)) : jS)) rfl ?_
  refine jl_s (S' := ((111, [(4, .int 0), (3, .int 3), (2, .int 0), (5, .int (b3)), (0, .ref 66), (1, .int (xs 1))], [.int 0, .int (xs 1)], (jzv315 b0 b1 b2 b3)) : jS)) rfl ?_
  refine jl_s (S' := ((112, [(4, .int 0), (3, .int 3), (2, .int 0), (5, .int (b3)), (0, .ref 66), (1, .int (xs 1))], [.int ((xs 1) >>> (0 &&& 31))], (jzv315 b0 b1 b2 b3)) : jS)) rfl ?_
  refine jl_s (S' := ((115, [(4, .int 0), (3, .int 3), (2, .int 0), (5, .int (b3)), (0, .ref 66), (1, .int (xs 1))], [.int 255, .int ((xs 1) >>> (0 &&& 31))], (jzv315 b0 b1 b2 b3)) : jS)) rfl ?_
  refine jl_s (S' := ((116, [(4, .int 0), (3, .int 3), (2, .int 0), (5, .int (b3)), (0, .ref 66), (1, .int (xs 1))], [.int (((xs 1) >>> (0 &&& 31)) &&& 255)], (jzv315 b0 b1 b2 b3)) : jS)) rfl ?_
  rw [e]
  refine jl_s (S' := ((118, [(5, .int (b0)), (4, .int 0), (3, .int 3), (2, .int 0), (0, .ref 66), (1, .int (xs 1))], [], (jzv315 b0 b1 b2 b3)) : jS)) rfl ?_
  refine jl_s (S' := ((120, [(5, .int (b0)), (4, .int 0), (3, .int 3), (2, .int 0), (0, .ref 66), (1, .int (xs 1))], [.int (b0)], (jzv315 b0 b1 b2 b3)) : jS)) rfl ?_
  refine jl_ift (e := jm248) (o := 24) rfl (h.1) (t := 144) rfl ?_
  refine jl_s (S' := ((147, [(4, .int 8), (5, .int (b0)), (3, .int 3), (2, .int 0), (0, .ref 66), (1, .int (xs 1))], [], (jzv315 b0 b1 b2 b3)) : jS)) rfl ?_
  refine jl_s (S' := ((101, [(4, .int 8), (5, .int (b0)), (3, .int 3), (2, .int 0), (0, .ref 66), (1, .int (xs 1))], [], (jzv315 b0 b1 b2 b3)) : jS)) rfl ?_
  exact hq
def jzv316 (b0 b1 b2 b3 : Int32) : jH := [jzc190, (jzc189 b0 b1 b2 b3), jzc117, (jzc207 b0 b1 b2 b3), jzc9, jzc9, jzc9, jzc9, jzc9, jzc17, jzc19, jzc19, jzc19, jzc19, jzc19, jzc19, jzc19, jzc19, jzc28, jzc28, jzc28, jzc28, jzc28, jzc28, jzc28, jzc28, jzc28, jzc28, jzc28, jzc28, jzc28, jzc28, jzc43, jzc43, jzc43, jzc43, jzc43, jzc49, jzc49, jzc52, jzc52, jzc52, jzc56, jzc56, jzc59, jzc56, jzc62, jzc28, jzc28, jzc28, jzc28, jzc28, jzc69, jzc71, jzc73, jzc43, jzc76, jzc52, jzc52, jzc80, jzc80, jzc80, jzc84, jzc52, jzc52, jzc52, jzc52, jzc52, jzc52, jzc52, jzc93, jzc93, jzc52, jzc52, jzc98, jzc100, jzc93, jzc52, jzc52, jzc52, jzc52, jzc107, jzc109, jzc111, jzc100, jzc100, jzc100, jzc111, jzc111, jzc210]
def jzv317 (b0 b1 b2 b3 : Int32) : jH := [jzc190, (jzc189 b0 b1 b2 b3), jzc202, (jzc207 b0 b1 b2 b3), jzc9, jzc9, jzc9, jzc9, jzc9, jzc17, jzc19, jzc19, jzc19, jzc19, jzc19, jzc19, jzc19, jzc19, jzc28, jzc28, jzc28, jzc28, jzc28, jzc28, jzc28, jzc28, jzc28, jzc28, jzc28, jzc28, jzc28, jzc28, jzc43, jzc43, jzc43, jzc43, jzc43, jzc49, jzc49, jzc52, jzc52, jzc52, jzc56, jzc56, jzc59, jzc56, jzc62, jzc28, jzc28, jzc28, jzc28, jzc28, jzc69, jzc71, jzc73, jzc43, jzc76, jzc52, jzc52, jzc80, jzc80, jzc80, jzc84, jzc52, jzc52, jzc52, jzc52, jzc52, jzc52, jzc52, jzc93, jzc93, jzc52, jzc52, jzc98, jzc100, jzc93, jzc52, jzc52, jzc52, jzc52, jzc107, jzc109, jzc111, jzc100, jzc100, jzc100, jzc111, jzc111, jzc210]
set_option maxHeartbeats 4000000 in
set_option maxRecDepth 100000 in
theorem jzq651 (xs : Nat → Int32) (b0 b1 b2 b3 : Int32) (e : ((xs 1) >>> (8 &&& 31)) &&& 255 = b1) (h : jbn b1) {f : Nat} {q : jO × jH} (hq : jLoop (jRun ((4, xs) : jX) 2000 38) ((4, xs) : jX) jm248 f ((101, [(4, .int 16), (5, .int (b1)), (3, .int 3), (2, .int 0), (0, .ref 66), (1, .int (xs 1))], [], (jzv317 b0 b1 b2 b3)) : jS) = some q) : jLoop (jRun ((4, xs) : jX) 2000 38) ((4, xs) : jX) jm248 (f + 25) ((101, [(4, .int 8), (5, .int (b0)), (3, .int 3), (2, .int 0), (0, .ref 66), (1, .int (xs 1))], [], (jzv315 b0 b1 b2 b3)) : jS) = some q := by
  refine jl_s (S' := ((103, [(4, .int 8), (5, .int (b0)), (3, .int 3), (2, .int 0), (0, .ref 66), (1, .int (xs 1))], [.int 8], (jzv315 b0 b1 b2 b3)) : jS)) rfl ?_
  refine jl_s (S' := ((105, [(4, .int 8), (5, .int (b0)), (3, .int 3), (2, .int 0), (0, .ref 66), (1, .int (xs 1))], [.int 32, .int 8], (jzv315 b0 b1 b2 b3)) : jS)) rfl ?_
  refine jl_s (S' := ((108, [(4, .int 8), (5, .int (b0)), (3, .int 3), (2, .int 0), (0, .ref 66), (1, .int (xs 1))], [], (jzv315 b0 b1 b2 b3)) : jS)) rfl ?_
  refine jl_s (S' := ((109, [(4, .int 8), (5, .int (b0)), (3, .int 3), (2, .int 0), (0, .ref 66), (1, .int (xs 1))], [.int (xs 1)], (jzv315 b0 b1 b2 b3)) : jS)) rfl ?_
  refine jl_s (S' := ((111, [(4, .int 8), (5, .int (b0)), (3, .int 3), (2, .int 0), (0, .ref 66), (1, .int (xs 1))], [.int 8, .int (xs 1)], (jzv315 b0 b1 b2 b3)) : jS)) rfl ?_
  refine jl_s (S' := ((112, [(4, .int 8), (5, .int (b0)), (3, .int 3), (2, .int 0), (0, .ref 66), (1, .int (xs 1))], [.int ((xs 1) >>> (8 &&& 31))], (jzv315 b0 b1 b2 b3)) : jS)) rfl ?_
  refine jl_s (S' := ((115, [(4, .int 8), (5, .int (b0)), (3, .int 3), (2, .int 0), (0, .ref 66), (1, .int (xs 1))], [.int 255, .int ((xs 1) >>> (8 &&& 31))], (jzv315 b0 b1 b2 b3)) : jS)) rfl ?_
  refine jl_s (S' := ((116, [(4, .int 8), (5, .int (b0)), (3, .int 3), (2, .int 0), (0, .ref 66), (1, .int (xs 1))], [.int (((xs 1) >>> (8 &&& 31)) &&& 255)], (jzv315 b0 b1 b2 b3)) : jS)) rfl ?_
  rw [e]
  refine jl_s (S' := ((118, [(5, .int (b1)), (4, .int 8), (3, .int 3), (2, .int 0), (0, .ref 66), (1, .int (xs 1))], [], (jzv315 b0 b1 b2 b3)) : jS)) rfl ?_
  refine jl_s (S' := ((120, [(5, .int (b1)), (4, .int 8), (3, .int 3), (2, .int 0), (0, .ref 66), (1, .int (xs 1))], [.int (b1)], (jzv315 b0 b1 b2 b3)) : jS)) rfl ?_
  refine jl_iff (e := jm248) (o := 24) rfl (h.1) ?_
  refine jl_s (S' := ((124, [(5, .int (b1)), (4, .int 8), (3, .int 3), (2, .int 0), (0, .ref 66), (1, .int (xs 1))], [.ref 66], (jzv315 b0 b1 b2 b3)) : jS)) rfl ?_
  refine jl_s (S' := ((127, [(5, .int (b1)), (4, .int 8), (3, .int 3), (2, .int 0), (0, .ref 66), (1, .int (xs 1))], [.ref 67], (jzv315 b0 b1 b2 b3)) : jS)) rfl ?_
  refine jl_s (S' := ((128, [(5, .int (b1)), (4, .int 8), (3, .int 3), (2, .int 0), (0, .ref 66), (1, .int (xs 1))], [.ref 66, .ref 67], (jzv315 b0 b1 b2 b3)) : jS)) rfl ?_
  refine jl_s (S' := ((131, [(5, .int (b1)), (4, .int 8), (3, .int 3), (2, .int 0), (0, .ref 66), (1, .int (xs 1))], [.int 0, .ref 67], (jzv315 b0 b1 b2 b3)) : jS)) rfl ?_
  refine jl_s (S' := ((133, [(5, .int (b1)), (4, .int 8), (3, .int 3), (2, .int 0), (0, .ref 66), (1, .int (xs 1))], [.int (b1), .int 0, .ref 67], (jzv315 b0 b1 b2 b3)) : jS)) rfl ?_
  refine jl_s (S' := ((134, [(5, .int (b1)), (4, .int 8), (3, .int 3), (2, .int 0), (0, .ref 66), (1, .int (xs 1))], [], (jzv316 b0 b1 b2 b3)) : jS)) rfl ?_
  refine jl_s (S' := ((135, [(5, .int (b1)), (4, .int 8), (3, .int 3), (2, .int 0), (0, .ref 66), (1, .int (xs 1))], [.ref 66], (jzv316 b0 b1 b2 b3)) : jS)) rfl ?_
  refine jl_s (S' := ((136, [(5, .int (b1)), (4, .int 8), (3, .int 3), (2, .int 0), (0, .ref 66), (1, .int (xs 1))], [.ref 66, .ref 66], (jzv316 b0 b1 b2 b3)) : jS)) rfl ?_
  refine jl_s (S' := ((139, [(5, .int (b1)), (4, .int 8), (3, .int 3), (2, .int 0), (0, .ref 66), (1, .int (xs 1))], [.int 0, .ref 66], (jzv316 b0 b1 b2 b3)) : jS)) rfl ?_
  refine jl_s (S' := ((140, [(5, .int (b1)), (4, .int 8), (3, .int 3), (2, .int 0), (0, .ref 66), (1, .int (xs 1))], [.int 1, .int 0, .ref 66], (jzv316 b0 b1 b2 b3)) : jS)) rfl ?_
  refine jl_s (S' := ((141, [(5, .int (b1)), (4, .int 8), (3, .int 3), (2, .int 0), (0, .ref 66), (1, .int (xs 1))], [.int 1, .ref 66], (jzv316 b0 b1 b2 b3)) : jS)) rfl ?_
  refine jl_s (S' := ((144, [(5, .int (b1)), (4, .int 8), (3, .int 3), (2, .int 0), (0, .ref 66), (1, .int (xs 1))], [], (jzv317 b0 b1 b2 b3)) : jS)) rfl ?_
  refine jl_s (S' := ((147, [(4, .int 16), (5, .int (b1)), (3, .int 3), (2, .int 0), (0, .ref 66), (1, .int (xs 1))], [], (jzv317 b0 b1 b2 b3)) : jS)) rfl ?_
  refine jl_s (S' := ((101, [(4, .int 16), (5, .int (b1)), (3, .int 3), (2, .int 0), (0, .ref 66), (1, .int (xs 1))], [], (jzv317 b0 b1 b2 b3)) : jS)) rfl ?_
  exact hq
def jzv318 (b0 b1 b2 b3 : Int32) : jH := [jzc190, (jzc189 b0 b1 b2 b3), jzc202, (jzc209 b0 b1 b2 b3), jzc9, jzc9, jzc9, jzc9, jzc9, jzc17, jzc19, jzc19, jzc19, jzc19, jzc19, jzc19, jzc19, jzc19, jzc28, jzc28, jzc28, jzc28, jzc28, jzc28, jzc28, jzc28, jzc28, jzc28, jzc28, jzc28, jzc28, jzc28, jzc43, jzc43, jzc43, jzc43, jzc43, jzc49, jzc49, jzc52, jzc52, jzc52, jzc56, jzc56, jzc59, jzc56, jzc62, jzc28, jzc28, jzc28, jzc28, jzc28, jzc69, jzc71, jzc73, jzc43, jzc76, jzc52, jzc52, jzc80, jzc80, jzc80, jzc84, jzc52, jzc52, jzc52, jzc52, jzc52, jzc52, jzc52, jzc93, jzc93, jzc52, jzc52, jzc98, jzc100, jzc93, jzc52, jzc52, jzc52, jzc52, jzc107, jzc109, jzc111, jzc100, jzc100, jzc100, jzc111, jzc111, jzc210]
def jzv319 (b0 b1 b2 b3 : Int32) : jH := [jzc190, (jzc189 b0 b1 b2 b3), jzc206, (jzc209 b0 b1 b2 b3), jzc9, jzc9, jzc9, jzc9, jzc9, jzc17, jzc19, jzc19, jzc19, jzc19, jzc19, jzc19, jzc19, jzc19, jzc28, jzc28, jzc28, jzc28, jzc28, jzc28, jzc28, jzc28, jzc28, jzc28, jzc28, jzc28, jzc28, jzc28, jzc43, jzc43, jzc43, jzc43, jzc43, jzc49, jzc49, jzc52, jzc52, jzc52, jzc56, jzc56, jzc59, jzc56, jzc62, jzc28, jzc28, jzc28, jzc28, jzc28, jzc69, jzc71, jzc73, jzc43, jzc76, jzc52, jzc52, jzc80, jzc80, jzc80, jzc84, jzc52, jzc52, jzc52, jzc52, jzc52, jzc52, jzc52, jzc93, jzc93, jzc52, jzc52, jzc98, jzc100, jzc93, jzc52, jzc52, jzc52, jzc52, jzc107, jzc109, jzc111, jzc100, jzc100, jzc100, jzc111, jzc111, jzc210]
set_option maxHeartbeats 4000000 in
set_option maxRecDepth 100000 in
theorem jzq653 (xs : Nat → Int32) (b0 b1 b2 b3 : Int32) (e : ((xs 1) >>> (16 &&& 31)) &&& 255 = b2) (h : jbn b2) {f : Nat} {q : jO × jH} (hq : jLoop (jRun ((4, xs) : jX) 2000 38) ((4, xs) : jX) jm248 f ((101, [(4, .int 24), (5, .int (b2)), (3, .int 3), (2, .int 0), (0, .ref 66), (1, .int (xs 1))], [], (jzv319 b0 b1 b2 b3)) : jS) = some q) : jLoop (jRun ((4, xs) : jX) 2000 38) ((4, xs) : jX) jm248 (f + 25) ((101, [(4, .int 16), (5, .int (b1)), (3, .int 3), (2, .int 0), (0, .ref 66), (1, .int (xs 1))], [], (jzv317 b0 b1 b2 b3)) : jS) = some q := by
  refine jl_s (S' := ((103, [(4, .int 16), (5, .int (b1)), (3, .int 3), (2, .int 0), (0, .ref 66), (1, .int (xs 1))], [.int 16], (jzv317 b0 b1 b2 b3)) : jS)) rfl ?_
  refine jl_s (S' := ((105, [(4, .int 16), (5, .int (b1)), (3, .int 3), (2, .int 0), (0, .ref 66), (1, .int (xs 1))], [.int 32, .int 16], (jzv317 b0 b1 b2 b3)) : jS)) rfl ?_
  refine jl_s (S' := ((108, [(4, .int 16), (5, .int (b1)), (3, .int 3), (2, .int 0), (0, .ref 66), (1, .int (xs 1))], [], (jzv317 b0 b1 b2 b3)) : jS)) rfl ?_
  refine jl_s (S' := ((109, [(4, .int 16), (5, .int (b1)), (3, .int 3), (2, .int 0), (0, .ref 66), (1, .int (xs 1))], [.int (xs 1)], (jzv317 b0 b1 b2 b3)) : jS)) rfl ?_
  refine jl_s (S' := ((111, [(4, .int 16), (5, .int (b1)), (3, .int 3), (2, .int 0), (0, .ref 66), (1, .int (xs 1))], [.int 16, .int (xs 1)], (jzv317 b0 b1 b2 b3)) : jS)) rfl ?_
  refine jl_s (S' := ((112, [(4, .int 16), (5, .int (b1)), (3, .int 3), (2, .int 0), (0, .ref 66), (1, .int (xs 1))], [.int ((xs 1) >>> (16 &&& 31))], (jzv317 b0 b1 b2 b3)) : jS)) rfl ?_
  refine jl_s (S' := ((115, [(4, .int 16), (5, .int (b1)), (3, .int 3), (2, .int 0), (0, .ref 66), (1, .int (xs 1))], [.int 255, .int ((xs 1) >>> (16 &&& 31))], (jzv317 b0 b1 b2 b3)) : jS)) rfl ?_
  refine jl_s (S' := ((116, [(4, .int 16), (5, .int (b1)), (3, .int 3), (2, .int 0), (0, .ref 66), (1, .int (xs 1))], [.int (((xs 1) >>> (16 &&& 31)) &&& 255)], (jzv317 b0 b1 b2 b3)) : jS)) rfl ?_
  rw [e]
  refine jl_s (S' := ((118, [(5, .int (b2)), (4, .int 16), (3, .int 3), (2, .int 0), (0, .ref 66), (1, .int (xs 1))], [], (jzv317 b0 b1 b2 b3)) : jS)) rfl ?_
  refine jl_s (S' := ((120, [(5, .int (b2)), (4, .int 16), (3, .int 3), (2, .int 0), (0, .ref 66), (1, .int (xs 1))], [.int (b2)], (jzv317 b0 b1 b2 b3)) : jS)) rfl ?_
  refine jl_iff (e := jm248) (o := 24) rfl (h.1) ?_
  refine jl_s (S' := ((124, [(5, .int (b2)), (4, .int 16), (3, .int 3), (2, .int 0), (0, .ref 66), (1, .int (xs 1))], [.ref 66], (jzv317 b0 b1 b2 b3)) : jS)) rfl ?_
  refine jl_s (S' := ((127, [(5, .int (b2)), (4, .int 16), (3, .int 3), (2, .int 0), (0, .ref 66), (1, .int (xs 1))], [.ref 67], (jzv317 b0 b1 b2 b3)) : jS)) rfl ?_
  refine jl_s (S' := ((128, [(5, .int (b2)), (4, .int 16), (3, .int 3), (2, .int 0), (0, .ref 66), (1, .int (xs 1))], [.ref 66, .ref 67], (jzv317 b0 b1 b2 b3)) : jS)) rfl ?_
  refine jl_s (S' := ((131, [(5, .int (b2)), (4, .int 16), (3, .int 3), (2, .int 0), (0, .ref 66), (1, .int (xs 1))], [.int 1, .ref 67], (jzv317 b0 b1 b2 b3)) : jS)) rfl ?_
  refine jl_s (S' := ((133, [(5, .int (b2)), (4, .int 16), (3, .int 3), (2, .int 0), (0, .ref 66), (1, .int (xs 1))], [.int (b2), .int 1, .ref 67], (jzv317 b0 b1 b2 b3)) : jS)) rfl ?_
  refine jl_s (S' := ((134, [(5, .int (b2)), (4, .int 16), (3, .int 3), (2, .int 0), (0, .ref 66), (1, .int (xs 1))], [], (jzv318 b0 b1 b2 b3)) : jS)) rfl ?_
  refine jl_s (S' := ((135, [(5, .int (b2)), (4, .int 16), (3, .int 3), (2, .int 0), (0, .ref 66), (1, .int (xs 1))], [.ref 66], (jzv318 b0 b1 b2 b3)) : jS)) rfl ?_
  refine jl_s (S' := ((136, [(5, .int (b2)), (4, .int 16), (3, .int 3), (2, .int 0), (0, .ref 66), (1, .int (xs 1))], [.ref 66, .ref 66], (jzv318 b0 b1 b2 b3)) : jS)) rfl ?_
  refine jl_s (S' := ((139, [(5, .int (b2)), (4, .int 16), (3, .int 3), (2, .int 0), (0, .ref 66), (1, .int (xs 1))], [.int 1, .ref 66], (jzv318 b0 b1 b2 b3)) : jS)) rfl ?_
  refine jl_s (S' := ((140, [(5, .int (b2)), (4, .int 16), (3, .int 3), (2, .int 0), (0, .ref 66), (1, .int (xs 1))], [.int 1, .int 1, .ref 66], (jzv318 b0 b1 b2 b3)) : jS)) rfl ?_
  refine jl_s (S' := ((141, [(5, .int (b2)), (4, .int 16), (3, .int 3), (2, .int 0), (0, .ref 66), (1, .int (xs 1))], [.int 2, .ref 66], (jzv318 b0 b1 b2 b3)) : jS)) rfl ?_
  refine jl_s (S' := ((144, [(5, .int (b2)), (4, .int 16), (3, .int 3), (2, .int 0), (0, .ref 66), (1, .int (xs 1))], [], (jzv319 b0 b1 b2 b3)) : jS)) rfl ?_
  refine jl_s (S' := ((147, [(4, .int 24), (5, .int (b2)), (3, .int 3), (2, .int 0), (0, .ref 66), (1, .int (xs 1))], [], (jzv319 b0 b1 b2 b3)) : jS)) rfl ?_
  refine jl_s (S' := ((101, [(4, .int 24), (5, .int (b2)), (3, .int 3), (2, .int 0), (0, .ref 66), (1, .int (xs 1))], [], (jzv319 b0 b1 b2 b3)) : jS)) rfl ?_
  exact hq
def jzc211 (b0 b1 b2 b3 : Int32) : jC := .inl (1, 3000, .inl (upd (upd (upd (fun _ => 0) 0 (b1)) 1 (b2)) 2 (b3)))
def jzv320 (b0 b1 b2 b3 : Int32) : jH := [jzc190, (jzc189 b0 b1 b2 b3), jzc206, (jzc211 b0 b1 b2 b3), jzc9, jzc9, jzc9, jzc9, jzc9, jzc17, jzc19, jzc19, jzc19, jzc19, jzc19, jzc19, jzc19, jzc19, jzc28, jzc28, jzc28, jzc28, jzc28, jzc28, jzc28, jzc28, jzc28, jzc28, jzc28, jzc28, jzc28, jzc28, jzc43, jzc43, jzc43, jzc43, jzc43, jzc49, jzc49, jzc52, jzc52, jzc52, jzc56, jzc56, jzc59, jzc56, jzc62, jzc28, jzc28, jzc28, jzc28, jzc28, jzc69, jzc71, jzc73, jzc43, jzc76, jzc52, jzc52, jzc80, jzc80, jzc80, jzc84, jzc52, jzc52, jzc52, jzc52, jzc52, jzc52, jzc52, jzc93, jzc93, jzc52, jzc52, jzc98, jzc100, jzc93, jzc52, jzc52, jzc52, jzc52, jzc107, jzc109, jzc111, jzc100, jzc100, jzc100, jzc111, jzc111, jzc210]
def jzc212 : jC := .inr (12, [.int 0, .ref 67, .int 3, .int 0, .ref 68, .ref 69, .ref 70, .ref 71, .ref 72, .int 0, .int 0, .int 0, .int 0, .int 0, .long 0, .int 0, .int 0, .int (-1), .int (-1), .int 0, .ref 73, .ref 74, .ref 75, .ref 76, .ref 77, .ref 78, .ref 79, .ref 80, .int 0, .int 0, .ref 81, .int 0, .ref 82, .ref 83, .ref 84, .ref 85, .ref 86, .ref 87, .ref 88, .ref 89, .ref 90, .ref 91, .ref 92, .ref 93, .ref 94, .ref 95, .int 0, .ref 96, .ref 97, .ref 98, .ref 99, .ref 100, .int 0, .ref 101, .ref 102, .ref 103, .ref 104, .ref 105, .int 0, .int 0, .int 0, .int 0, .int 0, .ref 106, .ref 107, .ref 108, .ref 109, .int 0, .int 0, .ref 110, .int 0, .ref 111, .ref 112, .ref 113, .ref 114, .ref 115, .ref 116, .int 0, .ref 117, .int 0, .ref 118, .int 0, .ref 119, .ref 120, .ref 121, .ref 122, .ref 123, .ref 124, .ref 125, .int 0, .ref 126, .ref 127, .ref 128, .ref 129, .ref 130, .ref 131, .ref 132, .ref 133, .ref 134, .ref 135, .ref 136, .ref 137, .ref 138, .ref 139, .ref 140, .ref 141, .ref 142, .ref 143, .ref 144, .ref 145, .int 0, .int 0, .ref 146, .int 0, .ref 147, .ref 148, .ref 149, .ref 150, .ref 151, .ref 152, .int 0, .int 0])
def jzv321 (b0 b1 b2 b3 : Int32) : jH := [jzc190, (jzc189 b0 b1 b2 b3), jzc212, (jzc211 b0 b1 b2 b3), jzc9, jzc9, jzc9, jzc9, jzc9, jzc17, jzc19, jzc19, jzc19, jzc19, jzc19, jzc19, jzc19, jzc19, jzc28, jzc28, jzc28, jzc28, jzc28, jzc28, jzc28, jzc28, jzc28, jzc28, jzc28, jzc28, jzc28, jzc28, jzc43, jzc43, jzc43, jzc43, jzc43, jzc49, jzc49, jzc52, jzc52, jzc52, jzc56, jzc56, jzc59, jzc56, jzc62, jzc28, jzc28, jzc28, jzc28, jzc28, jzc69, jzc71, jzc73, jzc43, jzc76, jzc52, jzc52, jzc80, jzc80, jzc80, jzc84, jzc52, jzc52, jzc52, jzc52, jzc52, jzc52, jzc52, jzc93, jzc93, jzc52, jzc52, jzc98, jzc100, jzc93, jzc52, jzc52, jzc52, jzc52, jzc107, jzc109, jzc111, jzc100, jzc100, jzc100, jzc111, jzc111, jzc210]
set_option maxHeartbeats 4000000 in
set_option maxRecDepth 100000 in
theorem jzq655 (xs : Nat → Int32) (b0 b1 b2 b3 : Int32) (e : ((xs 1) >>> (24 &&& 31)) &&& 255 = b3) (h : jbn b3) {f : Nat} {q : jO × jH} (hq : jLoop (jRun ((4, xs) : jX) 2000 38) ((4, xs) : jX) jm248 f ((101, [(4, .int 32), (5, .int (b3)), (3, .int 3), (2, .int 0), (0, .ref 66), (1, .int (xs 1))], [], (jzv321 b0 b1 b2 b3)) : jS) = some q) : jLoop (jRun ((4, xs) : jX) 2000 38) ((4, xs) : jX) jm248 (f + 25) ((101, [(4, .int 24), (5, .int (b2)), (3, .int 3), (2, .int 0), (0, .ref 66), (1, .int (xs 1))], [], (jzv319 b0 b1 b2 b3)) : jS) = some q := by
  refine jl_s (S' := ((103, [(4, .int 24), (5, .int (b2)), (3, .int 3), (2, .int 0), (0, .ref 66), (1, .int (xs 1))], [.int 24], (jzv319 b0 b1 b2 b3)) : jS)) rfl ?_
  refine jl_s (S' := ((105, [(4, .int 24), (5, .int (b2)), (3, .int 3), (2, .int 0), (0, .ref 66), (1, .int (xs 1))], [.int 32, .int 24], (jzv319 b0 b1 b2 b3)) : jS)) rfl ?_
  refine jl_s (S' := ((108, [(4, .int 24), (5, .int (b2)), (3, .int 3), (2, .int 0), (0, .ref 66), (1, .int (xs 1))], [], (jzv319 b0 b1 b2 b3)) : jS)) rfl ?_
  refine jl_s (S' := ((109, [(4, .int 24), (5, .int (b2)), (3, .int 3), (2, .int 0), (0, .ref 66), (1, .int (xs 1))], [.int (xs 1)], (jzv319 b0 b1 b2 b3)) : jS)) rfl ?_
  refine jl_s (S' := ((111, [(4, .int 24), (5, .int (b2)), (3, .int 3), (2, .int 0), (0, .ref 66), (1, .int (xs 1))], [.int 24, .int (xs 1)], (jzv319 b0 b1 b2 b3)) : jS)) rfl ?_
  refine jl_s (S' := ((112, [(4, .int 24), (5, .int (b2)), (3, .int 3), (2, .int 0), (0, .ref 66), (1, .int (xs 1))], [.int ((xs 1) >>> (24 &&& 31))], (jzv319 b0 b1 b2 b3)) : jS)) rfl ?_
  refine jl_s (S' := ((115, [(4, .int 24), (5, .int (b2)), (3, .int 3), (2, .int 0), (0, .ref 66), (1, .int (xs 1))], [.int 255, .int ((xs 1) >>> (24 &&& 31))], (jzv319 b0 b1 b2 b3)) : jS)) rfl ?_
  refine jl_s (S' := ((116, [(4, .int 24), (5, .int (b2)), (3, .int 3), (2, .int 0), (0, .ref 66), (1, .int (xs 1))], [.int (((xs 1) >>> (24 &&& 31)) &&& 255)], (jzv319 b0 b1 b2 b3)) : jS)) rfl ?_
  rw [e]
  refine jl_s (S' := ((118, [(5, .int (b3)), (4, .int 24), (3, .int 3), (2, .int 0), (0, .ref 66), (1, .int (xs 1))], [], (jzv319 b0 b1 b2 b3)) : jS)) rfl ?_
  refine jl_s (S' := ((120, [(5, .int (b3)), (4, .int 24), (3, .int 3), (2, .int 0), (0, .ref 66), (1, .int (xs 1))], [.int (b3)], (jzv319 b0 b1 b2 b3)) : jS)) rfl ?_
  refine jl_iff (e := jm248) (o := 24) rfl (h.1) ?_
  refine jl_s (S' := ((124, [(5, .int (b3)), (4, .int 24), (3, .int 3), (2, .int 0), (0, .ref 66), (1, .int (xs 1))], [.ref 66], (jzv319 b0 b1 b2 b3)) : jS)) rfl ?_
  refine jl_s (S' := ((127, [(5, .int (b3)), (4, .int 24), (3, .int 3), (2, .int 0), (0, .ref 66), (1, .int (xs 1))], [.ref 67], (jzv319 b0 b1 b2 b3)) : jS)) rfl ?_
  refine jl_s (S' := ((128, [(5, .int (b3)), (4, .int 24), (3, .int 3), (2, .int 0), (0, .ref 66), (1, .int (xs 1))], [.ref 66, .ref 67], (jzv319 b0 b1 b2 b3)) : jS)) rfl ?_
  refine jl_s (S' := ((131, [(5, .int (b3)), (4, .int 24), (3, .int 3), (2, .int 0), (0, .ref 66), (1, .int (xs 1))], [.int 2, .ref 67], (jzv319 b0 b1 b2 b3)) : jS)) rfl ?_
  refine jl_s (S' := ((133, [(5, .int (b3)), (4, .int 24), (3, .int 3), (2, .int 0), (0, .ref 66), (1, .int (xs 1))], [.int (b3), .int 2, .ref 67], (jzv319 b0 b1 b2 b3)) : jS)) rfl ?_
  refine jl_s (S' := ((134, [(5, .int (b3)), (4, .int 24), (3, .int 3), (2, .int 0), (0, .ref 66), (1, .int (xs 1))], [], (jzv320 b0 b1 b2 b3)) : jS)) rfl ?_
  refine jl_s (S' := ((135, [(5, .int (b3)), (4, .int 24), (3, .int 3), (2, .int 0), (0, .ref 66), (1, .int (xs 1))], [.ref 66], (jzv320 b0 b1 b2 b3)) : jS)) rfl ?_
  refine jl_s (S' := ((136, [(5, .int (b3)), (4, .int 24), (3, .int 3), (2, .int 0), (0, .ref 66), (1, .int (xs 1))], [.ref 66, .ref 66], (jzv320 b0 b1 b2 b3)) : jS)) rfl ?_
  refine jl_s (S' := ((139, [(5, .int (b3)), (4, .int 24), (3, .int 3), (2, .int 0), (0, .ref 66), (1, .int (xs 1))], [.int 2, .ref 66], (jzv320 b0 b1 b2 b3)) : jS)) rfl ?_
  refine jl_s (S' := ((140, [(5, .int (b3)), (4, .int 24), (3, .int 3), (2, .int 0), (0, .ref 66), (1, .int (xs 1))], [.int 1, .int 2, .ref 66], (jzv320 b0 b1 b2 b3)) : jS)) rfl ?_
  refine jl_s (S' := ((141, [(5, .int (b3)), (4, .int 24), (3, .int 3), (2, .int 0), (0, .ref 66), (1, .int (xs 1))], [.int 3, .ref 66], (jzv320 b0 b1 b2 b3)) : jS)) rfl ?_
  refine jl_s (S' := ((144, [(5, .int (b3)), (4, .int 24), (3, .int 3), (2, .int 0), (0, .ref 66), (1, .int (xs 1))], [], (jzv321 b0 b1 b2 b3)) : jS)) rfl ?_
  refine jl_s (S' := ((147, [(4, .int 32), (5, .int (b3)), (3, .int 3), (2, .int 0), (0, .ref 66), (1, .int (xs 1))], [], (jzv321 b0 b1 b2 b3)) : jS)) rfl ?_
  refine jl_s (S' := ((101, [(4, .int 32), (5, .int (b3)), (3, .int 3), (2, .int 0), (0, .ref 66), (1, .int (xs 1))], [], (jzv321 b0 b1 b2 b3)) : jS)) rfl ?_
  exact hq
set_option maxHeartbeats 4000000 in
set_option maxRecDepth 100000 in
theorem jzq657 (xs : Nat → Int32) (b0 b1 b2 b3 : Int32) {f : Nat} : jLoop (jRun ((4, xs) : jX) 2000 38) ((4, xs) : jX) jm248 (f + 6) ((101, [(4, .int 32), (5, .int (b3)), (3, .int 3), (2, .int 0), (0, .ref 66), (1, .int (xs 1))], [], (jzv321 b0 b1 b2 b3)) : jS) = some (.inl (some (.int 3)), (jzv321 b0 b1 b2 b3)) := by
  refine jl_s (S' := ((103, [(4, .int 32), (5, .int (b3)), (3, .int 3), (2, .int 0), (0, .ref 66), (1, .int (xs 1))], [.int 32], (jzv321 b0 b1 b2 b3)) : jS)) rfl ?_
  refine jl_s (S' := ((105, [(4, .int 32), (5, .int (b3)), (3, .int 3), (2, .int 0), (0, .ref 66), (1, .int (xs 1))], [.int 32, .int 32], (jzv321 b0 b1 b2 b3)) : jS)) rfl ?_
  refine jl_s (S' := ((150, [(4, .int 32), (5, .int (b3)), (3, .int 3), (2, .int 0), (0, .ref 66), (1, .int (xs 1))], [], (jzv321 b0 b1 b2 b3)) : jS)) rfl ?_
  refine jl_s (S' := ((151, [(4, .int 32), (5, .int (b3)), (3, .int 3), (2, .int 0), (0, .ref 66), (1, .int (xs 1))], [.ref 66], (jzv321 b0 b1 b2 b3)) : jS)) rfl ?_
  refine jl_s (S' := ((154, [(4, .int 32), (5, .int (b3)), (3, .int 3), (2, .int 0), (0, .ref 66), (1, .int (xs 1))], [.int 3], (jzv321 b0 b1 b2 b3)) : jS)) rfl ?_
  exact jl_r (r := (.inl (some (.int 3)), (jzv321 b0 b1 b2 b3))) rfl
set_option maxHeartbeats 4000000 in
set_option maxRecDepth 100000 in
theorem jzrp_ZVVV (xs : Nat → Int32) (b0 b1 b2 b3 : Int32) (e0 : ((xs 1) >>> (0 &&& 31)) &&& 255 = b0) (e1 : ((xs 1) >>> (8 &&& 31)) &&& 255 = b1) (e2 : ((xs 1) >>> (16 &&& 31)) &&& 255 = b2) (e3 : ((xs 1) >>> (24 &&& 31)) &&& 255 = b3) (h0 : jbz b0) (h1 : jbv b1) (h2 : jbv b2) (h3 : jbv b3) : jRun ((4, xs) : jX) 2000 39 248 [.ref 66, .int (xs 1)] (jzv315 b0 b1 b2 b3) = some (.inl (some (.int 3)), (jzv321 b0 b1 b2 b3)) := by
  refine jr_run (e := jm248) rfl (Nat.le_of_ble_eq_true rfl) ?_
  refine jzq506 xs b0 b1 b2 b3 _ ?_
  refine jzq508 xs b0 b1 b2 b3 _ e0 h0 ?_
  refine jzq588 xs b0 b1 b2 b3 _ e1 h1 ?_
  refine jzq624 xs b0 b1 b2 b3 _ e2 h2 ?_
  refine jzq644 xs b0 b1 b2 b3 _ e3 h3 ?_
  refine jzq647 xs b0 b1 b2 b3 ?_
  refine jzq649 xs b0 b1 b2 b3 e0 h0 ?_
  refine jzq651 xs b0 b1 b2 b3 e1 h1.1 ?_
  refine jzq653 xs b0 b1 b2 b3 e2 h2.1 ?_
  refine jzq655 xs b0 b1 b2 b3 e3 h3.1 ?_
  exact jzq657 xs b0 b1 b2 b3
set_option maxHeartbeats 4000000 in
set_option maxRecDepth 100000 in
theorem jzl658 (xs : Nat → Int32) (hop : xs 0 &&& 31 = 0) (b0 b1 b2 b3 : Int32) (e0 : ((Int32.toUInt32 (xs 1) >>> (Int32.toUInt32 0 &&& Int32.toUInt32 31)).toInt32) &&& 255 = b0) (e1 : ((Int32.toUInt32 (xs 1) >>> (Int32.toUInt32 8 &&& Int32.toUInt32 31)).toInt32) &&& 255 = b1) (e2 : ((Int32.toUInt32 (xs 1) >>> (Int32.toUInt32 16 &&& Int32.toUInt32 31)).toInt32) &&& 255 = b2) (e3 : ((Int32.toUInt32 (xs 1) >>> (Int32.toUInt32 24 &&& Int32.toUInt32 31)).toInt32) &&& 255 = b3) (g0 : ((xs 1) >>> (0 &&& 31)) &&& 255 = b0) (g1 : ((xs 1) >>> (8 &&& 31)) &&& 255 = b1) (g2 : ((xs 1) >>> (16 &&& 31)) &&& 255 = b2) (g3 : ((xs 1) >>> (24 &&& 31)) &&& 255 = b3) (h0 : jbz b0) (h1 : jbv b1) (h2 : jbv b2) (h3 : jbv b3) : jRun ((4, xs) : jX) 2000 39 244 [.ref 66] (jzv321 b0 b1 b2 b3) = some (.inl (some (.int 0)), (jzv321 b0 b1 b2 b3)) := by
  refine jr_run (e := jm244) rfl (Nat.le_of_ble_eq_true rfl) ?_
  refine jl_s (S' := ((1, [(0, .ref 66)], [.ref 66], (jzv321 b0 b1 b2 b3)) : jS)) rfl ?_
  refine jl_s (S' := ((4, [(0, .ref 66)], [.int 0], (jzv321 b0 b1 b2 b3)) : jS)) rfl ?_
  exact jl_r (r := (.inl (some (.int 0)), (jzv321 b0 b1 b2 b3))) rfl
set_option maxHeartbeats 4000000 in
set_option maxRecDepth 100000 in
theorem jzl659 (xs : Nat → Int32) (hop : xs 0 &&& 31 = 0) (b0 b1 b2 b3 : Int32) (e0 : ((Int32.toUInt32 (xs 1) >>> (Int32.toUInt32 0 &&& Int32.toUInt32 31)).toInt32) &&& 255 = b0) (e1 : ((Int32.toUInt32 (xs 1) >>> (Int32.toUInt32 8 &&& Int32.toUInt32 31)).toInt32) &&& 255 = b1) (e2 : ((Int32.toUInt32 (xs 1) >>> (Int32.toUInt32 16 &&& Int32.toUInt32 31)).toInt32) &&& 255 = b2) (e3 : ((Int32.toUInt32 (xs 1) >>> (Int32.toUInt32 24 &&& Int32.toUInt32 31)).toInt32) &&& 255 = b3) (g0 : ((xs 1) >>> (0 &&& 31)) &&& 255 = b0) (g1 : ((xs 1) >>> (8 &&& 31)) &&& 255 = b1) (g2 : ((xs 1) >>> (16 &&& 31)) &&& 255 = b2) (g3 : ((xs 1) >>> (24 &&& 31)) &&& 255 = b3) (h0 : jbz b0) (h1 : jbv b1) (h2 : jbv b2) (h3 : jbv b3) : jLoop (jRun ((4, xs) : jX) 2000 39) ((4, xs) : jX) jm18 1000 ((23, [(4, .int 0), (3, .ref 153), (2, .ref 66), (1, .ref 64), (0, .ref 63)], [], jzv181) : jS) = some (.inl (some (.int 1)), (jzv321 b0 b1 b2 b3)) := by
  refine jl_s (S' := ((25, [(4, .int 0), (3, .ref 153), (2, .ref 66), (1, .ref 64), (0, .ref 63)], [.int 0], jzv181) : jS)) rfl ?_
  refine jl_s (S' := ((26, [(4, .int 0), (3, .ref 153), (2, .ref 66), (1, .ref 64), (0, .ref 63)], [.ref 63, .int 0], jzv181) : jS)) rfl ?_
  refine jl_s (S' := ((27, [(4, .int 0), (3, .ref 153), (2, .ref 66), (1, .ref 64), (0, .ref 63)], [.int 4, .int 0], jzv181) : jS)) rfl ?_
  refine jl_s (S' := ((28, [(4, .int 0), (3, .ref 153), (2, .ref 66), (1, .ref 64), (0, .ref 63)], [.int 4, .int 4, .int 0], jzv181) : jS)) rfl ?_
  refine jl_s (S' := ((29, [(4, .int 0), (3, .ref 153), (2, .ref 66), (1, .ref 64), (0, .ref 63)], [.int 0, .int 0], jzv181) : jS)) rfl ?_
  refine jl_s (S' := ((32, [(4, .int 0), (3, .ref 153), (2, .ref 66), (1, .ref 64), (0, .ref 63)], [], jzv181) : jS)) rfl ?_
  refine jl_s (S' := ((33, [(4, .int 0), (3, .ref 153), (2, .ref 66), (1, .ref 64), (0, .ref 63)], [.ref 63], jzv181) : jS)) rfl ?_
  refine jl_s (S' := ((35, [(4, .int 0), (3, .ref 153), (2, .ref 66), (1, .ref 64), (0, .ref 63)], [.int 0, .ref 63], jzv181) : jS)) rfl ?_
  refine jl_s (S' := ((36, [(4, .int 0), (3, .ref 153), (2, .ref 66), (1, .ref 64), (0, .ref 63)], [.int (xs 0)], jzv181) : jS)) rfl ?_
  refine jl_s (S' := ((38, [(4, .int 0), (3, .ref 153), (2, .ref 66), (1, .ref 64), (0, .ref 63)], [.int 31, .int (xs 0)], jzv181) : jS)) rfl ?_
  refine jl_s (S' := ((39, [(4, .int 0), (3, .ref 153), (2, .ref 66), (1, .ref 64), (0, .ref 63)], [.int ((xs 0) &&& 31)], jzv181) : jS)) rfl ?_
  rw [hop]
  refine jl_s (S' := ((128, [(4, .int 0), (3, .ref 153), (2, .ref 66), (1, .ref 64), (0, .ref 63)], [], jzv181) : jS)) rfl ?_
  refine jl_s (S' := ((129, [(4, .int 0), (3, .ref 153), (2, .ref 66), (1, .ref 64), (0, .ref 63)], [.ref 64], jzv181) : jS)) rfl ?_
  refine jl_s (S' := ((130, [(4, .int 0), (3, .ref 153), (2, .ref 66), (1, .ref 64), (0, .ref 63)], [.ref 63, .ref 64], jzv181) : jS)) rfl ?_
  refine jl_s (S' := ((132, [(4, .int 0), (3, .ref 153), (2, .ref 66), (1, .ref 64), (0, .ref 63)], [.int 0, .ref 63, .ref 64], jzv181) : jS)) rfl ?_
  refine jl_s (S' := ((133, [(4, .int 0), (3, .ref 153), (2, .ref 66), (1, .ref 64), (0, .ref 63)], [.int 1, .int 0, .ref 63, .ref 64], jzv181) : jS)) rfl ?_
  refine jl_s (S' := ((134, [(4, .int 0), (3, .ref 153), (2, .ref 66), (1, .ref 64), (0, .ref 63)], [.int 1, .ref 63, .ref 64], jzv181) : jS)) rfl ?_
  refine jl_s (S' := ((135, [(4, .int 0), (3, .ref 153), (2, .ref 66), (1, .ref 64), (0, .ref 63)], [.int (xs 1), .ref 64], jzv181) : jS)) rfl ?_
  refine jl_s (S' := ((136, [(4, .int 0), (3, .ref 153), (2, .ref 66), (1, .ref 64), (0, .ref 63)], [.ref 153, .int (xs 1), .ref 64], jzv181) : jS)) rfl ?_
  refine jl_c (t := 0) (as := [.ref 64, .int (xs 1), .ref 153]) (V := jzv181) (r := (.inl (some (.int 0)), (jzv315 b0 b1 b2 b3))) (S' := ((139, [(4, .int 0), (3, .ref 153), (2, .ref 66), (1, .ref 64), (0, .ref 63)], [.int 0], (jzv315 b0 b1 b2 b3)) : jS)) rfl (jzl642 xs hop b0 b1 b2 b3 e0 e1 e2 e3 g0 g1 g2 g3 h0 h1 h2 h3) rfl ?_
  refine jl_s (S' := ((141, [(5, .int 0), (4, .int 0), (3, .ref 153), (2, .ref 66), (1, .ref 64), (0, .ref 63)], [], (jzv315 b0 b1 b2 b3)) : jS)) rfl ?_
  refine jl_s (S' := ((142, [(5, .int 0), (4, .int 0), (3, .ref 153), (2, .ref 66), (1, .ref 64), (0, .ref 63)], [.ref 66], (jzv315 b0 b1 b2 b3)) : jS)) rfl ?_
  refine jl_s (S' := ((143, [(5, .int 0), (4, .int 0), (3, .ref 153), (2, .ref 66), (1, .ref 64), (0, .ref 63)], [.ref 63, .ref 66], (jzv315 b0 b1 b2 b3)) : jS)) rfl ?_
  refine jl_s (S' := ((145, [(5, .int 0), (4, .int 0), (3, .ref 153), (2, .ref 66), (1, .ref 64), (0, .ref 63)], [.int 0, .ref 63, .ref 66], (jzv315 b0 b1 b2 b3)) : jS)) rfl ?_
  refine jl_s (S' := ((146, [(5, .int 0), (4, .int 0), (3, .ref 153), (2, .ref 66), (1, .ref 64), (0, .ref 63)], [.int 1, .int 0, .ref 63, .ref 66], (jzv315 b0 b1 b2 b3)) : jS)) rfl ?_
  refine jl_s (S' := ((147, [(5, .int 0), (4, .int 0), (3, .ref 153), (2, .ref 66), (1, .ref 64), (0, .ref 63)], [.int 1, .ref 63, .ref 66], (jzv315 b0 b1 b2 b3)) : jS)) rfl ?_
  refine jl_s (S' := ((148, [(5, .int 0), (4, .int 0), (3, .ref 153), (2, .ref 66), (1, .ref 64), (0, .ref 63)], [.int (xs 1), .ref 66], (jzv315 b0 b1 b2 b3)) : jS)) rfl ?_
  refine jl_c (t := 248) (as := [.ref 66, .int (xs 1)]) (V := (jzv315 b0 b1 b2 b3)) (r := (.inl (some (.int 3)), (jzv321 b0 b1 b2 b3))) (S' := ((151, [(5, .int 0), (4, .int 0), (3, .ref 153), (2, .ref 66), (1, .ref 64), (0, .ref 63)], [.int 3], (jzv321 b0 b1 b2 b3)) : jS)) rfl (jzrp_ZVVV xs b0 b1 b2 b3 g0 g1 g2 g3 h0 h1 h2 h3 ) rfl ?_
  refine jl_s (S' := ((153, [(6, .int 3), (5, .int 0), (4, .int 0), (3, .ref 153), (2, .ref 66), (1, .ref 64), (0, .ref 63)], [], (jzv321 b0 b1 b2 b3)) : jS)) rfl ?_
  refine jl_s (S' := ((154, [(6, .int 3), (5, .int 0), (4, .int 0), (3, .ref 153), (2, .ref 66), (1, .ref 64), (0, .ref 63)], [.ref 66], (jzv321 b0 b1 b2 b3)) : jS)) rfl ?_
  refine jl_c (t := 244) (as := [.ref 66]) (V := (jzv321 b0 b1 b2 b3)) (r := (.inl (some (.int 0)), (jzv321 b0 b1 b2 b3))) (S' := ((157, [(6, .int 3), (5, .int 0), (4, .int 0), (3, .ref 153), (2, .ref 66), (1, .ref 64), (0, .ref 63)], [.int 0], (jzv321 b0 b1 b2 b3)) : jS)) rfl (jzl658 xs hop b0 b1 b2 b3 e0 e1 e2 e3 g0 g1 g2 g3 h0 h1 h2 h3) rfl ?_
  refine jl_s (S' := ((159, [(6, .int 3), (5, .int 0), (4, .int 0), (3, .ref 153), (2, .ref 66), (1, .ref 64), (0, .ref 63)], [.int 0, .int 0], (jzv321 b0 b1 b2 b3)) : jS)) rfl ?_
  refine jl_s (S' := ((164, [(6, .int 3), (5, .int 0), (4, .int 0), (3, .ref 153), (2, .ref 66), (1, .ref 64), (0, .ref 63)], [], (jzv321 b0 b1 b2 b3)) : jS)) rfl ?_
  refine jl_s (S' := ((166, [(6, .int 3), (5, .int 0), (4, .int 0), (3, .ref 153), (2, .ref 66), (1, .ref 64), (0, .ref 63)], [.int 0], (jzv321 b0 b1 b2 b3)) : jS)) rfl ?_
  refine jl_s (S' := ((169, [(6, .int 3), (5, .int 0), (4, .int 0), (3, .ref 153), (2, .ref 66), (1, .ref 64), (0, .ref 63)], [], (jzv321 b0 b1 b2 b3)) : jS)) rfl ?_
  refine jl_s (S' := ((170, [(6, .int 3), (5, .int 0), (4, .int 0), (3, .ref 153), (2, .ref 66), (1, .ref 64), (0, .ref 63)], [.ref 153], (jzv321 b0 b1 b2 b3)) : jS)) rfl ?_
  refine jl_s (S' := ((171, [(6, .int 3), (5, .int 0), (4, .int 0), (3, .ref 153), (2, .ref 66), (1, .ref 64), (0, .ref 63)], [.int 0, .ref 153], (jzv321 b0 b1 b2 b3)) : jS)) rfl ?_
  refine jl_s (S' := ((172, [(6, .int 3), (5, .int 0), (4, .int 0), (3, .ref 153), (2, .ref 66), (1, .ref 64), (0, .ref 63)], [.long 3], (jzv321 b0 b1 b2 b3)) : jS)) rfl ?_
  refine jl_s (S' := ((174, [(6, .int 3), (5, .int 0), (4, .int 0), (3, .ref 153), (2, .ref 66), (1, .ref 64), (0, .ref 63)], [.int 3, .long 3], (jzv321 b0 b1 b2 b3)) : jS)) rfl ?_
  refine jl_s (S' := ((175, [(6, .int 3), (5, .int 0), (4, .int 0), (3, .ref 153), (2, .ref 66), (1, .ref 64), (0, .ref 63)], [.long 3, .long 3], (jzv321 b0 b1 b2 b3)) : jS)) rfl ?_
  refine jl_s (S' := ((176, [(6, .int 3), (5, .int 0), (4, .int 0), (3, .ref 153), (2, .ref 66), (1, .ref 64), (0, .ref 63)], [.int 0], (jzv321 b0 b1 b2 b3)) : jS)) rfl ?_
  refine jl_s (S' := ((181, [(6, .int 3), (5, .int 0), (4, .int 0), (3, .ref 153), (2, .ref 66), (1, .ref 64), (0, .ref 63)], [], (jzv321 b0 b1 b2 b3)) : jS)) rfl ?_
  refine jl_s (S' := ((1193, [(6, .int 3), (5, .int 0), (4, .int 0), (3, .ref 153), (2, .ref 66), (1, .ref 64), (0, .ref 63)], [], (jzv321 b0 b1 b2 b3)) : jS)) rfl ?_
  refine jl_s (S' := ((1196, [(4, .int 4), (6, .int 3), (5, .int 0), (3, .ref 153), (2, .ref 66), (1, .ref 64), (0, .ref 63)], [], (jzv321 b0 b1 b2 b3)) : jS)) rfl ?_
  refine jl_s (S' := ((23, [(4, .int 4), (6, .int 3), (5, .int 0), (3, .ref 153), (2, .ref 66), (1, .ref 64), (0, .ref 63)], [], (jzv321 b0 b1 b2 b3)) : jS)) rfl ?_
  refine jl_s (S' := ((25, [(4, .int 4), (6, .int 3), (5, .int 0), (3, .ref 153), (2, .ref 66), (1, .ref 64), (0, .ref 63)], [.int 4], (jzv321 b0 b1 b2 b3)) : jS)) rfl ?_
  refine jl_s (S' := ((26, [(4, .int 4), (6, .int 3), (5, .int 0), (3, .ref 153), (2, .ref 66), (1, .ref 64), (0, .ref 63)], [.ref 63, .int 4], (jzv321 b0 b1 b2 b3)) : jS)) rfl ?_
  refine jl_s (S' := ((27, [(4, .int 4), (6, .int 3), (5, .int 0), (3, .ref 153), (2, .ref 66), (1, .ref 64), (0, .ref 63)], [.int 4, .int 4], (jzv321 b0 b1 b2 b3)) : jS)) rfl ?_
  refine jl_s (S' := ((28, [(4, .int 4), (6, .int 3), (5, .int 0), (3, .ref 153), (2, .ref 66), (1, .ref 64), (0, .ref 63)], [.int 4, .int 4, .int 4], (jzv321 b0 b1 b2 b3)) : jS)) rfl ?_
  refine jl_s (S' := ((29, [(4, .int 4), (6, .int 3), (5, .int 0), (3, .ref 153), (2, .ref 66), (1, .ref 64), (0, .ref 63)], [.int 0, .int 4], (jzv321 b0 b1 b2 b3)) : jS)) rfl ?_
  refine jl_s (S' := ((1199, [(4, .int 4), (6, .int 3), (5, .int 0), (3, .ref 153), (2, .ref 66), (1, .ref 64), (0, .ref 63)], [], (jzv321 b0 b1 b2 b3)) : jS)) rfl ?_
  refine jl_s (S' := ((1200, [(4, .int 4), (6, .int 3), (5, .int 0), (3, .ref 153), (2, .ref 66), (1, .ref 64), (0, .ref 63)], [.int 1], (jzv321 b0 b1 b2 b3)) : jS)) rfl ?_
  exact jl_r (r := (.inl (some (.int 1)), (jzv321 b0 b1 b2 b3))) rfl
-- op 0 ZVVV: jzl659
def jzv322 (b0 b1 b2 b3 : Int32) : jH := [jzc182, (jzc191 b0 b1 b2 b3), jzc117, jzc7, jzc9, jzc9, jzc9, jzc9, jzc9, jzc17, jzc19, jzc19, jzc19, jzc19, jzc19, jzc19, jzc19, jzc19, jzc28, jzc28, jzc28, jzc28, jzc28, jzc28, jzc28, jzc28, jzc28, jzc28, jzc28, jzc28, jzc28, jzc28, jzc43, jzc43, jzc43, jzc43, jzc43, jzc49, jzc49, jzc52, jzc52, jzc52, jzc56, jzc56, jzc59, jzc56, jzc62, jzc28, jzc28, jzc28, jzc28, jzc28, jzc69, jzc71, jzc73, jzc43, jzc76, jzc52, jzc52, jzc80, jzc80, jzc80, jzc84, jzc52, jzc52, jzc52, jzc52, jzc52, jzc52, jzc52, jzc93, jzc93, jzc52, jzc52, jzc98, jzc100, jzc93, jzc52, jzc52, jzc52, jzc52, jzc107, jzc109, jzc111, jzc100, jzc100, jzc100, jzc111, jzc111, jzc200]
set_option maxHeartbeats 4000000 in
set_option maxRecDepth 100000 in
theorem jzl660 (xs : Nat → Int32) (hop : xs 0 &&& 31 = 0) (b0 b1 b2 b3 : Int32) (e0 : ((Int32.toUInt32 (xs 1) >>> (Int32.toUInt32 0 &&& Int32.toUInt32 31)).toInt32) &&& 255 = b0) (e1 : ((Int32.toUInt32 (xs 1) >>> (Int32.toUInt32 8 &&& Int32.toUInt32 31)).toInt32) &&& 255 = b1) (e2 : ((Int32.toUInt32 (xs 1) >>> (Int32.toUInt32 16 &&& Int32.toUInt32 31)).toInt32) &&& 255 = b2) (e3 : ((Int32.toUInt32 (xs 1) >>> (Int32.toUInt32 24 &&& Int32.toUInt32 31)).toInt32) &&& 255 = b3) (g0 : ((xs 1) >>> (0 &&& 31)) &&& 255 = b0) (g1 : ((xs 1) >>> (8 &&& 31)) &&& 255 = b1) (g2 : ((xs 1) >>> (16 &&& 31)) &&& 255 = b2) (g3 : ((xs 1) >>> (24 &&& 31)) &&& 255 = b3) (h0 : jbv b0) (h1 : jbz b1) (h2 : jbz b2) (h3 : jbz b3) : jRun ((4, xs) : jX) 2000 39 0 [.ref 64, .int (xs 1), .ref 153] jzv181 = some (.inl (some (.int 0)), (jzv322 b0 b1 b2 b3)) := by
  refine jr_run (e := jm0) rfl (Nat.le_of_ble_eq_true rfl) ?_
  refine jl_s (S' := ((1, [(0, .ref 64), (1, .int (xs 1)), (2, .ref 153)], [.ref 153], jzv181) : jS)) rfl ?_
  refine jl_s (S' := ((2, [(0, .ref 64), (1, .int (xs 1)), (2, .ref 153)], [.int 0, .ref 153], jzv181) : jS)) rfl ?_
  refine jl_s (S' := ((3, [(0, .ref 64), (1, .int (xs 1)), (2, .ref 153)], [.ref 64, .int 0, .ref 153], jzv181) : jS)) rfl ?_
  refine jl_s (S' := ((4, [(0, .ref 64), (1, .int (xs 1)), (2, .ref 153)], [.int (xs 1), .ref 64, .int 0, .ref 153], jzv181) : jS)) rfl ?_
  refine jl_c (t := 20) (as := [.ref 64, .int (xs 1)]) (V := jzv181) (r := (.inl (some (.int 1)), (jzv276 b0 b1 b2 b3))) (S' := ((7, [(0, .ref 64), (1, .int (xs 1)), (2, .ref 153)], [.int 1, .int 0, .ref 153], (jzv276 b0 b1 b2 b3)) : jS)) rfl (jzcp_VZZZ xs b0 b1 b2 b3 e0 e1 e2 e3 h0 h1 h2 h3 ) rfl ?_
  refine jl_s (S' := ((8, [(0, .ref 64), (1, .int (xs 1)), (2, .ref 153)], [.long 1, .int 0, .ref 153], (jzv276 b0 b1 b2 b3)) : jS)) rfl ?_
  refine jl_s (S' := ((9, [(0, .ref 64), (1, .int (xs 1)), (2, .ref 153)], [], (jzv322 b0 b1 b2 b3)) : jS)) rfl ?_
  refine jl_s (S' := ((18, [(0, .ref 64), (1, .int (xs 1)), (2, .ref 153)], [], (jzv322 b0 b1 b2 b3)) : jS)) rfl ?_
  refine jl_s (S' := ((19, [(0, .ref 64), (1, .int (xs 1)), (2, .ref 153)], [.int 0], (jzv322 b0 b1 b2 b3)) : jS)) rfl ?_
  exact jl_r (r := (.inl (some (.int 0)), (jzv322 b0 b1 b2 b3))) rfl
set_option maxHeartbeats 4000000 in
set_option maxRecDepth 100000 in
theorem jzq662 (xs : Nat → Int32) (b0 b1 b2 b3 : Int32) (V : jH) (e : ((xs 1) >>> (0 &&& 31)) &&& 255 = b0) (h : jbv b0) {f : Nat} {q : jO × jH} (hq : jLoop (jRun ((4, xs) : jX) 2000 38) ((4, xs) : jX) jm248 f ((7, [(4, .int 8), (3, .int 1), (2, .int 0), (5, .int (b0)), (0, .ref 66), (1, .int (xs 1))], [], V) : jS) = some q) : jLoop (jRun ((4, xs) : jX) 2000 38) ((4, xs) : jX) jm248 (f + 27) ((7, [(4, .int 0), (3, .int 0), (2, .int 0), (0, .ref 66), (1, .int (xs 1))], [], V) : jS) = some q := by
  refine jl_s (S' := ((9, [(4, .int 0), (3, .int 0), (2, .int 0), (0, .ref 66), (1, .int (xs 1))], [.int 0], V) : jS)) rfl ?_
  refine jl_s (S' := ((11, [(4, .int 0), (3, .int 0), (2, .int 0), (0, .ref 66), (1, .int (xs 1))], [.int 32, .int 0], V) : jS)) rfl ?_
  refine jl_s (S' := ((14, [(4, .int 0), (3, .int 0), (2, .int 0), (0, .ref 66), (1, .int (xs 1))], [], V) : jS)) rfl ?_
  refine jl_s (S' := ((15, [(4, .int 0), (3, .int 0), (2, .int 0), (0, .ref 66), (1, .int (xs 1))], [.int (xs 1)], V) : jS)) rfl ?_
  refine jl_s (S' := ((17, [(4, .int 0), (3, .int 0), (2, .int 0), (0, .ref 66), (1, .int (xs 1))], [.int 0, .int (xs 1)], V) : jS)) rfl ?_
  refine jl_s (S' := ((18, [(4, .int 0), (3, .int 0), (2, .int 0), (0, .ref 66), (1, .int (xs 1))], [.int ((xs 1) >>> (0 &&& 31))], V) : jS)) rfl ?_
  refine jl_s (S' := ((21, [(4, .int 0), (3, .int 0), (2, .int 0), (0, .ref 66), (1, .int (xs 1))], [.int 255, .int ((xs 1) >>> (0 &&& 31))], V) : jS)) rfl ?_
  refine jl_s (S' := ((22, [(4, .int 0), (3, .int 0), (2, .int 0), (0, .ref 66), (1, .int (xs 1))], [.int (((xs 1) >>> (0 &&& 31)) &&& 255)], V) : jS)) rfl ?_
  rw [e]
  refine jl_s (S' := ((24, [(5, .int (b0)), (4, .int 0), (3, .int 0), (2, .int 0), (0, .ref 66), (1, .int (xs 1))], [], V) : jS)) rfl ?_
  refine jl_s (S' := ((25, [(5, .int (b0)), (4, .int 0), (3, .int 0), (2, .int 0), (0, .ref 66), (1, .int (xs 1))], [.int 0], V) : jS)) rfl ?_
  refine jl_s (S' := ((28, [(5, .int (b0)), (4, .int 0), (3, .int 0), (2, .int 0), (0, .ref 66), (1, .int (xs 1))], [], V) : jS)) rfl ?_
  refine jl_s (S' := ((30, [(5, .int (b0)), (4, .int 0), (3, .int 0), (2, .int 0), (0, .ref 66), (1, .int (xs 1))], [.int (b0)], V) : jS)) rfl ?_
  refine jl_iff (e := jm248) (o := 15) rfl (h.1.1) ?_
  refine jl_s (S' := ((35, [(5, .int (b0)), (4, .int 0), (3, .int 0), (2, .int 0), (0, .ref 66), (1, .int (xs 1))], [.int (b0)], V) : jS)) rfl ?_
  refine jl_c (t := 247) (as := [.int (b0)]) (V := V) (r := (.inl (some (.int 1)), V)) (S' := ((38, [(5, .int (b0)), (4, .int 0), (3, .int 0), (2, .int 0), (0, .ref 66), (1, .int (xs 1))], [.int 1], V) : jS)) rfl (jz_sv ((4, xs) : jX) V b0 h ) rfl ?_
  refine jl_s (S' := ((45, [(5, .int (b0)), (4, .int 0), (3, .int 0), (2, .int 0), (0, .ref 66), (1, .int (xs 1))], [], V) : jS)) rfl ?_
  refine jl_s (S' := ((46, [(5, .int (b0)), (4, .int 0), (3, .int 0), (2, .int 0), (0, .ref 66), (1, .int (xs 1))], [.int 0], V) : jS)) rfl ?_
  refine jl_s (S' := ((47, [(2, .int 0), (5, .int (b0)), (4, .int 0), (3, .int 0), (0, .ref 66), (1, .int (xs 1))], [], V) : jS)) rfl ?_
  refine jl_s (S' := ((49, [(2, .int 0), (5, .int (b0)), (4, .int 0), (3, .int 0), (0, .ref 66), (1, .int (xs 1))], [.int (b0)], V) : jS)) rfl ?_
  refine jl_iff (e := jm248) (o := 9) rfl (h.1.1) ?_
  refine jl_s (S' := ((53, [(2, .int 0), (5, .int (b0)), (4, .int 0), (3, .int 0), (0, .ref 66), (1, .int (xs 1))], [.int 0], V) : jS)) rfl ?_
  refine jl_s (S' := ((54, [(2, .int 0), (5, .int (b0)), (4, .int 0), (3, .int 0), (0, .ref 66), (1, .int (xs 1))], [.int 1, .int 0], V) : jS)) rfl ?_
  refine jl_s (S' := ((55, [(2, .int 0), (5, .int (b0)), (4, .int 0), (3, .int 0), (0, .ref 66), (1, .int (xs 1))], [.int 1], V) : jS)) rfl ?_
  refine jl_s (S' := ((59, [(2, .int 0), (5, .int (b0)), (4, .int 0), (3, .int 0), (0, .ref 66), (1, .int (xs 1))], [.int 1], V) : jS)) rfl ?_
  refine jl_s (S' := ((60, [(3, .int 1), (2, .int 0), (5, .int (b0)), (4, .int 0), (0, .ref 66), (1, .int (xs 1))], [], V) : jS)) rfl ?_
  refine jl_s (S' := ((63, [(4, .int 8), (3, .int 1), (2, .int 0), (5, .int (b0)), (0, .ref 66), (1, .int (xs 1))], [], V) : jS)) rfl ?_
  refine jl_s (S' := ((7, [(4, .int 8), (3, .int 1), (2, .int 0), (5, .int (b0)), (0, .ref 66), (1, .int (xs 1))], [], V) : jS)) rfl ?_
  exact hq
set_option maxHeartbeats 4000000 in
set_option maxRecDepth 100000 in
theorem jzq664 (xs : Nat → Int32) (b0 b1 b2 b3 : Int32) (V : jH) (e : ((xs 1) >>> (8 &&& 31)) &&& 255 = b1) (h : jbz b1) {f : Nat} {q : jO × jH} (hq : jLoop (jRun ((4, xs) : jX) 2000 38) ((4, xs) : jX) jm248 f ((7, [(4, .int 16), (3, .int 1), (2, .int 0), (5, .int (b1)), (0, .ref 66), (1, .int (xs 1))], [], V) : jS) = some q) : jLoop (jRun ((4, xs) : jX) 2000 38) ((4, xs) : jX) jm248 (f + 21) ((7, [(4, .int 8), (3, .int 1), (2, .int 0), (5, .int (b0)), (0, .ref 66), (1, .int (xs 1))], [], V) : jS) = some q := by
  refine jl_s (S' := ((9, [(4, .int 8), (3, .int 1), (2, .int 0), (5, .int (b0)), (0, .ref 66), (1, .int (xs 1))], [.int 8], V) : jS)) rfl ?_
  refine jl_s (S' := ((11, [(4, .int 8), (3, .int 1), (2, .int 0), (5, .int (b0)), (0, .ref 66), (1, .int (xs 1))], [.int 32, .int 8], V) : jS)) rfl ?_
  refine jl_s (S' := ((14, [(4, .int 8), (3, .int 1), (2, .int 0), (5, .int (b0)), (0, .ref 66), (1, .int (xs 1))], [], V) : jS)) rfl ?_
  refine jl_s (S' := ((15, [(4, .int 8), (3, .int 1), (2, .int 0), (5, .int (b0)), (0, .ref 66), (1, .int (xs 1))], [.int (xs 1)], V) : jS)) rfl ?_
  refine jl_s (S' := ((17, [(4, .int 8), (3, .int 1), (2, .int 0), (5, .int (b0)), (0, .ref 66), (1, .int (xs 1))], [.int 8, .int (xs 1)], V) : jS)) rfl ?_
  refine jl_s (S' := ((18, [(4, .int 8), (3, .int 1), (2, .int 0), (5, .int (b0)), (0, .ref 66), (1, .int (xs 1))], [.int ((xs 1) >>> (8 &&& 31))], V) : jS)) rfl ?_
  refine jl_s (S' := ((21, [(4, .int 8), (3, .int 1), (2, .int 0), (5, .int (b0)), (0, .ref 66), (1, .int (xs 1))], [.int 255, .int ((xs 1) >>> (8 &&& 31))], V) : jS)) rfl ?_
  refine jl_s (S' := ((22, [(4, .int 8), (3, .int 1), (2, .int 0), (5, .int (b0)), (0, .ref 66), (1, .int (xs 1))], [.int (((xs 1) >>> (8 &&& 31)) &&& 255)], V) : jS)) rfl ?_
  rw [e]
  refine jl_s (S' := ((24, [(5, .int (b1)), (4, .int 8), (3, .int 1), (2, .int 0), (0, .ref 66), (1, .int (xs 1))], [], V) : jS)) rfl ?_
  refine jl_s (S' := ((25, [(5, .int (b1)), (4, .int 8), (3, .int 1), (2, .int 0), (0, .ref 66), (1, .int (xs 1))], [.int 0], V) : jS)) rfl ?_
  refine jl_s (S' := ((28, [(5, .int (b1)), (4, .int 8), (3, .int 1), (2, .int 0), (0, .ref 66), (1, .int (xs 1))], [], V) : jS)) rfl ?_
  refine jl_s (S' := ((30, [(5, .int (b1)), (4, .int 8), (3, .int 1), (2, .int 0), (0, .ref 66), (1, .int (xs 1))], [.int (b1)], V) : jS)) rfl ?_
  refine jl_ift (e := jm248) (o := 15) rfl (h.1) (t := 45) rfl ?_
  refine jl_s (S' := ((46, [(5, .int (b1)), (4, .int 8), (3, .int 1), (2, .int 0), (0, .ref 66), (1, .int (xs 1))], [.int 0], V) : jS)) rfl ?_
  refine jl_s (S' := ((47, [(2, .int 0), (5, .int (b1)), (4, .int 8), (3, .int 1), (0, .ref 66), (1, .int (xs 1))], [], V) : jS)) rfl ?_
  refine jl_s (S' := ((49, [(2, .int 0), (5, .int (b1)), (4, .int 8), (3, .int 1), (0, .ref 66), (1, .int (xs 1))], [.int (b1)], V) : jS)) rfl ?_
  refine jl_ift (e := jm248) (o := 9) rfl (h.1) (t := 58) rfl ?_
  refine jl_s (S' := ((59, [(2, .int 0), (5, .int (b1)), (4, .int 8), (3, .int 1), (0, .ref 66), (1, .int (xs 1))], [.int 1], V) : jS)) rfl ?_
  refine jl_s (S' := ((60, [(3, .int 1), (2, .int 0), (5, .int (b1)), (4, .int 8), (0, .ref 66), (1, .int (xs 1))], [], V) : jS)) rfl ?_
  refine jl_s (S' := ((63, [(4, .int 16), (3, .int 1), (2, .int 0), (5, .int (b1)), (0, .ref 66), (1, .int (xs 1))], [], V) : jS)) rfl ?_
  refine jl_s (S' := ((7, [(4, .int 16), (3, .int 1), (2, .int 0), (5, .int (b1)), (0, .ref 66), (1, .int (xs 1))], [], V) : jS)) rfl ?_
  exact hq
set_option maxHeartbeats 4000000 in
set_option maxRecDepth 100000 in
theorem jzl665 (xs : Nat → Int32) (b0 b1 b2 b3 : Int32) : jRun ((4, xs) : jX) 2000 38 245 [.ref 66, .int 0, .int 0, .int 0] (jzv322 b0 b1 b2 b3) = some (.inl (some (.int 0)), (jzv322 b0 b1 b2 b3)) := by
  refine jr_run (e := jm245) rfl (Nat.le_of_ble_eq_true rfl) ?_
  refine jl_s (S' := ((1, [(0, .ref 66), (1, .int 0), (2, .int 0), (3, .int 0)], [.ref 66], (jzv322 b0 b1 b2 b3)) : jS)) rfl ?_
  refine jl_s (S' := ((2, [(0, .ref 66), (1, .int 0), (2, .int 0), (3, .int 0)], [.int 0, .ref 66], (jzv322 b0 b1 b2 b3)) : jS)) rfl ?_
  refine jl_s (S' := ((9, [(0, .ref 66), (1, .int 0), (2, .int 0), (3, .int 0)], [.ref 66], (jzv322 b0 b1 b2 b3)) : jS)) rfl ?_
  refine jl_s (S' := ((10, [(0, .ref 66), (1, .int 0), (2, .int 0), (3, .int 0)], [.int 0, .ref 66], (jzv322 b0 b1 b2 b3)) : jS)) rfl ?_
  refine jl_s (S' := ((17, [(0, .ref 66), (1, .int 0), (2, .int 0), (3, .int 0)], [.ref 66], (jzv322 b0 b1 b2 b3)) : jS)) rfl ?_
  refine jl_s (S' := ((18, [(0, .ref 66), (1, .int 0), (2, .int 0), (3, .int 0)], [.int 0, .ref 66], (jzv322 b0 b1 b2 b3)) : jS)) rfl ?_
  refine jl_s (S' := ((25, [(0, .ref 66), (1, .int 0), (2, .int 0), (3, .int 0)], [.ref 66], (jzv322 b0 b1 b2 b3)) : jS)) rfl ?_
  refine jl_s (S' := ((26, [(0, .ref 66), (1, .int 0), (2, .int 0), (3, .int 0)], [.int 0, .ref 66], (jzv322 b0 b1 b2 b3)) : jS)) rfl ?_
  refine jl_s (S' := ((29, [(0, .ref 66), (1, .int 0), (2, .int 0), (3, .int 0)], [], (jzv322 b0 b1 b2 b3)) : jS)) rfl ?_
  refine jl_s (S' := ((30, [(0, .ref 66), (1, .int 0), (2, .int 0), (3, .int 0)], [.ref 66], (jzv322 b0 b1 b2 b3)) : jS)) rfl ?_
  refine jl_s (S' := ((33, [(0, .ref 66), (1, .int 0), (2, .int 0), (3, .int 0)], [.int 0], (jzv322 b0 b1 b2 b3)) : jS)) rfl ?_
  refine jl_s (S' := ((40, [(0, .ref 66), (1, .int 0), (2, .int 0), (3, .int 0)], [], (jzv322 b0 b1 b2 b3)) : jS)) rfl ?_
  refine jl_s (S' := ((41, [(0, .ref 66), (1, .int 0), (2, .int 0), (3, .int 0)], [.int 0], (jzv322 b0 b1 b2 b3)) : jS)) rfl ?_
  exact jl_r (r := (.inl (some (.int 0)), (jzv322 b0 b1 b2 b3))) rfl
set_option maxHeartbeats 4000000 in
set_option maxRecDepth 100000 in
theorem jzq667 (xs : Nat → Int32) (b0 b1 b2 b3 : Int32) {f : Nat} {q : jO × jH} (hq : jLoop (jRun ((4, xs) : jX) 2000 38) ((4, xs) : jX) jm248 f ((101, [(4, .int 0), (3, .int 1), (2, .int 0), (5, .int (b3)), (0, .ref 66), (1, .int (xs 1))], [], (jzv322 b0 b1 b2 b3)) : jS) = some q) : jLoop (jRun ((4, xs) : jX) 2000 38) ((4, xs) : jX) jm248 (f + 19) ((7, [(4, .int 32), (3, .int 1), (2, .int 0), (5, .int (b3)), (0, .ref 66), (1, .int (xs 1))], [], (jzv322 b0 b1 b2 b3)) : jS) = some q := by
  refine jl_s (S' := ((9, [(4, .int 32), (3, .int 1), (2, .int 0), (5, .int (b3)), (0, .ref 66), (1, .int (xs 1))], [.int 32], (jzv322 b0 b1 b2 b3)) : jS)) rfl ?_
  refine jl_s (S' := ((11, [(4, .int 32), (3, .int 1), (2, .int 0), (5, .int (b3)), (0, .ref 66), (1, .int (xs 1))], [.int 32, .int 32], (jzv322 b0 b1 b2 b3)) : jS)) rfl ?_
  refine jl_s (S' := ((66, [(4, .int 32), (3, .int 1), (2, .int 0), (5, .int (b3)), (0, .ref 66), (1, .int (xs 1))], [], (jzv322 b0 b1 b2 b3)) : jS)) rfl ?_
  refine jl_s (S' := ((67, [(4, .int 32), (3, .int 1), (2, .int 0), (5, .int (b3)), (0, .ref 66), (1, .int (xs 1))], [.ref 66], (jzv322 b0 b1 b2 b3)) : jS)) rfl ?_
  refine jl_s (S' := ((68, [(4, .int 32), (3, .int 1), (2, .int 0), (5, .int (b3)), (0, .ref 66), (1, .int (xs 1))], [.int 0, .ref 66], (jzv322 b0 b1 b2 b3)) : jS)) rfl ?_
  refine jl_s (S' := ((69, [(4, .int 32), (3, .int 1), (2, .int 0), (5, .int (b3)), (0, .ref 66), (1, .int (xs 1))], [.int 0, .int 0, .ref 66], (jzv322 b0 b1 b2 b3)) : jS)) rfl ?_
  refine jl_s (S' := ((72, [(4, .int 32), (3, .int 1), (2, .int 0), (5, .int (b3)), (0, .ref 66), (1, .int (xs 1))], [.int 0, .ref 66], (jzv322 b0 b1 b2 b3)) : jS)) rfl ?_
  refine jl_s (S' := ((73, [(4, .int 32), (3, .int 1), (2, .int 0), (5, .int (b3)), (0, .ref 66), (1, .int (xs 1))], [.ref 66, .int 0, .ref 66], (jzv322 b0 b1 b2 b3)) : jS)) rfl ?_
  refine jl_s (S' := ((76, [(4, .int 32), (3, .int 1), (2, .int 0), (5, .int (b3)), (0, .ref 66), (1, .int (xs 1))], [.int 0, .int 0, .ref 66], (jzv322 b0 b1 b2 b3)) : jS)) rfl ?_
  refine jl_s (S' := ((77, [(4, .int 32), (3, .int 1), (2, .int 0), (5, .int (b3)), (0, .ref 66), (1, .int (xs 1))], [.int 1, .int 0, .int 0, .ref 66], (jzv322 b0 b1 b2 b3)) : jS)) rfl ?_
  refine jl_s (S' := ((78, [(4, .int 32), (3, .int 1), (2, .int 0), (5, .int (b3)), (0, .ref 66), (1, .int (xs 1))], [.int 1, .int 0, .ref 66], (jzv322 b0 b1 b2 b3)) : jS)) rfl ?_
  refine jl_s (S' := ((81, [(4, .int 32), (3, .int 1), (2, .int 0), (5, .int (b3)), (0, .ref 66), (1, .int (xs 1))], [.int 3000, .int 1, .int 0, .ref 66], (jzv322 b0 b1 b2 b3)) : jS)) rfl ?_
  refine jl_s (S' := ((88, [(4, .int 32), (3, .int 1), (2, .int 0), (5, .int (b3)), (0, .ref 66), (1, .int (xs 1))], [.int 0, .ref 66], (jzv322 b0 b1 b2 b3)) : jS)) rfl ?_
  refine jl_s (S' := ((89, [(4, .int 32), (3, .int 1), (2, .int 0), (5, .int (b3)), (0, .ref 66), (1, .int (xs 1))], [.int 0, .int 0, .ref 66], (jzv322 b0 b1 b2 b3)) : jS)) rfl ?_
  refine jl_s (S' := ((90, [(4, .int 32), (3, .int 1), (2, .int 0), (5, .int (b3)), (0, .ref 66), (1, .int (xs 1))], [.int 0, .int 0, .int 0, .ref 66], (jzv322 b0 b1 b2 b3)) : jS)) rfl ?_
  refine jl_c (t := 245) (as := [.ref 66, .int 0, .int 0, .int 0]) (V := (jzv322 b0 b1 b2 b3)) (r := (.inl (some (.int 0)), (jzv322 b0 b1 b2 b3))) (S' := ((93, [(4, .int 32), (3, .int 1), (2, .int 0), (5, .int (b3)), (0, .ref 66), (1, .int (xs 1))], [.int 0], (jzv322 b0 b1 b2 b3)) : jS)) rfl (jzl665 xs b0 b1 b2 b3) rfl ?_
  refine jl_s (S' := ((98, [(4, .int 32), (3, .int 1), (2, .int 0), (5, .int (b3)), (0, .ref 66), (1, .int (xs 1))], [], (jzv322 b0 b1 b2 b3)) : jS)) rfl ?_
  refine jl_s (S' := ((99, [(4, .int 32), (3, .int 1), (2, .int 0), (5, .int (b3)), (0, .ref 66), (1, .int (xs 1))], [.int 0], (jzv322 b0 b1 b2 b3)) : jS)) rfl ?_
  refine jl_s (S' := ((101, [(4, .int 0), (3, .int 1), (2, .int 0), (5, .int (b3)), (0, .ref 66), (1, .int (xs 1))], [], (jzv322 b0 b1 b2 b3)) : jS)) rfl ?_
  exact hq
def jzc213 (b0 b1 b2 b3 : Int32) : jC := .inl (1, 3000, .inl (upd (fun _ => 0) 0 (b0)))
def jzv323 (b0 b1 b2 b3 : Int32) : jH := [jzc182, (jzc191 b0 b1 b2 b3), jzc117, (jzc213 b0 b1 b2 b3), jzc9, jzc9, jzc9, jzc9, jzc9, jzc17, jzc19, jzc19, jzc19, jzc19, jzc19, jzc19, jzc19, jzc19, jzc28, jzc28, jzc28, jzc28, jzc28, jzc28, jzc28, jzc28, jzc28, jzc28, jzc28, jzc28, jzc28, jzc28, jzc43, jzc43, jzc43, jzc43, jzc43, jzc49, jzc49, jzc52, jzc52, jzc52, jzc56, jzc56, jzc59, jzc56, jzc62, jzc28, jzc28, jzc28, jzc28, jzc28, jzc69, jzc71, jzc73, jzc43, jzc76, jzc52, jzc52, jzc80, jzc80, jzc80, jzc84, jzc52, jzc52, jzc52, jzc52, jzc52, jzc52, jzc52, jzc93, jzc93, jzc52, jzc52, jzc98, jzc100, jzc93, jzc52, jzc52, jzc52, jzc52, jzc107, jzc109, jzc111, jzc100, jzc100, jzc100, jzc111, jzc111, jzc200]
def jzv324 (b0 b1 b2 b3 : Int32) : jH := [jzc182, (jzc191 b0 b1 b2 b3), jzc202, (jzc213 b0 b1 b2 b3), jzc9, jzc9, jzc9, jzc9, jzc9, jzc17, jzc19, jzc19, jzc19, jzc19, jzc19, jzc19, jzc19, jzc19, jzc28, jzc28, jzc28, jzc28, jzc28, jzc28, jzc28, jzc28, jzc28, jzc28, jzc28, jzc28, jzc28, jzc28, jzc43, jzc43, jzc43, jzc43, jzc43, jzc49, jzc49, jzc52, jzc52, jzc52, jzc56, jzc56, jzc59, jzc56, jzc62, jzc28, jzc28, jzc28, jzc28, jzc28, jzc69, jzc71, jzc73, jzc43, jzc76, jzc52, jzc52, jzc80, jzc80, jzc80, jzc84, jzc52, jzc52, jzc52, jzc52, jzc52, jzc52, jzc52, jzc93, jzc93, jzc52, jzc52, jzc98, jzc100, jzc93, jzc52, jzc52, jzc52, jzc52, jzc107, jzc109, jzc111, jzc100, jzc100, jzc100, jzc111, jzc111, jzc200]
set_option maxHeartbeats 4000000 in
set_option maxRecDepth 100000 in
theorem jzq669 (xs : Nat → Int32) (b0 b1 b2 b3 : Int32) (e : ((xs 1) >>> (0 &&& 31)) &&& 255 = b0) (h : jbn b0) {f : Nat} {q : jO × jH} (hq : jLoop (jRun ((4, xs) : jX) 2000 38) ((4, xs) : jX) jm248 f ((101, [(4, .int 8), (5, .int (b0)), (3, .int 1), (2, .int 0), (0, .ref 66), (1, .int (xs 1))], [], (jzv324 b0 b1 b2 b3)) : jS) = some q) : jLoop (jRun ((4, xs) : jX) 2000 38) ((4, xs) : jX) jm248 (f + 25) ((101, [(4, .int 0), (3, .int 1), (2, .int 0), (5, .int (b3)), (0, .ref 66), (1, .int (xs 1))], [], (jzv322 b0 b1 b2 b3)) : jS) = some q := by
  refine jl_s (S' := ((103, [(4, .int 0), (3, .int 1), (2, .int 0), (5, .int (b3)), (0, .ref 66), (1, .int (xs 1))], [.int 0], (jzv322 b0 b1 b2 b3)) : jS)) rfl ?_
  refine jl_s (S' := ((105, [(4, .int 0), (3, .int 1), (2, .int 0), (5, .int (b3)), (0, .ref 66), (1, .int (xs 1))], [.int 32, .int 0], (jzv322 b0 b1 b2 b3)) : jS)) rfl ?_
  refine jl_s (S' := ((108, [(4, .int 0), (3, .int 1), (2, .int 0), (5, .int (b3)), (0, .ref 66), (1, .int (xs 1))], [], (jzv322 b0 b1 b2 b3)) : jS)) rfl ?_
  refine jl_s (S' := ((109, [(4, .int 0), (3, .int 1), (2, .int 0), (5, .int (b3)), (0, .ref 66), (1, .int (xs 1))], [.int (xs 1)], (jzv322 b0 b1 b2 b3)) : jS)) rfl ?_
  refine jl_s (S' := ((111, [(4, .int 0), (3, .int 1), (2, .int 0), (5, .int (b3)), (0, .ref 66), (1, .int (xs 1))], [.int 0, .int (xs 1)], (jzv322 b0 b1 b2 b3)) : jS)) rfl ?_
  refine jl_s (S' := ((112, [(4, .int 0), (3, .int 1), (2, .int 0), (5, .int (b3)), (0, .ref 66), (1, .int (xs 1))], [.int ((xs 1) >>> (0 &&& 31))], (jzv322 b0 b1 b2 b3)) : jS)) rfl ?_
  refine jl_s (S' := ((115, [(4, .int 0), (3, .int 1), (2, .int 0), (5, .int (b3)), (0, .ref 66), (1, .int (xs 1))], [.int 255, .int ((xs 1) >>> (0 &&& 31))], (jzv322 b0 b1 b2 b3)) : jS)) rfl ?_
  refine jl_s (S' := ((116, [(4, .int 0), (3, .int 1), (2, .int 0), (5, .int (b3)), (0, .ref 66), (1, .int (xs 1))], [.int (((xs 1) >>> (0 &&& 31)) &&& 255)], (jzv322 b0 b1 b2 b3)) : jS)) rfl ?_
  rw [e]
  refine jl_s (S' := ((118, [(5, .int (b0)), (4, .int 0), (3, .int 1), (2, .int 0), (0, .ref 66), (1, .int (xs 1))], [], (jzv322 b0 b1 b2 b3)) : jS)) rfl ?_
  refine jl_s (S' := ((120, [(5, .int (b0)), (4, .int 0), (3, .int 1), (2, .int 0), (0, .ref 66), (1, .int (xs 1))], [.int (b0)], (jzv322 b0 b1 b2 b3)) : jS)) rfl ?_
  refine jl_iff (e := jm248) (o := 24) rfl (h.1) ?_
  refine jl_s (S' := ((124, [(5, .int (b0)), (4, .int 0), (3, .int 1), (2, .int 0), (0, .ref 66), (1, .int (xs 1))], [.ref 66], (jzv322 b0 b1 b2 b3)) : jS)) rfl ?_
  refine jl_s (S' := ((127, [(5, .int (b0)), (4, .int 0), (3, .int 1), (2, .int 0), (0, .ref 66), (1, .int (xs 1))], [.ref 67], (jzv322 b0 b1 b2 b3)) : jS)) rfl ?_
  refine jl_s (S' := ((128, [(5, .int (b0)), (4, .int 0), (3, .int 1), (2, .int 0), (0, .ref 66), (1, .int (xs 1))], [.ref 66, .ref 67], (jzv322 b0 b1 b2 b3)) : jS)) rfl ?_
  refine jl_s (S' := ((131, [(5, .int (b0)), (4, .int 0), (3, .int 1), (2, .int 0), (0, .ref 66), (1, .int (xs 1))], [.int 0, .ref 67], (jzv322 b0 b1 b2 b3)) : jS)) rfl ?_
  refine jl_s (S' := ((133, [(5, .int (b0)), (4, .int 0), (3, .int 1), (2, .int 0), (0, .ref 66), (1, .int (xs 1))], [.int (b0), .int 0, .ref 67], (jzv322 b0 b1 b2 b3)) : jS)) rfl ?_
  refine jl_s (S' := ((134, [(5, .int (b0)), (4, .int 0), (3, .int 1), (2, .int 0), (0, .ref 66), (1, .int (xs 1))], [], (jzv323 b0 b1 b2 b3)) : jS)) rfl ?_
  refine jl_s (S' := ((135, [(5, .int (b0)), (4, .int 0), (3, .int 1), (2, .int 0), (0, .ref 66), (1, .int (xs 1))], [.ref 66], (jzv323 b0 b1 b2 b3)) : jS)) rfl ?_
  refine jl_s (S' := ((136, [(5, .int (b0)), (4, .int 0), (3, .int 1), (2, .int 0), (0, .ref 66), (1, .int (xs 1))], [.ref 66, .ref 66], (jzv323 b0 b1 b2 b3)) : jS)) rfl ?_
  refine jl_s (S' := ((139, [(5, .int (b0)), (4, .int 0), (3, .int 1), (2, .int 0), (0, .ref 66), (1, .int (xs 1))], [.int 0, .ref 66], (jzv323 b0 b1 b2 b3)) : jS)) rfl ?_
  refine jl_s (S' := ((140, [(5, .int (b0)), (4, .int 0), (3, .int 1), (2, .int 0), (0, .ref 66), (1, .int (xs 1))], [.int 1, .int 0, .ref 66], (jzv323 b0 b1 b2 b3)) : jS)) rfl ?_
  refine jl_s (S' := ((141, [(5, .int (b0)), (4, .int 0), (3, .int 1), (2, .int 0), (0, .ref 66), (1, .int (xs 1))], [.int 1, .ref 66], (jzv323 b0 b1 b2 b3)) : jS)) rfl ?_
  refine jl_s (S' := ((144, [(5, .int (b0)), (4, .int 0), (3, .int 1), (2, .int 0), (0, .ref 66), (1, .int (xs 1))], [], (jzv324 b0 b1 b2 b3)) : jS)) rfl ?_
  refine jl_s (S' := ((147, [(4, .int 8), (5, .int (b0)), (3, .int 1), (2, .int 0), (0, .ref 66), (1, .int (xs 1))], [], (jzv324 b0 b1 b2 b3)) : jS)) rfl ?_
  refine jl_s (S' := ((101, [(4, .int 8), (5, .int (b0)), (3, .int 1), (2, .int 0), (0, .ref 66), (1, .int (xs 1))], [], (jzv324 b0 b1 b2 b3)) : jS)) rfl ?_
  exact hq
set_option maxHeartbeats 4000000 in
set_option maxRecDepth 100000 in
theorem jzq671 (xs : Nat → Int32) (b0 b1 b2 b3 : Int32) (e : ((xs 1) >>> (8 &&& 31)) &&& 255 = b1) (h : jbz b1) {f : Nat} {q : jO × jH} (hq : jLoop (jRun ((4, xs) : jX) 2000 38) ((4, xs) : jX) jm248 f ((101, [(4, .int 16), (5, .int (b1)), (3, .int 1), (2, .int 0), (0, .ref 66), (1, .int (xs 1))], [], (jzv324 b0 b1 b2 b3)) : jS) = some q) : jLoop (jRun ((4, xs) : jX) 2000 38) ((4, xs) : jX) jm248 (f + 13) ((101, [(4, .int 8), (5, .int (b0)), (3, .int 1), (2, .int 0), (0, .ref 66), (1, .int (xs 1))], [], (jzv324 b0 b1 b2 b3)) : jS) = some q := by
  refine jl_s (S' := ((103, [(4, .int 8), (5, .int (b0)), (3, .int 1), (2, .int 0), (0, .ref 66), (1, .int (xs 1))], [.int 8], (jzv324 b0 b1 b2 b3)) : jS)) rfl ?_
  refine jl_s (S' := ((105, [(4, .int 8), (5, .int (b0)), (3, .int 1), (2, .int 0), (0, .ref 66), (1, .int (xs 1))], [.int 32, .int 8], (jzv324 b0 b1 b2 b3)) : jS)) rfl ?_
  refine jl_s (S' := ((108, [(4, .int 8), (5, .int (b0)), (3, .int 1), (2, .int 0), (0, .ref 66), (1, .int (xs 1))], [], (jzv324 b0 b1 b2 b3)) : jS)) rfl ?_
  refine jl_s (S' := ((109, [(4, .int 8), (5, .int (b0)), (3, .int 1), (2, .int 0), (0, .ref 66), (1, .int (xs 1))], [.int (xs 1)], (jzv324 b0 b1 b2 b3)) : jS)) rfl ?_
  refine jl_s (S' := ((111, [(4, .int 8), (5, .int (b0)), (3, .int 1), (2, .int 0), (0, .ref 66), (1, .int (xs 1))], [.int 8, .int (xs 1)], (jzv324 b0 b1 b2 b3)) : jS)) rfl ?_
  refine jl_s (S' := ((112, [(4, .int 8), (5, .int (b0)), (3, .int 1), (2, .int 0), (0, .ref 66), (1, .int (xs 1))], [.int ((xs 1) >>> (8 &&& 31))], (jzv324 b0 b1 b2 b3)) : jS)) rfl ?_
  refine jl_s (S' := ((115, [(4, .int 8), (5, .int (b0)), (3, .int 1), (2, .int 0), (0, .ref 66), (1, .int (xs 1))], [.int 255, .int ((xs 1) >>> (8 &&& 31))], (jzv324 b0 b1 b2 b3)) : jS)) rfl ?_
  refine jl_s (S' := ((116, [(4, .int 8), (5, .int (b0)), (3, .int 1), (2, .int 0), (0, .ref 66), (1, .int (xs 1))], [.int (((xs 1) >>> (8 &&& 31)) &&& 255)], (jzv324 b0 b1 b2 b3)) : jS)) rfl ?_
  rw [e]
  refine jl_s (S' := ((118, [(5, .int (b1)), (4, .int 8), (3, .int 1), (2, .int 0), (0, .ref 66), (1, .int (xs 1))], [], (jzv324 b0 b1 b2 b3)) : jS)) rfl ?_
  refine jl_s (S' := ((120, [(5, .int (b1)), (4, .int 8), (3, .int 1), (2, .int 0), (0, .ref 66), (1, .int (xs 1))], [.int (b1)], (jzv324 b0 b1 b2 b3)) : jS)) rfl ?_
  refine jl_ift (e := jm248) (o := 24) rfl (h.1) (t := 144) rfl ?_
  refine jl_s (S' := ((147, [(4, .int 16), (5, .int (b1)), (3, .int 1), (2, .int 0), (0, .ref 66), (1, .int (xs 1))], [], (jzv324 b0 b1 b2 b3)) : jS)) rfl ?_
  refine jl_s (S' := ((101, [(4, .int 16), (5, .int (b1)), (3, .int 1), (2, .int 0), (0, .ref 66), (1, .int (xs 1))], [], (jzv324 b0 b1 b2 b3)) : jS)) rfl ?_
  exact hq
set_option maxHeartbeats 4000000 in
set_option maxRecDepth 100000 in
theorem jzq673 (xs : Nat → Int32) (b0 b1 b2 b3 : Int32) (e : ((xs 1) >>> (16 &&& 31)) &&& 255 = b2) (h : jbz b2) {f : Nat} {q : jO × jH} (hq : jLoop (jRun ((4, xs) : jX) 2000 38) ((4, xs) : jX) jm248 f ((101, [(4, .int 24), (5, .int (b2)), (3, .int 1), (2, .int 0), (0, .ref 66), (1, .int (xs 1))], [], (jzv324 b0 b1 b2 b3)) : jS) = some q) : jLoop (jRun ((4, xs) : jX) 2000 38) ((4, xs) : jX) jm248 (f + 13) ((101, [(4, .int 16), (5, .int (b1)), (3, .int 1), (2, .int 0), (0, .ref 66), (1, .int (xs 1))], [], (jzv324 b0 b1 b2 b3)) : jS) = some q := by
  refine jl_s (S' := ((103, [(4, .int 16), (5, .int (b1)), (3, .int 1), (2, .int 0), (0, .ref 66), (1, .int (xs 1))], [.int 16], (jzv324 b0 b1 b2 b3)) : jS)) rfl ?_
  refine jl_s (S' := ((105, [(4, .int 16), (5, .int (b1)), (3, .int 1), (2, .int 0), (0, .ref 66), (1, .int (xs 1))], [.int 32, .int 16], (jzv324 b0 b1 b2 b3)) : jS)) rfl ?_
  refine jl_s (S' := ((108, [(4, .int 16), (5, .int (b1)), (3, .int 1), (2, .int 0), (0, .ref 66), (1, .int (xs 1))], [], (jzv324 b0 b1 b2 b3)) : jS)) rfl ?_
  refine jl_s (S' := ((109, [(4, .int 16), (5, .int (b1)), (3, .int 1), (2, .int 0), (0, .ref 66), (1, .int (xs 1))], [.int (xs 1)], (jzv324 b0 b1 b2 b3)) : jS)) rfl ?_
  refine jl_s (S' := ((111, [(4, .int 16), (5, .int (b1)), (3, .int 1), (2, .int 0), (0, .ref 66), (1, .int (xs 1))], [.int 16, .int (xs 1)], (jzv324 b0 b1 b2 b3)) : jS)) rfl ?_
  refine jl_s (S' := ((112, [(4, .int 16), (5, .int (b1)), (3, .int 1), (2, .int 0), (0, .ref 66), (1, .int (xs 1))], [.int ((xs 1) >>> (16 &&& 31))], (jzv324 b0 b1 b2 b3)) : jS)) rfl ?_
  refine jl_s (S' := ((115, [(4, .int 16), (5, .int (b1)), (3, .int 1), (2, .int 0), (0, .ref 66), (1, .int (xs 1))], [.int 255, .int ((xs 1) >>> (16 &&& 31))], (jzv324 b0 b1 b2 b3)) : jS)) rfl ?_
  refine jl_s (S' := ((116, [(4, .int 16), (5, .int (b1)), (3, .int 1), (2, .int 0), (0, .ref 66), (1, .int (xs 1))], [.int (((xs 1) >>> (16 &&& 31)) &&& 255)], (jzv324 b0 b1 b2 b3)) : jS)) rfl ?_
  rw [e]
  refine jl_s (S' := ((118, [(5, .int (b2)), (4, .int 16), (3, .int 1), (2, .int 0), (0, .ref 66), (1, .int (xs 1))], [], (jzv324 b0 b1 b2 b3)) : jS)) rfl ?_
  refine jl_s (S' := ((120, [(5, .int (b2)), (4, .int 16), (3, .int 1), (2, .int 0), (0, .ref 66), (1, .int (xs 1))], [.int (b2)], (jzv324 b0 b1 b2 b3)) : jS)) rfl ?_
  refine jl_ift (e := jm248) (o := 24) rfl (h.1) (t := 144) rfl ?_
  refine jl_s (S' := ((147, [(4, .int 24), (5, .int (b2)), (3, .int 1), (2, .int 0), (0, .ref 66), (1, .int (xs 1))], [], (jzv324 b0 b1 b2 b3)) : jS)) rfl ?_
  refine jl_s (S' := ((101, [(4, .int 24), (5, .int (b2)), (3, .int 1), (2, .int 0), (0, .ref 66), (1, .int (xs 1))], [], (jzv324 b0 b1 b2 b3)) : jS)) rfl ?_
  exact hq
set_option maxHeartbeats 4000000 in
set_option maxRecDepth 100000 in
theorem jzq675 (xs : Nat → Int32) (b0 b1 b2 b3 : Int32) (e : ((xs 1) >>> (24 &&& 31)) &&& 255 = b3) (h : jbz b3) {f : Nat} {q : jO × jH} (hq : jLoop (jRun ((4, xs) : jX) 2000 38) ((4, xs) : jX) jm248 f ((101, [(4, .int 32), (5, .int (b3)), (3, .int 1), (2, .int 0), (0, .ref 66), (1, .int (xs 1))], [], (jzv324 b0 b1 b2 b3)) : jS) = some q) : jLoop (jRun ((4, xs) : jX) 2000 38) ((4, xs) : jX) jm248 (f + 13) ((101, [(4, .int 24), (5, .int (b2)), (3, .int 1), (2, .int 0), (0, .ref 66), (1, .int (xs 1))], [], (jzv324 b0 b1 b2 b3)) : jS) = some q := by
  refine jl_s (S' := ((103, [(4, .int 24), (5, .int (b2)), (3, .int 1), (2, .int 0), (0, .ref 66), (1, .int (xs 1))], [.int 24], (jzv324 b0 b1 b2 b3)) : jS)) rfl ?_
  refine jl_s (S' := ((105, [(4, .int 24), (5, .int (b2)), (3, .int 1), (2, .int 0), (0, .ref 66), (1, .int (xs 1))], [.int 32, .int 24], (jzv324 b0 b1 b2 b3)) : jS)) rfl ?_
  refine jl_s (S' := ((108, [(4, .int 24), (5, .int (b2)), (3, .int 1), (2, .int 0), (0, .ref 66), (1, .int (xs 1))], [], (jzv324 b0 b1 b2 b3)) : jS)) rfl ?_
  refine jl_s (S' := ((109, [(4, .int 24), (5, .int (b2)), (3, .int 1), (2, .int 0), (0, .ref 66), (1, .int (xs 1))], [.int (xs 1)], (jzv324 b0 b1 b2 b3)) : jS)) rfl ?_
  refine jl_s (S' := ((111, [(4, .int 24), (5, .int (b2)), (3, .int 1), (2, .int 0), (0, .ref 66), (1, .int (xs 1))], [.int 24, .int (xs 1)], (jzv324 b0 b1 b2 b3)) : jS)) rfl ?_
  refine jl_s (S' := ((112, [(4, .int 24), (5, .int (b2)), (3, .int 1), (2, .int 0), (0, .ref 66), (1, .int (xs 1))], [.int ((xs 1) >>> (24 &&& 31))], (jzv324 b0 b1 b2 b3)) : jS)) rfl ?_
  refine jl_s (S' := ((115, [(4, .int 24), (5, .int (b2)), (3, .int 1), (2, .int 0), (0, .ref 66), (1, .int (xs 1))], [.int 255, .int ((xs 1) >>> (24 &&& 31))], (jzv324 b0 b1 b2 b3)) : jS)) rfl ?_
  refine jl_s (S' := ((116, [(4, .int 24), (5, .int (b2)), (3, .int 1), (2, .int 0), (0, .ref 66), (1, .int (xs 1))], [.int (((xs 1) >>> (24 &&& 31)) &&& 255)], (jzv324 b0 b1 b2 b3)) : jS)) rfl ?_
  rw [e]
  refine jl_s (S' := ((118, [(5, .int (b3)), (4, .int 24), (3, .int 1), (2, .int 0), (0, .ref 66), (1, .int (xs 1))], [], (jzv324 b0 b1 b2 b3)) : jS)) rfl ?_
  refine jl_s (S' := ((120, [(5, .int (b3)), (4, .int 24), (3, .int 1), (2, .int 0), (0, .ref 66), (1, .int (xs 1))], [.int (b3)], (jzv324 b0 b1 b2 b3)) : jS)) rfl ?_
  refine jl_ift (e := jm248) (o := 24) rfl (h.1) (t := 144) rfl ?_
  refine jl_s (S' := ((147, [(4, .int 32), (5, .int (b3)), (3, .int 1), (2, .int 0), (0, .ref 66), (1, .int (xs 1))], [], (jzv324 b0 b1 b2 b3)) : jS)) rfl ?_
  refine jl_s (S' := ((101, [(4, .int 32), (5, .int (b3)), (3, .int 1), (2, .int 0), (0, .ref 66), (1, .int (xs 1))], [], (jzv324 b0 b1 b2 b3)) : jS)) rfl ?_
  exact hq
set_option maxHeartbeats 4000000 in
set_option maxRecDepth 100000 in
theorem jzq677 (xs : Nat → Int32) (b0 b1 b2 b3 : Int32) {f : Nat} : jLoop (jRun ((4, xs) : jX) 2000 38) ((4, xs) : jX) jm248 (f + 6) ((101, [(4, .int 32), (5, .int (b3)), (3, .int 1), (2, .int 0), (0, .ref 66), (1, .int (xs 1))], [], (jzv324 b0 b1 b2 b3)) : jS) = some (.inl (some (.int 1)), (jzv324 b0 b1 b2 b3)) := by
  refine jl_s (S' := ((103, [(4, .int 32), (5, .int (b3)), (3, .int 1), (2, .int 0), (0, .ref 66), (1, .int (xs 1))], [.int 32], (jzv324 b0 b1 b2 b3)) : jS)) rfl ?_
  refine jl_s (S' := ((105, [(4, .int 32), (5, .int (b3)), (3, .int 1), (2, .int 0), (0, .ref 66), (1, .int (xs 1))], [.int 32, .int 32], (jzv324 b0 b1 b2 b3)) : jS)) rfl ?_
  refine jl_s (S' := ((150, [(4, .int 32), (5, .int (b3)), (3, .int 1), (2, .int 0), (0, .ref 66), (1, .int (xs 1))], [], (jzv324 b0 b1 b2 b3)) : jS)) rfl ?_
  refine jl_s (S' := ((151, [(4, .int 32), (5, .int (b3)), (3, .int 1), (2, .int 0), (0, .ref 66), (1, .int (xs 1))], [.ref 66], (jzv324 b0 b1 b2 b3)) : jS)) rfl ?_
  refine jl_s (S' := ((154, [(4, .int 32), (5, .int (b3)), (3, .int 1), (2, .int 0), (0, .ref 66), (1, .int (xs 1))], [.int 1], (jzv324 b0 b1 b2 b3)) : jS)) rfl ?_
  exact jl_r (r := (.inl (some (.int 1)), (jzv324 b0 b1 b2 b3))) rfl
set_option maxHeartbeats 4000000 in
set_option maxRecDepth 100000 in
theorem jzrp_VZZZ (xs : Nat → Int32) (b0 b1 b2 b3 : Int32) (e0 : ((xs 1) >>> (0 &&& 31)) &&& 255 = b0) (e1 : ((xs 1) >>> (8 &&& 31)) &&& 255 = b1) (e2 : ((xs 1) >>> (16 &&& 31)) &&& 255 = b2) (e3 : ((xs 1) >>> (24 &&& 31)) &&& 255 = b3) (h0 : jbv b0) (h1 : jbz b1) (h2 : jbz b2) (h3 : jbz b3) : jRun ((4, xs) : jX) 2000 39 248 [.ref 66, .int (xs 1)] (jzv322 b0 b1 b2 b3) = some (.inl (some (.int 1)), (jzv324 b0 b1 b2 b3)) := by
  refine jr_run (e := jm248) rfl (Nat.le_of_ble_eq_true rfl) ?_
  refine jzq506 xs b0 b1 b2 b3 _ ?_
  refine jzq662 xs b0 b1 b2 b3 _ e0 h0 ?_
  refine jzq664 xs b0 b1 b2 b3 _ e1 h1 ?_
  refine jzq590 xs b0 b1 b2 b3 _ e2 h2 ?_
  refine jzq552 xs b0 b1 b2 b3 _ e3 h3 ?_
  refine jzq667 xs b0 b1 b2 b3 ?_
  refine jzq669 xs b0 b1 b2 b3 e0 h0.1 ?_
  refine jzq671 xs b0 b1 b2 b3 e1 h1 ?_
  refine jzq673 xs b0 b1 b2 b3 e2 h2 ?_
  refine jzq675 xs b0 b1 b2 b3 e3 h3 ?_
  exact jzq677 xs b0 b1 b2 b3
set_option maxHeartbeats 4000000 in
set_option maxRecDepth 100000 in
theorem jzl678 (xs : Nat → Int32) (hop : xs 0 &&& 31 = 0) (b0 b1 b2 b3 : Int32) (e0 : ((Int32.toUInt32 (xs 1) >>> (Int32.toUInt32 0 &&& Int32.toUInt32 31)).toInt32) &&& 255 = b0) (e1 : ((Int32.toUInt32 (xs 1) >>> (Int32.toUInt32 8 &&& Int32.toUInt32 31)).toInt32) &&& 255 = b1) (e2 : ((Int32.toUInt32 (xs 1) >>> (Int32.toUInt32 16 &&& Int32.toUInt32 31)).toInt32) &&& 255 = b2) (e3 : ((Int32.toUInt32 (xs 1) >>> (Int32.toUInt32 24 &&& Int32.toUInt32 31)).toInt32) &&& 255 = b3) (g0 : ((xs 1) >>> (0 &&& 31)) &&& 255 = b0) (g1 : ((xs 1) >>> (8 &&& 31)) &&& 255 = b1) (g2 : ((xs 1) >>> (16 &&& 31)) &&& 255 = b2) (g3 : ((xs 1) >>> (24 &&& 31)) &&& 255 = b3) (h0 : jbv b0) (h1 : jbz b1) (h2 : jbz b2) (h3 : jbz b3) : jRun ((4, xs) : jX) 2000 39 244 [.ref 66] (jzv324 b0 b1 b2 b3) = some (.inl (some (.int 0)), (jzv324 b0 b1 b2 b3)) := by
  refine jr_run (e := jm244) rfl (Nat.le_of_ble_eq_true rfl) ?_
  refine jl_s (S' := ((1, [(0, .ref 66)], [.ref 66], (jzv324 b0 b1 b2 b3)) : jS)) rfl ?_
  refine jl_s (S' := ((4, [(0, .ref 66)], [.int 0], (jzv324 b0 b1 b2 b3)) : jS)) rfl ?_
  exact jl_r (r := (.inl (some (.int 0)), (jzv324 b0 b1 b2 b3))) rfl
set_option maxHeartbeats 4000000 in
set_option maxRecDepth 100000 in
theorem jzl679 (xs : Nat → Int32) (hop : xs 0 &&& 31 = 0) (b0 b1 b2 b3 : Int32) (e0 : ((Int32.toUInt32 (xs 1) >>> (Int32.toUInt32 0 &&& Int32.toUInt32 31)).toInt32) &&& 255 = b0) (e1 : ((Int32.toUInt32 (xs 1) >>> (Int32.toUInt32 8 &&& Int32.toUInt32 31)).toInt32) &&& 255 = b1) (e2 : ((Int32.toUInt32 (xs 1) >>> (Int32.toUInt32 16 &&& Int32.toUInt32 31)).toInt32) &&& 255 = b2) (e3 : ((Int32.toUInt32 (xs 1) >>> (Int32.toUInt32 24 &&& Int32.toUInt32 31)).toInt32) &&& 255 = b3) (g0 : ((xs 1) >>> (0 &&& 31)) &&& 255 = b0) (g1 : ((xs 1) >>> (8 &&& 31)) &&& 255 = b1) (g2 : ((xs 1) >>> (16 &&& 31)) &&& 255 = b2) (g3 : ((xs 1) >>> (24 &&& 31)) &&& 255 = b3) (h0 : jbv b0) (h1 : jbz b1) (h2 : jbz b2) (h3 : jbz b3) : jLoop (jRun ((4, xs) : jX) 2000 39) ((4, xs) : jX) jm18 1000 ((23, [(4, .int 0), (3, .ref 153), (2, .ref 66), (1, .ref 64), (0, .ref 63)], [], jzv181) : jS) = some (.inl (some (.int 1)), (jzv324 b0 b1 b2 b3)) := by
  refine jl_s (S' := ((25, [(4, .int 0), (3, .ref 153), (2, .ref 66), (1, .ref 64), (0, .ref 63)], [.int 0], jzv181) : jS)) rfl ?_
  refine jl_s (S' := ((26, [(4, .int 0), (3, .ref 153), (2, .ref 66), (1, .ref 64), (0, .ref 63)], [.ref 63, .int 0], jzv181) : jS)) rfl ?_
  refine jl_s (S' := ((27, [(4, .int 0), (3, .ref 153), (2, .ref 66), (1, .ref 64), (0, .ref 63)], [.int 4, .int 0], jzv181) : jS)) rfl ?_
  refine jl_s (S' := ((28, [(4, .int 0), (3, .ref 153), (2, .ref 66), (1, .ref 64), (0, .ref 63)], [.int 4, .int 4, .int 0], jzv181) : jS)) rfl ?_
  refine jl_s (S' := ((29, [(4, .int 0), (3, .ref 153), (2, .ref 66), (1, .ref 64), (0, .ref 63)], [.int 0, .int 0], jzv181) : jS)) rfl ?_
  refine jl_s (S' := ((32, [(4, .int 0), (3, .ref 153), (2, .ref 66), (1, .ref 64), (0, .ref 63)], [], jzv181) : jS)) rfl ?_
  refine jl_s (S' := ((33, [(4, .int 0), (3, .ref 153), (2, .ref 66), (1, .ref 64), (0, .ref 63)], [.ref 63], jzv181) : jS)) rfl ?_
  refine jl_s (S' := ((35, [(4, .int 0), (3, .ref 153), (2, .ref 66), (1, .ref 64), (0, .ref 63)], [.int 0, .ref 63], jzv181) : jS)) rfl ?_
  refine jl_s (S' := ((36, [(4, .int 0), (3, .ref 153), (2, .ref 66), (1, .ref 64), (0, .ref 63)], [.int (xs 0)], jzv181) : jS)) rfl ?_
  refine jl_s (S' := ((38, [(4, .int 0), (3, .ref 153), (2, .ref 66), (1, .ref 64), (0, .ref 63)], [.int 31, .int (xs 0)], jzv181) : jS)) rfl ?_
  refine jl_s (S' := ((39, [(4, .int 0), (3, .ref 153), (2, .ref 66), (1, .ref 64), (0, .ref 63)], [.int ((xs 0) &&& 31)], jzv181) : jS)) rfl ?_
  rw [hop]
  refine jl_s (S' := ((128, [(4, .int 0), (3, .ref 153), (2, .ref 66), (1, .ref 64), (0, .ref 63)], [], jzv181) : jS)) rfl ?_
  refine jl_s (S' := ((129, [(4, .int 0), (3, .ref 153), (2, .ref 66), (1, .ref 64), (0, .ref 63)], [.ref 64], jzv181) : jS)) rfl ?_
  refine jl_s (S' := ((130, [(4, .int 0), (3, .ref 153), (2, .ref 66), (1, .ref 64), (0, .ref 63)], [.ref 63, .ref 64], jzv181) : jS)) rfl ?_
  refine jl_s (S' := ((132, [(4, .int 0), (3, .ref 153), (2, .ref 66), (1, .ref 64), (0, .ref 63)], [.int 0, .ref 63, .ref 64], jzv181) : jS)) rfl ?_
  refine jl_s (S' := ((133, [(4, .int 0), (3, .ref 153), (2, .ref 66), (1, .ref 64), (0, .ref 63)], [.int 1, .int 0, .ref 63, .ref 64], jzv181) : jS)) rfl ?_
  refine jl_s (S' := ((134, [(4, .int 0), (3, .ref 153), (2, .ref 66), (1, .ref 64), (0, .ref 63)], [.int 1, .ref 63, .ref 64], jzv181) : jS)) rfl ?_
  refine jl_s (S' := ((135, [(4, .int 0), (3, .ref 153), (2, .ref 66), (1, .ref 64), (0, .ref 63)], [.int (xs 1), .ref 64], jzv181) : jS)) rfl ?_
  refine jl_s (S' := ((136, [(4, .int 0), (3, .ref 153), (2, .ref 66), (1, .ref 64), (0, .ref 63)], [.ref 153, .int (xs 1), .ref 64], jzv181) : jS)) rfl ?_
  refine jl_c (t := 0) (as := [.ref 64, .int (xs 1), .ref 153]) (V := jzv181) (r := (.inl (some (.int 0)), (jzv322 b0 b1 b2 b3))) (S' := ((139, [(4, .int 0), (3, .ref 153), (2, .ref 66), (1, .ref 64), (0, .ref 63)], [.int 0], (jzv322 b0 b1 b2 b3)) : jS)) rfl (jzl660 xs hop b0 b1 b2 b3 e0 e1 e2 e3 g0 g1 g2 g3 h0 h1 h2 h3) rfl ?_
  refine jl_s (S' := ((141, [(5, .int 0), (4, .int 0), (3, .ref 153), (2, .ref 66), (1, .ref 64), (0, .ref 63)], [], (jzv322 b0 b1 b2 b3)) : jS)) rfl ?_
  refine jl_s (S' := ((142, [(5, .int 0), (4, .int 0), (3, .ref 153), (2, .ref 66), (1, .ref 64), (0, .ref 63)], [.ref 66], (jzv322 b0 b1 b2 b3)) : jS)) rfl ?_
  refine jl_s (S' := ((143, [(5, .int 0), (4, .int 0), (3, .ref 153), (2, .ref 66), (1, .ref 64), (0, .ref 63)], [.ref 63, .ref 66], (jzv322 b0 b1 b2 b3)) : jS)) rfl ?_
  refine jl_s (S' := ((145, [(5, .int 0), (4, .int 0), (3, .ref 153), (2, .ref 66), (1, .ref 64), (0, .ref 63)], [.int 0, .ref 63, .ref 66], (jzv322 b0 b1 b2 b3)) : jS)) rfl ?_
  refine jl_s (S' := ((146, [(5, .int 0), (4, .int 0), (3, .ref 153), (2, .ref 66), (1, .ref 64), (0, .ref 63)], [.int 1, .int 0, .ref 63, .ref 66], (jzv322 b0 b1 b2 b3)) : jS)) rfl ?_
  refine jl_s (S' := ((147, [(5, .int 0), (4, .int 0), (3, .ref 153), (2, .ref 66), (1, .ref 64), (0, .ref 63)], [.int 1, .ref 63, .ref 66], (jzv322 b0 b1 b2 b3)) : jS)) rfl ?_
  refine jl_s (S' := ((148, [(5, .int 0), (4, .int 0), (3, .ref 153), (2, .ref 66), (1, .ref 64), (0, .ref 63)], [.int (xs 1), .ref 66], (jzv322 b0 b1 b2 b3)) : jS)) rfl ?_
  refine jl_c (t := 248) (as := [.ref 66, .int (xs 1)]) (V := (jzv322 b0 b1 b2 b3)) (r := (.inl (some (.int 1)), (jzv324 b0 b1 b2 b3))) (S' := ((151, [(5, .int 0), (4, .int 0), (3, .ref 153), (2, .ref 66), (1, .ref 64), (0, .ref 63)], [.int 1], (jzv324 b0 b1 b2 b3)) : jS)) rfl (jzrp_VZZZ xs b0 b1 b2 b3 g0 g1 g2 g3 h0 h1 h2 h3 ) rfl ?_
  refine jl_s (S' := ((153, [(6, .int 1), (5, .int 0), (4, .int 0), (3, .ref 153), (2, .ref 66), (1, .ref 64), (0, .ref 63)], [], (jzv324 b0 b1 b2 b3)) : jS)) rfl ?_
  refine jl_s (S' := ((154, [(6, .int 1), (5, .int 0), (4, .int 0), (3, .ref 153), (2, .ref 66), (1, .ref 64), (0, .ref 63)], [.ref 66], (jzv324 b0 b1 b2 b3)) : jS)) rfl ?_
  refine jl_c (t := 244) (as := [.ref 66]) (V := (jzv324 b0 b1 b2 b3)) (r := (.inl (some (.int 0)), (jzv324 b0 b1 b2 b3))) (S' := ((157, [(6, .int 1), (5, .int 0), (4, .int 0), (3, .ref 153), (2, .ref 66), (1, .ref 64), (0, .ref 63)], [.int 0], (jzv324 b0 b1 b2 b3)) : jS)) rfl (jzl678 xs hop b0 b1 b2 b3 e0 e1 e2 e3 g0 g1 g2 g3 h0 h1 h2 h3) rfl ?_
  refine jl_s (S' := ((159, [(6, .int 1), (5, .int 0), (4, .int 0), (3, .ref 153), (2, .ref 66), (1, .ref 64), (0, .ref 63)], [.int 0, .int 0], (jzv324 b0 b1 b2 b3)) : jS)) rfl ?_
  refine jl_s (S' := ((164, [(6, .int 1), (5, .int 0), (4, .int 0), (3, .ref 153), (2, .ref 66), (1, .ref 64), (0, .ref 63)], [], (jzv324 b0 b1 b2 b3)) : jS)) rfl ?_
  refine jl_s (S' := ((166, [(6, .int 1), (5, .int 0), (4, .int 0), (3, .ref 153), (2, .ref 66), (1, .ref 64), (0, .ref 63)], [.int 0], (jzv324 b0 b1 b2 b3)) : jS)) rfl ?_
  refine jl_s (S' := ((169, [(6, .int 1), (5, .int 0), (4, .int 0), (3, .ref 153), (2, .ref 66), (1, .ref 64), (0, .ref 63)], [], (jzv324 b0 b1 b2 b3)) : jS)) rfl ?_
  refine jl_s (S' := ((170, [(6, .int 1), (5, .int 0), (4, .int 0), (3, .ref 153), (2, .ref 66), (1, .ref 64), (0, .ref 63)], [.ref 153], (jzv324 b0 b1 b2 b3)) : jS)) rfl ?_
  refine jl_s (S' := ((171, [(6, .int 1), (5, .int 0), (4, .int 0), (3, .ref 153), (2, .ref 66), (1, .ref 64), (0, .ref 63)], [.int 0, .ref 153], (jzv324 b0 b1 b2 b3)) : jS)) rfl ?_
  refine jl_s (S' := ((172, [(6, .int 1), (5, .int 0), (4, .int 0), (3, .ref 153), (2, .ref 66), (1, .ref 64), (0, .ref 63)], [.long 1], (jzv324 b0 b1 b2 b3)) : jS)) rfl ?_
  refine jl_s (S' := ((174, [(6, .int 1), (5, .int 0), (4, .int 0), (3, .ref 153), (2, .ref 66), (1, .ref 64), (0, .ref 63)], [.int 1, .long 1], (jzv324 b0 b1 b2 b3)) : jS)) rfl ?_
  refine jl_s (S' := ((175, [(6, .int 1), (5, .int 0), (4, .int 0), (3, .ref 153), (2, .ref 66), (1, .ref 64), (0, .ref 63)], [.long 1, .long 1], (jzv324 b0 b1 b2 b3)) : jS)) rfl ?_
  refine jl_s (S' := ((176, [(6, .int 1), (5, .int 0), (4, .int 0), (3, .ref 153), (2, .ref 66), (1, .ref 64), (0, .ref 63)], [.int 0], (jzv324 b0 b1 b2 b3)) : jS)) rfl ?_
  refine jl_s (S' := ((181, [(6, .int 1), (5, .int 0), (4, .int 0), (3, .ref 153), (2, .ref 66), (1, .ref 64), (0, .ref 63)], [], (jzv324 b0 b1 b2 b3)) : jS)) rfl ?_
  refine jl_s (S' := ((1193, [(6, .int 1), (5, .int 0), (4, .int 0), (3, .ref 153), (2, .ref 66), (1, .ref 64), (0, .ref 63)], [], (jzv324 b0 b1 b2 b3)) : jS)) rfl ?_
  refine jl_s (S' := ((1196, [(4, .int 4), (6, .int 1), (5, .int 0), (3, .ref 153), (2, .ref 66), (1, .ref 64), (0, .ref 63)], [], (jzv324 b0 b1 b2 b3)) : jS)) rfl ?_
  refine jl_s (S' := ((23, [(4, .int 4), (6, .int 1), (5, .int 0), (3, .ref 153), (2, .ref 66), (1, .ref 64), (0, .ref 63)], [], (jzv324 b0 b1 b2 b3)) : jS)) rfl ?_
  refine jl_s (S' := ((25, [(4, .int 4), (6, .int 1), (5, .int 0), (3, .ref 153), (2, .ref 66), (1, .ref 64), (0, .ref 63)], [.int 4], (jzv324 b0 b1 b2 b3)) : jS)) rfl ?_
  refine jl_s (S' := ((26, [(4, .int 4), (6, .int 1), (5, .int 0), (3, .ref 153), (2, .ref 66), (1, .ref 64), (0, .ref 63)], [.ref 63, .int 4], (jzv324 b0 b1 b2 b3)) : jS)) rfl ?_
  refine jl_s (S' := ((27, [(4, .int 4), (6, .int 1), (5, .int 0), (3, .ref 153), (2, .ref 66), (1, .ref 64), (0, .ref 63)], [.int 4, .int 4], (jzv324 b0 b1 b2 b3)) : jS)) rfl ?_
  refine jl_s (S' := ((28, [(4, .int 4), (6, .int 1), (5, .int 0), (3, .ref 153), (2, .ref 66), (1, .ref 64), (0, .ref 63)], [.int 4, .int 4, .int 4], (jzv324 b0 b1 b2 b3)) : jS)) rfl ?_
  refine jl_s (S' := ((29, [(4, .int 4), (6, .int 1), (5, .int 0), (3, .ref 153), (2, .ref 66), (1, .ref 64), (0, .ref 63)], [.int 0, .int 4], (jzv324 b0 b1 b2 b3)) : jS)) rfl ?_
  refine jl_s (S' := ((1199, [(4, .int 4), (6, .int 1), (5, .int 0), (3, .ref 153), (2, .ref 66), (1, .ref 64), (0, .ref 63)], [], (jzv324 b0 b1 b2 b3)) : jS)) rfl ?_
  refine jl_s (S' := ((1200, [(4, .int 4), (6, .int 1), (5, .int 0), (3, .ref 153), (2, .ref 66), (1, .ref 64), (0, .ref 63)], [.int 1], (jzv324 b0 b1 b2 b3)) : jS)) rfl ?_
  exact jl_r (r := (.inl (some (.int 1)), (jzv324 b0 b1 b2 b3))) rfl
-- op 0 VZZZ: jzl679
def jzv325 (b0 b1 b2 b3 : Int32) : jH := [jzc185, (jzc192 b0 b1 b2 b3), jzc117, jzc7, jzc9, jzc9, jzc9, jzc9, jzc9, jzc17, jzc19, jzc19, jzc19, jzc19, jzc19, jzc19, jzc19, jzc19, jzc28, jzc28, jzc28, jzc28, jzc28, jzc28, jzc28, jzc28, jzc28, jzc28, jzc28, jzc28, jzc28, jzc28, jzc43, jzc43, jzc43, jzc43, jzc43, jzc49, jzc49, jzc52, jzc52, jzc52, jzc56, jzc56, jzc59, jzc56, jzc62, jzc28, jzc28, jzc28, jzc28, jzc28, jzc69, jzc71, jzc73, jzc43, jzc76, jzc52, jzc52, jzc80, jzc80, jzc80, jzc84, jzc52, jzc52, jzc52, jzc52, jzc52, jzc52, jzc52, jzc93, jzc93, jzc52, jzc52, jzc98, jzc100, jzc93, jzc52, jzc52, jzc52, jzc52, jzc107, jzc109, jzc111, jzc100, jzc100, jzc100, jzc111, jzc111, jzc204]
set_option maxHeartbeats 4000000 in
set_option maxRecDepth 100000 in
theorem jzl680 (xs : Nat → Int32) (hop : xs 0 &&& 31 = 0) (b0 b1 b2 b3 : Int32) (e0 : ((Int32.toUInt32 (xs 1) >>> (Int32.toUInt32 0 &&& Int32.toUInt32 31)).toInt32) &&& 255 = b0) (e1 : ((Int32.toUInt32 (xs 1) >>> (Int32.toUInt32 8 &&& Int32.toUInt32 31)).toInt32) &&& 255 = b1) (e2 : ((Int32.toUInt32 (xs 1) >>> (Int32.toUInt32 16 &&& Int32.toUInt32 31)).toInt32) &&& 255 = b2) (e3 : ((Int32.toUInt32 (xs 1) >>> (Int32.toUInt32 24 &&& Int32.toUInt32 31)).toInt32) &&& 255 = b3) (g0 : ((xs 1) >>> (0 &&& 31)) &&& 255 = b0) (g1 : ((xs 1) >>> (8 &&& 31)) &&& 255 = b1) (g2 : ((xs 1) >>> (16 &&& 31)) &&& 255 = b2) (g3 : ((xs 1) >>> (24 &&& 31)) &&& 255 = b3) (h0 : jbv b0) (h1 : jbz b1) (h2 : jbz b2) (h3 : jbv b3) : jRun ((4, xs) : jX) 2000 39 0 [.ref 64, .int (xs 1), .ref 153] jzv181 = some (.inl (some (.int 0)), (jzv325 b0 b1 b2 b3)) := by
  refine jr_run (e := jm0) rfl (Nat.le_of_ble_eq_true rfl) ?_
  refine jl_s (S' := ((1, [(0, .ref 64), (1, .int (xs 1)), (2, .ref 153)], [.ref 153], jzv181) : jS)) rfl ?_
  refine jl_s (S' := ((2, [(0, .ref 64), (1, .int (xs 1)), (2, .ref 153)], [.int 0, .ref 153], jzv181) : jS)) rfl ?_
  refine jl_s (S' := ((3, [(0, .ref 64), (1, .int (xs 1)), (2, .ref 153)], [.ref 64, .int 0, .ref 153], jzv181) : jS)) rfl ?_
  refine jl_s (S' := ((4, [(0, .ref 64), (1, .int (xs 1)), (2, .ref 153)], [.int (xs 1), .ref 64, .int 0, .ref 153], jzv181) : jS)) rfl ?_
  refine jl_c (t := 20) (as := [.ref 64, .int (xs 1)]) (V := jzv181) (r := (.inl (some (.int 2)), (jzv278 b0 b1 b2 b3))) (S' := ((7, [(0, .ref 64), (1, .int (xs 1)), (2, .ref 153)], [.int 2, .int 0, .ref 153], (jzv278 b0 b1 b2 b3)) : jS)) rfl (jzcp_VZZV xs b0 b1 b2 b3 e0 e1 e2 e3 h0 h1 h2 h3 ) rfl ?_
  refine jl_s (S' := ((8, [(0, .ref 64), (1, .int (xs 1)), (2, .ref 153)], [.long 2, .int 0, .ref 153], (jzv278 b0 b1 b2 b3)) : jS)) rfl ?_
  refine jl_s (S' := ((9, [(0, .ref 64), (1, .int (xs 1)), (2, .ref 153)], [], (jzv325 b0 b1 b2 b3)) : jS)) rfl ?_
  refine jl_s (S' := ((18, [(0, .ref 64), (1, .int (xs 1)), (2, .ref 153)], [], (jzv325 b0 b1 b2 b3)) : jS)) rfl ?_
  refine jl_s (S' := ((19, [(0, .ref 64), (1, .int (xs 1)), (2, .ref 153)], [.int 0], (jzv325 b0 b1 b2 b3)) : jS)) rfl ?_
  exact jl_r (r := (.inl (some (.int 0)), (jzv325 b0 b1 b2 b3))) rfl
set_option maxHeartbeats 4000000 in
set_option maxRecDepth 100000 in
theorem jzl681 (xs : Nat → Int32) (b0 b1 b2 b3 : Int32) : jRun ((4, xs) : jX) 2000 38 245 [.ref 66, .int 0, .int 0, .int 0] (jzv325 b0 b1 b2 b3) = some (.inl (some (.int 0)), (jzv325 b0 b1 b2 b3)) := by
  refine jr_run (e := jm245) rfl (Nat.le_of_ble_eq_true rfl) ?_
  refine jl_s (S' := ((1, [(0, .ref 66), (1, .int 0), (2, .int 0), (3, .int 0)], [.ref 66], (jzv325 b0 b1 b2 b3)) : jS)) rfl ?_
  refine jl_s (S' := ((2, [(0, .ref 66), (1, .int 0), (2, .int 0), (3, .int 0)], [.int 0, .ref 66], (jzv325 b0 b1 b2 b3)) : jS)) rfl ?_
  refine jl_s (S' := ((9, [(0, .ref 66), (1, .int 0), (2, .int 0), (3, .int 0)], [.ref 66], (jzv325 b0 b1 b2 b3)) : jS)) rfl ?_
  refine jl_s (S' := ((10, [(0, .ref 66), (1, .int 0), (2, .int 0), (3, .int 0)], [.int 0, .ref 66], (jzv325 b0 b1 b2 b3)) : jS)) rfl ?_
  refine jl_s (S' := ((17, [(0, .ref 66), (1, .int 0), (2, .int 0), (3, .int 0)], [.ref 66], (jzv325 b0 b1 b2 b3)) : jS)) rfl ?_
  refine jl_s (S' := ((18, [(0, .ref 66), (1, .int 0), (2, .int 0), (3, .int 0)], [.int 0, .ref 66], (jzv325 b0 b1 b2 b3)) : jS)) rfl ?_
  refine jl_s (S' := ((25, [(0, .ref 66), (1, .int 0), (2, .int 0), (3, .int 0)], [.ref 66], (jzv325 b0 b1 b2 b3)) : jS)) rfl ?_
  refine jl_s (S' := ((26, [(0, .ref 66), (1, .int 0), (2, .int 0), (3, .int 0)], [.int 0, .ref 66], (jzv325 b0 b1 b2 b3)) : jS)) rfl ?_
  refine jl_s (S' := ((29, [(0, .ref 66), (1, .int 0), (2, .int 0), (3, .int 0)], [], (jzv325 b0 b1 b2 b3)) : jS)) rfl ?_
  refine jl_s (S' := ((30, [(0, .ref 66), (1, .int 0), (2, .int 0), (3, .int 0)], [.ref 66], (jzv325 b0 b1 b2 b3)) : jS)) rfl ?_
  refine jl_s (S' := ((33, [(0, .ref 66), (1, .int 0), (2, .int 0), (3, .int 0)], [.int 0], (jzv325 b0 b1 b2 b3)) : jS)) rfl ?_
  refine jl_s (S' := ((40, [(0, .ref 66), (1, .int 0), (2, .int 0), (3, .int 0)], [], (jzv325 b0 b1 b2 b3)) : jS)) rfl ?_
  refine jl_s (S' := ((41, [(0, .ref 66), (1, .int 0), (2, .int 0), (3, .int 0)], [.int 0], (jzv325 b0 b1 b2 b3)) : jS)) rfl ?_
  exact jl_r (r := (.inl (some (.int 0)), (jzv325 b0 b1 b2 b3))) rfl
set_option maxHeartbeats 4000000 in
set_option maxRecDepth 100000 in
theorem jzq683 (xs : Nat → Int32) (b0 b1 b2 b3 : Int32) {f : Nat} {q : jO × jH} (hq : jLoop (jRun ((4, xs) : jX) 2000 38) ((4, xs) : jX) jm248 f ((101, [(4, .int 0), (3, .int 2), (2, .int 0), (5, .int (b3)), (0, .ref 66), (1, .int (xs 1))], [], (jzv325 b0 b1 b2 b3)) : jS) = some q) : jLoop (jRun ((4, xs) : jX) 2000 38) ((4, xs) : jX) jm248 (f + 19) ((7, [(4, .int 32), (3, .int 2), (2, .int 0), (5, .int (b3)), (0, .ref 66), (1, .int (xs 1))], [], (jzv325 b0 b1 b2 b3)) : jS) = some q := by
  refine jl_s (S' := ((9, [(4, .int 32), (3, .int 2), (2, .int 0), (5, .int (b3)), (0, .ref 66), (1, .int (xs 1))], [.int 32], (jzv325 b0 b1 b2 b3)) : jS)) rfl ?_
  refine jl_s (S' := ((11, [(4, .int 32), (3, .int 2), (2, .int 0), (5, .int (b3)), (0, .ref 66), (1, .int (xs 1))], [.int 32, .int 32], (jzv325 b0 b1 b2 b3)) : jS)) rfl ?_
  refine jl_s (S' := ((66, [(4, .int 32), (3, .int 2), (2, .int 0), (5, .int (b3)), (0, .ref 66), (1, .int (xs 1))], [], (jzv325 b0 b1 b2 b3)) : jS)) rfl ?_
  refine jl_s (S' := ((67, [(4, .int 32), (3, .int 2), (2, .int 0), (5, .int (b3)), (0, .ref 66), (1, .int (xs 1))], [.ref 66], (jzv325 b0 b1 b2 b3)) : jS)) rfl ?_
  refine jl_s (S' := ((68, [(4, .int 32), (3, .int 2), (2, .int 0), (5, .int (b3)), (0, .ref 66), (1, .int (xs 1))], [.int 0, .ref 66], (jzv325 b0 b1 b2 b3)) : jS)) rfl ?_
  refine jl_s (S' := ((69, [(4, .int 32), (3, .int 2), (2, .int 0), (5, .int (b3)), (0, .ref 66), (1, .int (xs 1))], [.int 0, .int 0, .ref 66], (jzv325 b0 b1 b2 b3)) : jS)) rfl ?_
  refine jl_s (S' := ((72, [(4, .int 32), (3, .int 2), (2, .int 0), (5, .int (b3)), (0, .ref 66), (1, .int (xs 1))], [.int 0, .ref 66], (jzv325 b0 b1 b2 b3)) : jS)) rfl ?_
  refine jl_s (S' := ((73, [(4, .int 32), (3, .int 2), (2, .int 0), (5, .int (b3)), (0, .ref 66), (1, .int (xs 1))], [.ref 66, .int 0, .ref 66], (jzv325 b0 b1 b2 b3)) : jS)) rfl ?_
  refine jl_s (S' := ((76, [(4, .int 32), (3, .int 2), (2, .int 0), (5, .int (b3)), (0, .ref 66), (1, .int (xs 1))], [.int 0, .int 0, .ref 66], (jzv325 b0 b1 b2 b3)) : jS)) rfl ?_
  refine jl_s (S' := ((77, [(4, .int 32), (3, .int 2), (2, .int 0), (5, .int (b3)), (0, .ref 66), (1, .int (xs 1))], [.int 2, .int 0, .int 0, .ref 66], (jzv325 b0 b1 b2 b3)) : jS)) rfl ?_
  refine jl_s (S' := ((78, [(4, .int 32), (3, .int 2), (2, .int 0), (5, .int (b3)), (0, .ref 66), (1, .int (xs 1))], [.int 2, .int 0, .ref 66], (jzv325 b0 b1 b2 b3)) : jS)) rfl ?_
  refine jl_s (S' := ((81, [(4, .int 32), (3, .int 2), (2, .int 0), (5, .int (b3)), (0, .ref 66), (1, .int (xs 1))], [.int 3000, .int 2, .int 0, .ref 66], (jzv325 b0 b1 b2 b3)) : jS)) rfl ?_
  refine jl_s (S' := ((88, [(4, .int 32), (3, .int 2), (2, .int 0), (5, .int (b3)), (0, .ref 66), (1, .int (xs 1))], [.int 0, .ref 66], (jzv325 b0 b1 b2 b3)) : jS)) rfl ?_
  refine jl_s (S' := ((89, [(4, .int 32), (3, .int 2), (2, .int 0), (5, .int (b3)), (0, .ref 66), (1, .int (xs 1))], [.int 0, .int 0, .ref 66], (jzv325 b0 b1 b2 b3)) : jS)) rfl ?_
  refine jl_s (S' := ((90, [(4, .int 32), (3, .int 2), (2, .int 0), (5, .int (b3)), (0, .ref 66), (1, .int (xs 1))], [.int 0, .int 0, .int 0, .ref 66], (jzv325 b0 b1 b2 b3)) : jS)) rfl ?_
  refine jl_c (t := 245) (as := [.ref 66, .int 0, .int 0, .int 0]) (V := (jzv325 b0 b1 b2 b3)) (r := (.inl (some (.int 0)), (jzv325 b0 b1 b2 b3))) (S' := ((93, [(4, .int 32), (3, .int 2), (2, .int 0), (5, .int (b3)), (0, .ref 66), (1, .int (xs 1))], [.int 0], (jzv325 b0 b1 b2 b3)) : jS)) rfl (jzl681 xs b0 b1 b2 b3) rfl ?_
  refine jl_s (S' := ((98, [(4, .int 32), (3, .int 2), (2, .int 0), (5, .int (b3)), (0, .ref 66), (1, .int (xs 1))], [], (jzv325 b0 b1 b2 b3)) : jS)) rfl ?_
  refine jl_s (S' := ((99, [(4, .int 32), (3, .int 2), (2, .int 0), (5, .int (b3)), (0, .ref 66), (1, .int (xs 1))], [.int 0], (jzv325 b0 b1 b2 b3)) : jS)) rfl ?_
  refine jl_s (S' := ((101, [(4, .int 0), (3, .int 2), (2, .int 0), (5, .int (b3)), (0, .ref 66), (1, .int (xs 1))], [], (jzv325 b0 b1 b2 b3)) : jS)) rfl ?_
  exact hq
def jzv326 (b0 b1 b2 b3 : Int32) : jH := [jzc185, (jzc192 b0 b1 b2 b3), jzc117, (jzc213 b0 b1 b2 b3), jzc9, jzc9, jzc9, jzc9, jzc9, jzc17, jzc19, jzc19, jzc19, jzc19, jzc19, jzc19, jzc19, jzc19, jzc28, jzc28, jzc28, jzc28, jzc28, jzc28, jzc28, jzc28, jzc28, jzc28, jzc28, jzc28, jzc28, jzc28, jzc43, jzc43, jzc43, jzc43, jzc43, jzc49, jzc49, jzc52, jzc52, jzc52, jzc56, jzc56, jzc59, jzc56, jzc62, jzc28, jzc28, jzc28, jzc28, jzc28, jzc69, jzc71, jzc73, jzc43, jzc76, jzc52, jzc52, jzc80, jzc80, jzc80, jzc84, jzc52, jzc52, jzc52, jzc52, jzc52, jzc52, jzc52, jzc93, jzc93, jzc52, jzc52, jzc98, jzc100, jzc93, jzc52, jzc52, jzc52, jzc52, jzc107, jzc109, jzc111, jzc100, jzc100, jzc100, jzc111, jzc111, jzc204]
def jzv327 (b0 b1 b2 b3 : Int32) : jH := [jzc185, (jzc192 b0 b1 b2 b3), jzc202, (jzc213 b0 b1 b2 b3), jzc9, jzc9, jzc9, jzc9, jzc9, jzc17, jzc19, jzc19, jzc19, jzc19, jzc19, jzc19, jzc19, jzc19, jzc28, jzc28, jzc28, jzc28, jzc28, jzc28, jzc28, jzc28, jzc28, jzc28, jzc28, jzc28, jzc28, jzc28, jzc43, jzc43, jzc43, jzc43, jzc43, jzc49, jzc49, jzc52, jzc52, jzc52, jzc56, jzc56, jzc59, jzc56, jzc62, jzc28, jzc28, jzc28, jzc28, jzc28, jzc69, jzc71, jzc73, jzc43, jzc76, jzc52, jzc52, jzc80, jzc80, jzc80, jzc84, jzc52, jzc52, jzc52, jzc52, jzc52, jzc52, jzc52, jzc93, jzc93, jzc52, jzc52, jzc98, jzc100, jzc93, jzc52, jzc52, jzc52, jzc52, jzc107, jzc109, jzc111, jzc100, jzc100, jzc100, jzc111, jzc111, jzc204]
set_option maxHeartbeats 4000000 in
set_option maxRecDepth 100000 in
theorem jzq685 (xs : Nat → Int32) (b0 b1 b2 b3 : Int32) (e : ((xs 1) >>> (0 &&& 31)) &&& 255 = b0) (h : jbn b0) {f : Nat} {q : jO × jH} (hq : jLoop (jRun ((4, xs) : jX) 2000 38) ((4, xs) : jX) jm248 f ((101, [(4, .int 8), (5, .int (b0)), (3, .int 2), (2, .int 0), (0, .ref 66), (1, .int (xs 1))], [], (jzv327 b0 b1 b2 b3)) : jS) = some q) : jLoop (jRun ((4, xs) : jX) 2000 38) ((4, xs) : jX) jm248 (f + 25) ((101, [(4, .int 0), (3, .int 2), (2, .int 0), (5, .int (b3)), (0, .ref 66), (1, .int (xs 1))], [], (jzv325 b0 b1 b2 b3)) : jS) = some q := by
  refine jl_s (S' := ((103, [(4, .int 0), (3, .int 2), (2, .int 0), (5, .int (b3)), (0, .ref 66), (1, .int (xs 1))], [.int 0], (jzv325 b0 b1 b2 b3)) : jS)) rfl ?_
  refine jl_s (S' := ((105, [(4, .int 0), (3, .int 2), (2, .int 0), (5, .int (b3)), (0, .ref 66), (1, .int (xs 1))], [.int 32, .int 0], (jzv325 b0 b1 b2 b3)) : jS)) rfl ?_
  refine jl_s (S' := ((108, [(4, .int 0), (3, .int 2), (2, .int 0), (5, .int (b3)), (0, .ref 66), (1, .int (xs 1))], [], (jzv325 b0 b1 b2 b3)) : jS)) rfl ?_
  refine jl_s (S' := ((109, [(4, .int 0), (3, .int 2), (2, .int 0), (5, .int (b3)), (0, .ref 66), (1, .int (xs 1))], [.int (xs 1)], (jzv325 b0 b1 b2 b3)) : jS)) rfl ?_
  refine jl_s (S' := ((111, [(4, .int 0), (3, .int 2), (2, .int 0), (5, .int (b3)), (0, .ref 66), (1, .int (xs 1))], [.int 0, .int (xs 1)], (jzv325 b0 b1 b2 b3)) : jS)) rfl ?_
  refine jl_s (S' := ((112, [(4, .int 0), (3, .int 2), (2, .int 0), (5, .int (b3)), (0, .ref 66), (1, .int (xs 1))], [.int ((xs 1) >>> (0 &&& 31))], (jzv325 b0 b1 b2 b3)) : jS)) rfl ?_
  refine jl_s (S' := ((115, [(4, .int 0), (3, .int 2), (2, .int 0), (5, .int (b3)), (0, .ref 66), (1, .int (xs 1))], [.int 255, .int ((xs 1) >>> (0 &&& 31))], (jzv325 b0 b1 b2 b3)) : jS)) rfl ?_
  refine jl_s (S' := ((116, [(4, .int 0), (3, .int 2), (2, .int 0), (5, .int (b3)), (0, .ref 66), (1, .int (xs 1))], [.int (((xs 1) >>> (0 &&& 31)) &&& 255)], (jzv325 b0 b1 b2 b3)) : jS)) rfl ?_
  rw [e]
  refine jl_s (S' := ((118, [(5, .int (b0)), (4, .int 0), (3, .int 2), (2, .int 0), (0, .ref 66), (1, .int (xs 1))], [], (jzv325 b0 b1 b2 b3)) : jS)) rfl ?_
  refine jl_s (S' := ((120, [(5, .int (b0)), (4, .int 0), (3, .int 2), (2, .int 0), (0, .ref 66), (1, .int (xs 1))], [.int (b0)], (jzv325 b0 b1 b2 b3)) : jS)) rfl ?_
  refine jl_iff (e := jm248) (o := 24) rfl (h.1) ?_
  refine jl_s (S' := ((124, [(5, .int (b0)), (4, .int 0), (3, .int 2), (2, .int 0), (0, .ref 66), (1, .int (xs 1))], [.ref 66], (jzv325 b0 b1 b2 b3)) : jS)) rfl ?_
  refine jl_s (S' := ((127, [(5, .int (b0)), (4, .int 0), (3, .int 2), (2, .int 0), (0, .ref 66), (1, .int (xs 1))], [.ref 67], (jzv325 b0 b1 b2 b3)) : jS)) rfl ?_
  refine jl_s (S' := ((128, [(5, .int (b0)), (4, .int 0), (3, .int 2), (2, .int 0), (0, .ref 66), (1, .int (xs 1))], [.ref 66, .ref 67], (jzv325 b0 b1 b2 b3)) : jS)) rfl ?_
  refine jl_s (S' := ((131, [(5, .int (b0)), (4, .int 0), (3, .int 2), (2, .int 0), (0, .ref 66), (1, .int (xs 1))], [.int 0, .ref 67], (jzv325 b0 b1 b2 b3)) : jS)) rfl ?_
  refine jl_s (S' := ((133, [(5, .int (b0)), (4, .int 0), (3, .int 2), (2, .int 0), (0, .ref 66), (1, .int (xs 1))], [.int (b0), .int 0, .ref 67], (jzv325 b0 b1 b2 b3)) : jS)) rfl ?_
  refine jl_s (S' := ((134, [(5, .int (b0)), (4, .int 0), (3, .int 2), (2, .int 0), (0, .ref 66), (1, .int (xs 1))], [], (jzv326 b0 b1 b2 b3)) : jS)) rfl ?_
  refine jl_s (S' := ((135, [(5, .int (b0)), (4, .int 0), (3, .int 2), (2, .int 0), (0, .ref 66), (1, .int (xs 1))], [.ref 66], (jzv326 b0 b1 b2 b3)) : jS)) rfl ?_
  refine jl_s (S' := ((136, [(5, .int (b0)), (4, .int 0), (3, .int 2), (2, .int 0), (0, .ref 66), (1, .int (xs 1))], [.ref 66, .ref 66], (jzv326 b0 b1 b2 b3)) : jS)) rfl ?_
  refine jl_s (S' := ((139, [(5, .int (b0)), (4, .int 0), (3, .int 2), (2, .int 0), (0, .ref 66), (1, .int (xs 1))], [.int 0, .ref 66], (jzv326 b0 b1 b2 b3)) : jS)) rfl ?_
  refine jl_s (S' := ((140, [(5, .int (b0)), (4, .int 0), (3, .int 2), (2, .int 0), (0, .ref 66), (1, .int (xs 1))], [.int 1, .int 0, .ref 66], (jzv326 b0 b1 b2 b3)) : jS)) rfl ?_
  refine jl_s (S' := ((141, [(5, .int (b0)), (4, .int 0), (3, .int 2), (2, .int 0), (0, .ref 66), (1, .int (xs 1))], [.int 1, .ref 66], (jzv326 b0 b1 b2 b3)) : jS)) rfl ?_
  refine jl_s (S' := ((144, [(5, .int (b0)), (4, .int 0), (3, .int 2), (2, .int 0), (0, .ref 66), (1, .int (xs 1))], [], (jzv327 b0 b1 b2 b3)) : jS)) rfl ?_
  refine jl_s (S' := ((147, [(4, .int 8), (5, .int (b0)), (3, .int 2), (2, .int 0), (0, .ref 66), (1, .int (xs 1))], [], (jzv327 b0 b1 b2 b3)) : jS)) rfl ?_
  refine jl_s (S' := ((101, [(4, .int 8), (5, .int (b0)), (3, .int 2), (2, .int 0), (0, .ref 66), (1, .int (xs 1))], [], (jzv327 b0 b1 b2 b3)) : jS)) rfl ?_
  exact hq
set_option maxHeartbeats 4000000 in
set_option maxRecDepth 100000 in
theorem jzq687 (xs : Nat → Int32) (b0 b1 b2 b3 : Int32) (e : ((xs 1) >>> (8 &&& 31)) &&& 255 = b1) (h : jbz b1) {f : Nat} {q : jO × jH} (hq : jLoop (jRun ((4, xs) : jX) 2000 38) ((4, xs) : jX) jm248 f ((101, [(4, .int 16), (5, .int (b1)), (3, .int 2), (2, .int 0), (0, .ref 66), (1, .int (xs 1))], [], (jzv327 b0 b1 b2 b3)) : jS) = some q) : jLoop (jRun ((4, xs) : jX) 2000 38) ((4, xs) : jX) jm248 (f + 13) ((101, [(4, .int 8), (5, .int (b0)), (3, .int 2), (2, .int 0), (0, .ref 66), (1, .int (xs 1))], [], (jzv327 b0 b1 b2 b3)) : jS) = some q := by
  refine jl_s (S' := ((103, [(4, .int 8), (5, .int (b0)), (3, .int 2), (2, .int 0), (0, .ref 66), (1, .int (xs 1))], [.int 8], (jzv327 b0 b1 b2 b3)) : jS)) rfl ?_
  refine jl_s (S' := ((105, [(4, .int 8), (5, .int (b0)), (3, .int 2), (2, .int 0), (0, .ref 66), (1, .int (xs 1))], [.int 32, .int 8], (jzv327 b0 b1 b2 b3)) : jS)) rfl ?_
  refine jl_s (S' := ((108, [(4, .int 8), (5, .int (b0)), (3, .int 2), (2, .int 0), (0, .ref 66), (1, .int (xs 1))], [], (jzv327 b0 b1 b2 b3)) : jS)) rfl ?_
  refine jl_s (S' := ((109, [(4, .int 8), (5, .int (b0)), (3, .int 2), (2, .int 0), (0, .ref 66), (1, .int (xs 1))], [.int (xs 1)], (jzv327 b0 b1 b2 b3)) : jS)) rfl ?_
  refine jl_s (S' := ((111, [(4, .int 8), (5, .int (b0)), (3, .int 2), (2, .int 0), (0, .ref 66), (1, .int (xs 1))], [.int 8, .int (xs 1)], (jzv327 b0 b1 b2 b3)) : jS)) rfl ?_
  refine jl_s (S' := ((112, [(4, .int 8), (5, .int (b0)), (3, .int 2), (2, .int 0), (0, .ref 66), (1, .int (xs 1))], [.int ((xs 1) >>> (8 &&& 31))], (jzv327 b0 b1 b2 b3)) : jS)) rfl ?_
  refine jl_s (S' := ((115, [(4, .int 8), (5, .int (b0)), (3, .int 2), (2, .int 0), (0, .ref 66), (1, .int (xs 1))], [.int 255, .int ((xs 1) >>> (8 &&& 31))], (jzv327 b0 b1 b2 b3)) : jS)) rfl ?_
  refine jl_s (S' := ((116, [(4, .int 8), (5, .int (b0)), (3, .int 2), (2, .int 0), (0, .ref 66), (1, .int (xs 1))], [.int (((xs 1) >>> (8 &&& 31)) &&& 255)], (jzv327 b0 b1 b2 b3)) : jS)) rfl ?_
  rw [e]
  refine jl_s (S' := ((118, [(5, .int (b1)), (4, .int 8), (3, .int 2), (2, .int 0), (0, .ref 66), (1, .int (xs 1))], [], (jzv327 b0 b1 b2 b3)) : jS)) rfl ?_
  refine jl_s (S' := ((120, [(5, .int (b1)), (4, .int 8), (3, .int 2), (2, .int 0), (0, .ref 66), (1, .int (xs 1))], [.int (b1)], (jzv327 b0 b1 b2 b3)) : jS)) rfl ?_
  refine jl_ift (e := jm248) (o := 24) rfl (h.1) (t := 144) rfl ?_
  refine jl_s (S' := ((147, [(4, .int 16), (5, .int (b1)), (3, .int 2), (2, .int 0), (0, .ref 66), (1, .int (xs 1))], [], (jzv327 b0 b1 b2 b3)) : jS)) rfl ?_
  refine jl_s (S' := ((101, [(4, .int 16), (5, .int (b1)), (3, .int 2), (2, .int 0), (0, .ref 66), (1, .int (xs 1))], [], (jzv327 b0 b1 b2 b3)) : jS)) rfl ?_
  exact hq
set_option maxHeartbeats 4000000 in
set_option maxRecDepth 100000 in
theorem jzq689 (xs : Nat → Int32) (b0 b1 b2 b3 : Int32) (e : ((xs 1) >>> (16 &&& 31)) &&& 255 = b2) (h : jbz b2) {f : Nat} {q : jO × jH} (hq : jLoop (jRun ((4, xs) : jX) 2000 38) ((4, xs) : jX) jm248 f ((101, [(4, .int 24), (5, .int (b2)), (3, .int 2), (2, .int 0), (0, .ref 66), (1, .int (xs 1))], [], (jzv327 b0 b1 b2 b3)) : jS) = some q) : jLoop (jRun ((4, xs) : jX) 2000 38) ((4, xs) : jX) jm248 (f + 13) ((101, [(4, .int 16), (5, .int (b1)), (3, .int 2), (2, .int 0), (0, .ref 66), (1, .int (xs 1))], [], (jzv327 b0 b1 b2 b3)) : jS) = some q := by
  refine jl_s (S' := ((103, [(4, .int 16), (5, .int (b1)), (3, .int 2), (2, .int 0), (0, .ref 66), (1, .int (xs 1))], [.int 16], (jzv327 b0 b1 b2 b3)) : jS)) rfl ?_
  refine jl_s (S' := ((105, [(4, .int 16), (5, .int (b1)), (3, .int 2), (2, .int 0), (0, .ref 66), (1, .int (xs 1))], [.int 32, .int 16], (jzv327 b0 b1 b2 b3)) : jS)) rfl ?_
  refine jl_s (S' := ((108, [(4, .int 16), (5, .int (b1)), (3, .int 2), (2, .int 0), (0, .ref 66), (1, .int (xs 1))], [], (jzv327 b0 b1 b2 b3)) : jS)) rfl ?_
  refine jl_s (S' := ((109, [(4, .int 16), (5, .int (b1)), (3, .int 2), (2, .int 0), (0, .ref 66), (1, .int (xs 1))], [.int (xs 1)], (jzv327 b0 b1 b2 b3)) : jS)) rfl ?_
  refine jl_s (S' := ((111, [(4, .int 16), (5, .int (b1)), (3, .int 2), (2, .int 0), (0, .ref 66), (1, .int (xs 1))], [.int 16, .int (xs 1)], (jzv327 b0 b1 b2 b3)) : jS)) rfl ?_
  refine jl_s (S' := ((112, [(4, .int 16), (5, .int (b1)), (3, .int 2), (2, .int 0), (0, .ref 66), (1, .int (xs 1))], [.int ((xs 1) >>> (16 &&& 31))], (jzv327 b0 b1 b2 b3)) : jS)) rfl ?_
  refine jl_s (S' := ((115, [(4, .int 16), (5, .int (b1)), (3, .int 2), (2, .int 0), (0, .ref 66), (1, .int (xs 1))], [.int 255, .int ((xs 1) >>> (16 &&& 31))], (jzv327 b0 b1 b2 b3)) : jS)) rfl ?_
  refine jl_s (S' := ((116, [(4, .int 16), (5, .int (b1)), (3, .int 2), (2, .int 0), (0, .ref 66), (1, .int (xs 1))], [.int (((xs 1) >>> (16 &&& 31)) &&& 255)], (jzv327 b0 b1 b2 b3)) : jS)) rfl ?_
  rw [e]
  refine jl_s (S' := ((118, [(5, .int (b2)), (4, .int 16), (3, .int 2), (2, .int 0), (0, .ref 66), (1, .int (xs 1))], [], (jzv327 b0 b1 b2 b3)) : jS)) rfl ?_
  refine jl_s (S' := ((120, [(5, .int (b2)), (4, .int 16), (3, .int 2), (2, .int 0), (0, .ref 66), (1, .int (xs 1))], [.int (b2)], (jzv327 b0 b1 b2 b3)) : jS)) rfl ?_
  refine jl_ift (e := jm248) (o := 24) rfl (h.1) (t := 144) rfl ?_
  refine jl_s (S' := ((147, [(4, .int 24), (5, .int (b2)), (3, .int 2), (2, .int 0), (0, .ref 66), (1, .int (xs 1))], [], (jzv327 b0 b1 b2 b3)) : jS)) rfl ?_
  refine jl_s (S' := ((101, [(4, .int 24), (5, .int (b2)), (3, .int 2), (2, .int 0), (0, .ref 66), (1, .int (xs 1))], [], (jzv327 b0 b1 b2 b3)) : jS)) rfl ?_
  exact hq
def jzc214 (b0 b1 b2 b3 : Int32) : jC := .inl (1, 3000, .inl (upd (upd (fun _ => 0) 0 (b0)) 1 (b3)))
def jzv328 (b0 b1 b2 b3 : Int32) : jH := [jzc185, (jzc192 b0 b1 b2 b3), jzc202, (jzc214 b0 b1 b2 b3), jzc9, jzc9, jzc9, jzc9, jzc9, jzc17, jzc19, jzc19, jzc19, jzc19, jzc19, jzc19, jzc19, jzc19, jzc28, jzc28, jzc28, jzc28, jzc28, jzc28, jzc28, jzc28, jzc28, jzc28, jzc28, jzc28, jzc28, jzc28, jzc43, jzc43, jzc43, jzc43, jzc43, jzc49, jzc49, jzc52, jzc52, jzc52, jzc56, jzc56, jzc59, jzc56, jzc62, jzc28, jzc28, jzc28, jzc28, jzc28, jzc69, jzc71, jzc73, jzc43, jzc76, jzc52, jzc52, jzc80, jzc80, jzc80, jzc84, jzc52, jzc52, jzc52, jzc52, jzc52, jzc52, jzc52, jzc93, jzc93, jzc52, jzc52, jzc98, jzc100, jzc93, jzc52, jzc52, jzc52, jzc52, jzc107, jzc109, jzc111, jzc100, jzc100, jzc100, jzc111, jzc111, jzc204]
def jzv329 (b0 b1 b2 b3 : Int32) : jH := [jzc185, (jzc192 b0 b1 b2 b3), jzc206, (jzc214 b0 b1 b2 b3), jzc9, jzc9, jzc9, jzc9, jzc9, jzc17, jzc19, jzc19, jzc19, jzc19, jzc19, jzc19, jzc19, jzc19, jzc28, jzc28, jzc28, jzc28, jzc28, jzc28, jzc28, jzc28, jzc28, jzc28, jzc28, jzc28, jzc28, jzc28, jzc43, jzc43, jzc43, jzc43, jzc43, jzc49, jzc49, jzc52, jzc52, jzc52, jzc56, jzc56, jzc59, jzc56, jzc62, jzc28, jzc28, jzc28, jzc28, jzc28, jzc69, jzc71, jzc73, jzc43, jzc76, jzc52, jzc52, jzc80, jzc80, jzc80, jzc84, jzc52, jzc52, jzc52, jzc52, jzc52, jzc52, jzc52, jzc93, jzc93, jzc52, jzc52, jzc98, jzc100, jzc93, jzc52, jzc52, jzc52, jzc52, jzc107, jzc109, jzc111, jzc100, jzc100, jzc100, jzc111, jzc111, jzc204]
set_option maxHeartbeats 4000000 in
set_option maxRecDepth 100000 in
theorem jzq691 (xs : Nat → Int32) (b0 b1 b2 b3 : Int32) (e : ((xs 1) >>> (24 &&& 31)) &&& 255 = b3) (h : jbn b3) {f : Nat} {q : jO × jH} (hq : jLoop (jRun ((4, xs) : jX) 2000 38) ((4, xs) : jX) jm248 f ((101, [(4, .int 32), (5, .int (b3)), (3, .int 2), (2, .int 0), (0, .ref 66), (1, .int (xs 1))], [], (jzv329 b0 b1 b2 b3)) : jS) = some q) : jLoop (jRun ((4, xs) : jX) 2000 38) ((4, xs) : jX) jm248 (f + 25) ((101, [(4, .int 24), (5, .int (b2)), (3, .int 2), (2, .int 0), (0, .ref 66), (1, .int (xs 1))], [], (jzv327 b0 b1 b2 b3)) : jS) = some q := by
  refine jl_s (S' := ((103, [(4, .int 24), (5, .int (b2)), (3, .int 2), (2, .int 0), (0, .ref 66), (1, .int (xs 1))], [.int 24], (jzv327 b0 b1 b2 b3)) : jS)) rfl ?_
  refine jl_s (S' := ((105, [(4, .int 24), (5, .int (b2)), (3, .int 2), (2, .int 0), (0, .ref 66), (1, .int (xs 1))], [.int 32, .int 24], (jzv327 b0 b1 b2 b3)) : jS)) rfl ?_
  refine jl_s (S' := ((108, [(4, .int 24), (5, .int (b2)), (3, .int 2), (2, .int 0), (0, .ref 66), (1, .int (xs 1))], [], (jzv327 b0 b1 b2 b3)) : jS)) rfl ?_
  refine jl_s (S' := ((109, [(4, .int 24), (5, .int (b2)), (3, .int 2), (2, .int 0), (0, .ref 66), (1, .int (xs 1))], [.int (xs 1)], (jzv327 b0 b1 b2 b3)) : jS)) rfl ?_
  refine jl_s (S' := ((111, [(4, .int 24), (5, .int (b2)), (3, .int 2), (2, .int 0), (0, .ref 66), (1, .int (xs 1))], [.int 24, .int (xs 1)], (jzv327 b0 b1 b2 b3)) : jS)) rfl ?_
  refine jl_s (S' := ((112, [(4, .int 24), (5, .int (b2)), (3, .int 2), (2, .int 0), (0, .ref 66), (1, .int (xs 1))], [.int ((xs 1) >>> (24 &&& 31))], (jzv327 b0 b1 b2 b3)) : jS)) rfl ?_
  refine jl_s (S' := ((115, [(4, .int 24), (5, .int (b2)), (3, .int 2), (2, .int 0), (0, .ref 66), (1, .int (xs 1))], [.int 255, .int ((xs 1) >>> (24 &&& 31))], (jzv327 b0 b1 b2 b3)) : jS)) rfl ?_
  refine jl_s (S' := ((116, [(4, .int 24), (5, .int (b2)), (3, .int 2), (2, .int 0), (0, .ref 66), (1, .int (xs 1))], [.int (((xs 1) >>> (24 &&& 31)) &&& 255)], (jzv327 b0 b1 b2 b3)) : jS)) rfl ?_
  rw [e]
  refine jl_s (S' := ((118, [(5, .int (b3)), (4, .int 24), (3, .int 2), (2, .int 0), (0, .ref 66), (1, .int (xs 1))], [], (jzv327 b0 b1 b2 b3)) : jS)) rfl ?_
  refine jl_s (S' := ((120, [(5, .int (b3)), (4, .int 24), (3, .int 2), (2, .int 0), (0, .ref 66), (1, .int (xs 1))], [.int (b3)], (jzv327 b0 b1 b2 b3)) : jS)) rfl ?_
  refine jl_iff (e := jm248) (o := 24) rfl (h.1) ?_
  refine jl_s (S' := ((124, [(5, .int (b3)), (4, .int 24), (3, .int 2), (2, .int 0), (0, .ref 66), (1, .int (xs 1))], [.ref 66], (jzv327 b0 b1 b2 b3)) : jS)) rfl ?_
  refine jl_s (S' := ((127, [(5, .int (b3)), (4, .int 24), (3, .int 2), (2, .int 0), (0, .ref 66), (1, .int (xs 1))], [.ref 67], (jzv327 b0 b1 b2 b3)) : jS)) rfl ?_
  refine jl_s (S' := ((128, [(5, .int (b3)), (4, .int 24), (3, .int 2), (2, .int 0), (0, .ref 66), (1, .int (xs 1))], [.ref 66, .ref 67], (jzv327 b0 b1 b2 b3)) : jS)) rfl ?_
  refine jl_s (S' := ((131, [(5, .int (b3)), (4, .int 24), (3, .int 2), (2, .int 0), (0, .ref 66), (1, .int (xs 1))], [.int 1, .ref 67], (jzv327 b0 b1 b2 b3)) : jS)) rfl ?_
  refine jl_s (S' := ((133, [(5, .int (b3)), (4, .int 24), (3, .int 2), (2, .int 0), (0, .ref 66), (1, .int (xs 1))], [.int (b3), .int 1, .ref 67], (jzv327 b0 b1 b2 b3)) : jS)) rfl ?_
  refine jl_s (S' := ((134, [(5, .int (b3)), (4, .int 24), (3, .int 2), (2, .int 0), (0, .ref 66), (1, .int (xs 1))], [], (jzv328 b0 b1 b2 b3)) : jS)) rfl ?_
  refine jl_s (S' := ((135, [(5, .int (b3)), (4, .int 24), (3, .int 2), (2, .int 0), (0, .ref 66), (1, .int (xs 1))], [.ref 66], (jzv328 b0 b1 b2 b3)) : jS)) rfl ?_
  refine jl_s (S' := ((136, [(5, .int (b3)), (4, .int 24), (3, .int 2), (2, .int 0), (0, .ref 66), (1, .int (xs 1))], [.ref 66, .ref 66], (jzv328 b0 b1 b2 b3)) : jS)) rfl ?_
  refine jl_s (S' := ((139, [(5, .int (b3)), (4, .int 24), (3, .int 2), (2, .int 0), (0, .ref 66), (1, .int (xs 1))], [.int 1, .ref 66], (jzv328 b0 b1 b2 b3)) : jS)) rfl ?_
  refine jl_s (S' := ((140, [(5, .int (b3)), (4, .int 24), (3, .int 2), (2, .int 0), (0, .ref 66), (1, .int (xs 1))], [.int 1, .int 1, .ref 66], (jzv328 b0 b1 b2 b3)) : jS)) rfl ?_
  refine jl_s (S' := ((141, [(5, .int (b3)), (4, .int 24), (3, .int 2), (2, .int 0), (0, .ref 66), (1, .int (xs 1))], [.int 2, .ref 66], (jzv328 b0 b1 b2 b3)) : jS)) rfl ?_
  refine jl_s (S' := ((144, [(5, .int (b3)), (4, .int 24), (3, .int 2), (2, .int 0), (0, .ref 66), (1, .int (xs 1))], [], (jzv329 b0 b1 b2 b3)) : jS)) rfl ?_
  refine jl_s (S' := ((147, [(4, .int 32), (5, .int (b3)), (3, .int 2), (2, .int 0), (0, .ref 66), (1, .int (xs 1))], [], (jzv329 b0 b1 b2 b3)) : jS)) rfl ?_
  refine jl_s (S' := ((101, [(4, .int 32), (5, .int (b3)), (3, .int 2), (2, .int 0), (0, .ref 66), (1, .int (xs 1))], [], (jzv329 b0 b1 b2 b3)) : jS)) rfl ?_
  exact hq
set_option maxHeartbeats 4000000 in
set_option maxRecDepth 100000 in
theorem jzq693 (xs : Nat → Int32) (b0 b1 b2 b3 : Int32) {f : Nat} : jLoop (jRun ((4, xs) : jX) 2000 38) ((4, xs) : jX) jm248 (f + 6) ((101, [(4, .int 32), (5, .int (b3)), (3, .int 2), (2, .int 0), (0, .ref 66), (1, .int (xs 1))], [], (jzv329 b0 b1 b2 b3)) : jS) = some (.inl (some (.int 2)), (jzv329 b0 b1 b2 b3)) := by
  refine jl_s (S' := ((103, [(4, .int 32), (5, .int (b3)), (3, .int 2), (2, .int 0), (0, .ref 66), (1, .int (xs 1))], [.int 32], (jzv329 b0 b1 b2 b3)) : jS)) rfl ?_
  refine jl_s (S' := ((105, [(4, .int 32), (5, .int (b3)), (3, .int 2), (2, .int 0), (0, .ref 66), (1, .int (xs 1))], [.int 32, .int 32], (jzv329 b0 b1 b2 b3)) : jS)) rfl ?_
  refine jl_s (S' := ((150, [(4, .int 32), (5, .int (b3)), (3, .int 2), (2, .int 0), (0, .ref 66), (1, .int (xs 1))], [], (jzv329 b0 b1 b2 b3)) : jS)) rfl ?_
  refine jl_s (S' := ((151, [(4, .int 32), (5, .int (b3)), (3, .int 2), (2, .int 0), (0, .ref 66), (1, .int (xs 1))], [.ref 66], (jzv329 b0 b1 b2 b3)) : jS)) rfl ?_
  refine jl_s (S' := ((154, [(4, .int 32), (5, .int (b3)), (3, .int 2), (2, .int 0), (0, .ref 66), (1, .int (xs 1))], [.int 2], (jzv329 b0 b1 b2 b3)) : jS)) rfl ?_
  exact jl_r (r := (.inl (some (.int 2)), (jzv329 b0 b1 b2 b3))) rfl
set_option maxHeartbeats 4000000 in
set_option maxRecDepth 100000 in
theorem jzrp_VZZV (xs : Nat → Int32) (b0 b1 b2 b3 : Int32) (e0 : ((xs 1) >>> (0 &&& 31)) &&& 255 = b0) (e1 : ((xs 1) >>> (8 &&& 31)) &&& 255 = b1) (e2 : ((xs 1) >>> (16 &&& 31)) &&& 255 = b2) (e3 : ((xs 1) >>> (24 &&& 31)) &&& 255 = b3) (h0 : jbv b0) (h1 : jbz b1) (h2 : jbz b2) (h3 : jbv b3) : jRun ((4, xs) : jX) 2000 39 248 [.ref 66, .int (xs 1)] (jzv325 b0 b1 b2 b3) = some (.inl (some (.int 2)), (jzv329 b0 b1 b2 b3)) := by
  refine jr_run (e := jm248) rfl (Nat.le_of_ble_eq_true rfl) ?_
  refine jzq506 xs b0 b1 b2 b3 _ ?_
  refine jzq662 xs b0 b1 b2 b3 _ e0 h0 ?_
  refine jzq664 xs b0 b1 b2 b3 _ e1 h1 ?_
  refine jzq590 xs b0 b1 b2 b3 _ e2 h2 ?_
  refine jzq570 xs b0 b1 b2 b3 _ e3 h3 ?_
  refine jzq683 xs b0 b1 b2 b3 ?_
  refine jzq685 xs b0 b1 b2 b3 e0 h0.1 ?_
  refine jzq687 xs b0 b1 b2 b3 e1 h1 ?_
  refine jzq689 xs b0 b1 b2 b3 e2 h2 ?_
  refine jzq691 xs b0 b1 b2 b3 e3 h3.1 ?_
  exact jzq693 xs b0 b1 b2 b3
set_option maxHeartbeats 4000000 in
set_option maxRecDepth 100000 in
theorem jzl694 (xs : Nat → Int32) (hop : xs 0 &&& 31 = 0) (b0 b1 b2 b3 : Int32) (e0 : ((Int32.toUInt32 (xs 1) >>> (Int32.toUInt32 0 &&& Int32.toUInt32 31)).toInt32) &&& 255 = b0) (e1 : ((Int32.toUInt32 (xs 1) >>> (Int32.toUInt32 8 &&& Int32.toUInt32 31)).toInt32) &&& 255 = b1) (e2 : ((Int32.toUInt32 (xs 1) >>> (Int32.toUInt32 16 &&& Int32.toUInt32 31)).toInt32) &&& 255 = b2) (e3 : ((Int32.toUInt32 (xs 1) >>> (Int32.toUInt32 24 &&& Int32.toUInt32 31)).toInt32) &&& 255 = b3) (g0 : ((xs 1) >>> (0 &&& 31)) &&& 255 = b0) (g1 : ((xs 1) >>> (8 &&& 31)) &&& 255 = b1) (g2 : ((xs 1) >>> (16 &&& 31)) &&& 255 = b2) (g3 : ((xs 1) >>> (24 &&& 31)) &&& 255 = b3) (h0 : jbv b0) (h1 : jbz b1) (h2 : jbz b2) (h3 : jbv b3) : jRun ((4, xs) : jX) 2000 39 244 [.ref 66] (jzv329 b0 b1 b2 b3) = some (.inl (some (.int 0)), (jzv329 b0 b1 b2 b3)) := by
  refine jr_run (e := jm244) rfl (Nat.le_of_ble_eq_true rfl) ?_
  refine jl_s (S' := ((1, [(0, .ref 66)], [.ref 66], (jzv329 b0 b1 b2 b3)) : jS)) rfl ?_
  refine jl_s (S' := ((4, [(0, .ref 66)], [.int 0], (jzv329 b0 b1 b2 b3)) : jS)) rfl ?_
  exact jl_r (r := (.inl (some (.int 0)), (jzv329 b0 b1 b2 b3))) rfl
set_option maxHeartbeats 4000000 in
set_option maxRecDepth 100000 in
theorem jzl695 (xs : Nat → Int32) (hop : xs 0 &&& 31 = 0) (b0 b1 b2 b3 : Int32) (e0 : ((Int32.toUInt32 (xs 1) >>> (Int32.toUInt32 0 &&& Int32.toUInt32 31)).toInt32) &&& 255 = b0) (e1 : ((Int32.toUInt32 (xs 1) >>> (Int32.toUInt32 8 &&& Int32.toUInt32 31)).toInt32) &&& 255 = b1) (e2 : ((Int32.toUInt32 (xs 1) >>> (Int32.toUInt32 16 &&& Int32.toUInt32 31)).toInt32) &&& 255 = b2) (e3 : ((Int32.toUInt32 (xs 1) >>> (Int32.toUInt32 24 &&& Int32.toUInt32 31)).toInt32) &&& 255 = b3) (g0 : ((xs 1) >>> (0 &&& 31)) &&& 255 = b0) (g1 : ((xs 1) >>> (8 &&& 31)) &&& 255 = b1) (g2 : ((xs 1) >>> (16 &&& 31)) &&& 255 = b2) (g3 : ((xs 1) >>> (24 &&& 31)) &&& 255 = b3) (h0 : jbv b0) (h1 : jbz b1) (h2 : jbz b2) (h3 : jbv b3) : jLoop (jRun ((4, xs) : jX) 2000 39) ((4, xs) : jX) jm18 1000 ((23, [(4, .int 0), (3, .ref 153), (2, .ref 66), (1, .ref 64), (0, .ref 63)], [], jzv181) : jS) = some (.inl (some (.int 1)), (jzv329 b0 b1 b2 b3)) := by
  refine jl_s (S' := ((25, [(4, .int 0), (3, .ref 153), (2, .ref 66), (1, .ref 64), (0, .ref 63)], [.int 0], jzv181) : jS)) rfl ?_
  refine jl_s (S' := ((26, [(4, .int 0), (3, .ref 153), (2, .ref 66), (1, .ref 64), (0, .ref 63)], [.ref 63, .int 0], jzv181) : jS)) rfl ?_
  refine jl_s (S' := ((27, [(4, .int 0), (3, .ref 153), (2, .ref 66), (1, .ref 64), (0, .ref 63)], [.int 4, .int 0], jzv181) : jS)) rfl ?_
  refine jl_s (S' := ((28, [(4, .int 0), (3, .ref 153), (2, .ref 66), (1, .ref 64), (0, .ref 63)], [.int 4, .int 4, .int 0], jzv181) : jS)) rfl ?_
  refine jl_s (S' := ((29, [(4, .int 0), (3, .ref 153), (2, .ref 66), (1, .ref 64), (0, .ref 63)], [.int 0, .int 0], jzv181) : jS)) rfl ?_
  refine jl_s (S' := ((32, [(4, .int 0), (3, .ref 153), (2, .ref 66), (1, .ref 64), (0, .ref 63)], [], jzv181) : jS)) rfl ?_
  refine jl_s (S' := ((33, [(4, .int 0), (3, .ref 153), (2, .ref 66), (1, .ref 64), (0, .ref 63)], [.ref 63], jzv181) : jS)) rfl ?_
  refine jl_s (S' := ((35, [(4, .int 0), (3, .ref 153), (2, .ref 66), (1, .ref 64), (0, .ref 63)], [.int 0, .ref 63], jzv181) : jS)) rfl ?_
  refine jl_s (S' := ((36, [(4, .int 0), (3, .ref 153), (2, .ref 66), (1, .ref 64), (0, .ref 63)], [.int (xs 0)], jzv181) : jS)) rfl ?_
  refine jl_s (S' := ((38, [(4, .int 0), (3, .ref 153), (2, .ref 66), (1, .ref 64), (0, .ref 63)], [.int 31, .int (xs 0)], jzv181) : jS)) rfl ?_
  refine jl_s (S' := ((39, [(4, .int 0), (3, .ref 153), (2, .ref 66), (1, .ref 64), (0, .ref 63)], [.int ((xs 0) &&& 31)], jzv181) : jS)) rfl ?_
  rw [hop]
  refine jl_s (S' := ((128, [(4, .int 0), (3, .ref 153), (2, .ref 66), (1, .ref 64), (0, .ref 63)], [], jzv181) : jS)) rfl ?_
  refine jl_s (S' := ((129, [(4, .int 0), (3, .ref 153), (2, .ref 66), (1, .ref 64), (0, .ref 63)], [.ref 64], jzv181) : jS)) rfl ?_
  refine jl_s (S' := ((130, [(4, .int 0), (3, .ref 153), (2, .ref 66), (1, .ref 64), (0, .ref 63)], [.ref 63, .ref 64], jzv181) : jS)) rfl ?_
  refine jl_s (S' := ((132, [(4, .int 0), (3, .ref 153), (2, .ref 66), (1, .ref 64), (0, .ref 63)], [.int 0, .ref 63, .ref 64], jzv181) : jS)) rfl ?_
  refine jl_s (S' := ((133, [(4, .int 0), (3, .ref 153), (2, .ref 66), (1, .ref 64), (0, .ref 63)], [.int 1, .int 0, .ref 63, .ref 64], jzv181) : jS)) rfl ?_
  refine jl_s (S' := ((134, [(4, .int 0), (3, .ref 153), (2, .ref 66), (1, .ref 64), (0, .ref 63)], [.int 1, .ref 63, .ref 64], jzv181) : jS)) rfl ?_
  refine jl_s (S' := ((135, [(4, .int 0), (3, .ref 153), (2, .ref 66), (1, .ref 64), (0, .ref 63)], [.int (xs 1), .ref 64], jzv181) : jS)) rfl ?_
  refine jl_s (S' := ((136, [(4, .int 0), (3, .ref 153), (2, .ref 66), (1, .ref 64), (0, .ref 63)], [.ref 153, .int (xs 1), .ref 64], jzv181) : jS)) rfl ?_
  refine jl_c (t := 0) (as := [.ref 64, .int (xs 1), .ref 153]) (V := jzv181) (r := (.inl (some (.int 0)), (jzv325 b0 b1 b2 b3))) (S' := ((139, [(4, .int 0), (3, .ref 153), (2, .ref 66), (1, .ref 64), (0, .ref 63)], [.int 0], (jzv325 b0 b1 b2 b3)) : jS)) rfl (jzl680 xs hop b0 b1 b2 b3 e0 e1 e2 e3 g0 g1 g2 g3 h0 h1 h2 h3) rfl ?_
  refine jl_s (S' := ((141, [(5, .int 0), (4, .int 0), (3, .ref 153), (2, .ref 66), (1, .ref 64), (0, .ref 63)], [], (jzv325 b0 b1 b2 b3)) : jS)) rfl ?_
  refine jl_s (S' := ((142, [(5, .int 0), (4, .int 0), (3, .ref 153), (2, .ref 66), (1, .ref 64), (0, .ref 63)], [.ref 66], (jzv325 b0 b1 b2 b3)) : jS)) rfl ?_
  refine jl_s (S' := ((143, [(5, .int 0), (4, .int 0), (3, .ref 153), (2, .ref 66), (1, .ref 64), (0, .ref 63)], [.ref 63, .ref 66], (jzv325 b0 b1 b2 b3)) : jS)) rfl ?_
  refine jl_s (S' := ((145, [(5, .int 0), (4, .int 0), (3, .ref 153), (2, .ref 66), (1, .ref 64), (0, .ref 63)], [.int 0, .ref 63, .ref 66], (jzv325 b0 b1 b2 b3)) : jS)) rfl ?_
  refine jl_s (S' := ((146, [(5, .int 0), (4, .int 0), (3, .ref 153), (2, .ref 66), (1, .ref 64), (0, .ref 63)], [.int 1, .int 0, .ref 63, .ref 66], (jzv325 b0 b1 b2 b3)) : jS)) rfl ?_
  refine jl_s (S' := ((147, [(5, .int 0), (4, .int 0), (3, .ref 153), (2, .ref 66), (1, .ref 64), (0, .ref 63)], [.int 1, .ref 63, .ref 66], (jzv325 b0 b1 b2 b3)) : jS)) rfl ?_
  refine jl_s (S' := ((148, [(5, .int 0), (4, .int 0), (3, .ref 153), (2, .ref 66), (1, .ref 64), (0, .ref 63)], [.int (xs 1), .ref 66], (jzv325 b0 b1 b2 b3)) : jS)) rfl ?_
  refine jl_c (t := 248) (as := [.ref 66, .int (xs 1)]) (V := (jzv325 b0 b1 b2 b3)) (r := (.inl (some (.int 2)), (jzv329 b0 b1 b2 b3))) (S' := ((151, [(5, .int 0), (4, .int 0), (3, .ref 153), (2, .ref 66), (1, .ref 64), (0, .ref 63)], [.int 2], (jzv329 b0 b1 b2 b3)) : jS)) rfl (jzrp_VZZV xs b0 b1 b2 b3 g0 g1 g2 g3 h0 h1 h2 h3 ) rfl ?_
  refine jl_s (S' := ((153, [(6, .int 2), (5, .int 0), (4, .int 0), (3, .ref 153), (2, .ref 66), (1, .ref 64), (0, .ref 63)], [], (jzv329 b0 b1 b2 b3)) : jS)) rfl ?_
  refine jl_s (S' := ((154, [(6, .int 2), (5, .int 0), (4, .int 0), (3, .ref 153), (2, .ref 66), (1, .ref 64), (0, .ref 63)], [.ref 66], (jzv329 b0 b1 b2 b3)) : jS)) rfl ?_
  refine jl_c (t := 244) (as := [.ref 66]) (V := (jzv329 b0 b1 b2 b3)) (r := (.inl (some (.int 0)), (jzv329 b0 b1 b2 b3))) (S' := ((157, [(6, .int 2), (5, .int 0), (4, .int 0), (3, .ref 153), (2, .ref 66), (1, .ref 64), (0, .ref 63)], [.int 0], (jzv329 b0 b1 b2 b3)) : jS)) rfl (jzl694 xs hop b0 b1 b2 b3 e0 e1 e2 e3 g0 g1 g2 g3 h0 h1 h2 h3) rfl ?_
  refine jl_s (S' := ((159, [(6, .int 2), (5, .int 0), (4, .int 0), (3, .ref 153), (2, .ref 66), (1, .ref 64), (0, .ref 63)], [.int 0, .int 0], (jzv329 b0 b1 b2 b3)) : jS)) rfl ?_
  refine jl_s (S' := ((164, [(6, .int 2), (5, .int 0), (4, .int 0), (3, .ref 153), (2, .ref 66), (1, .ref 64), (0, .ref 63)], [], (jzv329 b0 b1 b2 b3)) : jS)) rfl ?_
  refine jl_s (S' := ((166, [(6, .int 2), (5, .int 0), (4, .int 0), (3, .ref 153), (2, .ref 66), (1, .ref 64), (0, .ref 63)], [.int 0], (jzv329 b0 b1 b2 b3)) : jS)) rfl ?_
  refine jl_s (S' := ((169, [(6, .int 2), (5, .int 0), (4, .int 0), (3, .ref 153), (2, .ref 66), (1, .ref 64), (0, .ref 63)], [], (jzv329 b0 b1 b2 b3)) : jS)) rfl ?_
  refine jl_s (S' := ((170, [(6, .int 2), (5, .int 0), (4, .int 0), (3, .ref 153), (2, .ref 66), (1, .ref 64), (0, .ref 63)], [.ref 153], (jzv329 b0 b1 b2 b3)) : jS)) rfl ?_
  refine jl_s (S' := ((171, [(6, .int 2), (5, .int 0), (4, .int 0), (3, .ref 153), (2, .ref 66), (1, .ref 64), (0, .ref 63)], [.int 0, .ref 153], (jzv329 b0 b1 b2 b3)) : jS)) rfl ?_
  refine jl_s (S' := ((172, [(6, .int 2), (5, .int 0), (4, .int 0), (3, .ref 153), (2, .ref 66), (1, .ref 64), (0, .ref 63)], [.long 2], (jzv329 b0 b1 b2 b3)) : jS)) rfl ?_
  refine jl_s (S' := ((174, [(6, .int 2), (5, .int 0), (4, .int 0), (3, .ref 153), (2, .ref 66), (1, .ref 64), (0, .ref 63)], [.int 2, .long 2], (jzv329 b0 b1 b2 b3)) : jS)) rfl ?_
  refine jl_s (S' := ((175, [(6, .int 2), (5, .int 0), (4, .int 0), (3, .ref 153), (2, .ref 66), (1, .ref 64), (0, .ref 63)], [.long 2, .long 2], (jzv329 b0 b1 b2 b3)) : jS)) rfl ?_
  refine jl_s (S' := ((176, [(6, .int 2), (5, .int 0), (4, .int 0), (3, .ref 153), (2, .ref 66), (1, .ref 64), (0, .ref 63)], [.int 0], (jzv329 b0 b1 b2 b3)) : jS)) rfl ?_
  refine jl_s (S' := ((181, [(6, .int 2), (5, .int 0), (4, .int 0), (3, .ref 153), (2, .ref 66), (1, .ref 64), (0, .ref 63)], [], (jzv329 b0 b1 b2 b3)) : jS)) rfl ?_
  refine jl_s (S' := ((1193, [(6, .int 2), (5, .int 0), (4, .int 0), (3, .ref 153), (2, .ref 66), (1, .ref 64), (0, .ref 63)], [], (jzv329 b0 b1 b2 b3)) : jS)) rfl ?_
  refine jl_s (S' := ((1196, [(4, .int 4), (6, .int 2), (5, .int 0), (3, .ref 153), (2, .ref 66), (1, .ref 64), (0, .ref 63)], [], (jzv329 b0 b1 b2 b3)) : jS)) rfl ?_
  refine jl_s (S' := ((23, [(4, .int 4), (6, .int 2), (5, .int 0), (3, .ref 153), (2, .ref 66), (1, .ref 64), (0, .ref 63)], [], (jzv329 b0 b1 b2 b3)) : jS)) rfl ?_
  refine jl_s (S' := ((25, [(4, .int 4), (6, .int 2), (5, .int 0), (3, .ref 153), (2, .ref 66), (1, .ref 64), (0, .ref 63)], [.int 4], (jzv329 b0 b1 b2 b3)) : jS)) rfl ?_
  refine jl_s (S' := ((26, [(4, .int 4), (6, .int 2), (5, .int 0), (3, .ref 153), (2, .ref 66), (1, .ref 64), (0, .ref 63)], [.ref 63, .int 4], (jzv329 b0 b1 b2 b3)) : jS)) rfl ?_
  refine jl_s (S' := ((27, [(4, .int 4), (6, .int 2), (5, .int 0), (3, .ref 153), (2, .ref 66), (1, .ref 64), (0, .ref 63)], [.int 4, .int 4], (jzv329 b0 b1 b2 b3)) : jS)) rfl ?_
  refine jl_s (S' := ((28, [(4, .int 4), (6, .int 2), (5, .int 0), (3, .ref 153), (2, .ref 66), (1, .ref 64), (0, .ref 63)], [.int 4, .int 4, .int 4], (jzv329 b0 b1 b2 b3)) : jS)) rfl ?_
  refine jl_s (S' := ((29, [(4, .int 4), (6, .int 2), (5, .int 0), (3, .ref 153), (2, .ref 66), (1, .ref 64), (0, .ref 63)], [.int 0, .int 4], (jzv329 b0 b1 b2 b3)) : jS)) rfl ?_
  refine jl_s (S' := ((1199, [(4, .int 4), (6, .int 2), (5, .int 0), (3, .ref 153), (2, .ref 66), (1, .ref 64), (0, .ref 63)], [], (jzv329 b0 b1 b2 b3)) : jS)) rfl ?_
  refine jl_s (S' := ((1200, [(4, .int 4), (6, .int 2), (5, .int 0), (3, .ref 153), (2, .ref 66), (1, .ref 64), (0, .ref 63)], [.int 1], (jzv329 b0 b1 b2 b3)) : jS)) rfl ?_
  exact jl_r (r := (.inl (some (.int 1)), (jzv329 b0 b1 b2 b3))) rfl
-- op 0 VZZV: jzl695
def jzv330 (b0 b1 b2 b3 : Int32) : jH := [jzc185, (jzc193 b0 b1 b2 b3), jzc117, jzc7, jzc9, jzc9, jzc9, jzc9, jzc9, jzc17, jzc19, jzc19, jzc19, jzc19, jzc19, jzc19, jzc19, jzc19, jzc28, jzc28, jzc28, jzc28, jzc28, jzc28, jzc28, jzc28, jzc28, jzc28, jzc28, jzc28, jzc28, jzc28, jzc43, jzc43, jzc43, jzc43, jzc43, jzc49, jzc49, jzc52, jzc52, jzc52, jzc56, jzc56, jzc59, jzc56, jzc62, jzc28, jzc28, jzc28, jzc28, jzc28, jzc69, jzc71, jzc73, jzc43, jzc76, jzc52, jzc52, jzc80, jzc80, jzc80, jzc84, jzc52, jzc52, jzc52, jzc52, jzc52, jzc52, jzc52, jzc93, jzc93, jzc52, jzc52, jzc98, jzc100, jzc93, jzc52, jzc52, jzc52, jzc52, jzc107, jzc109, jzc111, jzc100, jzc100, jzc100, jzc111, jzc111, jzc204]
set_option maxHeartbeats 4000000 in
set_option maxRecDepth 100000 in
theorem jzl696 (xs : Nat → Int32) (hop : xs 0 &&& 31 = 0) (b0 b1 b2 b3 : Int32) (e0 : ((Int32.toUInt32 (xs 1) >>> (Int32.toUInt32 0 &&& Int32.toUInt32 31)).toInt32) &&& 255 = b0) (e1 : ((Int32.toUInt32 (xs 1) >>> (Int32.toUInt32 8 &&& Int32.toUInt32 31)).toInt32) &&& 255 = b1) (e2 : ((Int32.toUInt32 (xs 1) >>> (Int32.toUInt32 16 &&& Int32.toUInt32 31)).toInt32) &&& 255 = b2) (e3 : ((Int32.toUInt32 (xs 1) >>> (Int32.toUInt32 24 &&& Int32.toUInt32 31)).toInt32) &&& 255 = b3) (g0 : ((xs 1) >>> (0 &&& 31)) &&& 255 = b0) (g1 : ((xs 1) >>> (8 &&& 31)) &&& 255 = b1) (g2 : ((xs 1) >>> (16 &&& 31)) &&& 255 = b2) (g3 : ((xs 1) >>> (24 &&& 31)) &&& 255 = b3) (h0 : jbv b0) (h1 : jbz b1) (h2 : jbv b2) (h3 : jbz b3) : jRun ((4, xs) : jX) 2000 39 0 [.ref 64, .int (xs 1), .ref 153] jzv181 = some (.inl (some (.int 0)), (jzv330 b0 b1 b2 b3)) := by
  refine jr_run (e := jm0) rfl (Nat.le_of_ble_eq_true rfl) ?_
  refine jl_s (S' := ((1, [(0, .ref 64), (1, .int (xs 1)), (2, .ref 153)], [.ref 153], jzv181) : jS)) rfl ?_
  refine jl_s (S' := ((2, [(0, .ref 64), (1, .int (xs 1)), (2, .ref 153)], [.int 0, .ref 153], jzv181) : jS)) rfl ?_
  refine jl_s (S' := ((3, [(0, .ref 64), (1, .int (xs 1)), (2, .ref 153)], [.ref 64, .int 0, .ref 153], jzv181) : jS)) rfl ?_
  refine jl_s (S' := ((4, [(0, .ref 64), (1, .int (xs 1)), (2, .ref 153)], [.int (xs 1), .ref 64, .int 0, .ref 153], jzv181) : jS)) rfl ?_
  refine jl_c (t := 20) (as := [.ref 64, .int (xs 1)]) (V := jzv181) (r := (.inl (some (.int 2)), (jzv280 b0 b1 b2 b3))) (S' := ((7, [(0, .ref 64), (1, .int (xs 1)), (2, .ref 153)], [.int 2, .int 0, .ref 153], (jzv280 b0 b1 b2 b3)) : jS)) rfl (jzcp_VZVZ xs b0 b1 b2 b3 e0 e1 e2 e3 h0 h1 h2 h3 ) rfl ?_
  refine jl_s (S' := ((8, [(0, .ref 64), (1, .int (xs 1)), (2, .ref 153)], [.long 2, .int 0, .ref 153], (jzv280 b0 b1 b2 b3)) : jS)) rfl ?_
  refine jl_s (S' := ((9, [(0, .ref 64), (1, .int (xs 1)), (2, .ref 153)], [], (jzv330 b0 b1 b2 b3)) : jS)) rfl ?_
  refine jl_s (S' := ((18, [(0, .ref 64), (1, .int (xs 1)), (2, .ref 153)], [], (jzv330 b0 b1 b2 b3)) : jS)) rfl ?_
  refine jl_s (S' := ((19, [(0, .ref 64), (1, .int (xs 1)), (2, .ref 153)], [.int 0], (jzv330 b0 b1 b2 b3)) : jS)) rfl ?_
  exact jl_r (r := (.inl (some (.int 0)), (jzv330 b0 b1 b2 b3))) rfl
set_option maxHeartbeats 4000000 in
set_option maxRecDepth 100000 in
theorem jzl697 (xs : Nat → Int32) (b0 b1 b2 b3 : Int32) : jRun ((4, xs) : jX) 2000 38 245 [.ref 66, .int 0, .int 0, .int 0] (jzv330 b0 b1 b2 b3) = some (.inl (some (.int 0)), (jzv330 b0 b1 b2 b3)) := by
  refine jr_run (e := jm245) rfl (Nat.le_of_ble_eq_true rfl) ?_
  refine jl_s (S' := ((1, [(0, .ref 66), (1, .int 0), (2, .int 0), (3, .int 0)], [.ref 66], (jzv330 b0 b1 b2 b3)) : jS)) rfl ?_
  refine jl_s (S' := ((2, [(0, .ref 66), (1, .int 0), (2, .int 0), (3, .int 0)], [.int 0, .ref 66], (jzv330 b0 b1 b2 b3)) : jS)) rfl ?_
  refine jl_s (S' := ((9, [(0, .ref 66), (1, .int 0), (2, .int 0), (3, .int 0)], [.ref 66], (jzv330 b0 b1 b2 b3)) : jS)) rfl ?_
  refine jl_s (S' := ((10, [(0, .ref 66), (1, .int 0), (2, .int 0), (3, .int 0)], [.int 0, .ref 66], (jzv330 b0 b1 b2 b3)) : jS)) rfl ?_
  refine jl_s (S' := ((17, [(0, .ref 66), (1, .int 0), (2, .int 0), (3, .int 0)], [.ref 66], (jzv330 b0 b1 b2 b3)) : jS)) rfl ?_
  refine jl_s (S' := ((18, [(0, .ref 66), (1, .int 0), (2, .int 0), (3, .int 0)], [.int 0, .ref 66], (jzv330 b0 b1 b2 b3)) : jS)) rfl ?_
  refine jl_s (S' := ((25, [(0, .ref 66), (1, .int 0), (2, .int 0), (3, .int 0)], [.ref 66], (jzv330 b0 b1 b2 b3)) : jS)) rfl ?_
  refine jl_s (S' := ((26, [(0, .ref 66), (1, .int 0), (2, .int 0), (3, .int 0)], [.int 0, .ref 66], (jzv330 b0 b1 b2 b3)) : jS)) rfl ?_
  refine jl_s (S' := ((29, [(0, .ref 66), (1, .int 0), (2, .int 0), (3, .int 0)], [], (jzv330 b0 b1 b2 b3)) : jS)) rfl ?_
  refine jl_s (S' := ((30, [(0, .ref 66), (1, .int 0), (2, .int 0), (3, .int 0)], [.ref 66], (jzv330 b0 b1 b2 b3)) : jS)) rfl ?_
  refine jl_s (S' := ((33, [(0, .ref 66), (1, .int 0), (2, .int 0), (3, .int 0)], [.int 0], (jzv330 b0 b1 b2 b3)) : jS)) rfl ?_
  refine jl_s (S' := ((40, [(0, .ref 66), (1, .int 0), (2, .int 0), (3, .int 0)], [], (jzv330 b0 b1 b2 b3)) : jS)) rfl ?_
  refine jl_s (S' := ((41, [(0, .ref 66), (1, .int 0), (2, .int 0), (3, .int 0)], [.int 0], (jzv330 b0 b1 b2 b3)) : jS)) rfl ?_
  exact jl_r (r := (.inl (some (.int 0)), (jzv330 b0 b1 b2 b3))) rfl
set_option maxHeartbeats 4000000 in
set_option maxRecDepth 100000 in
theorem jzq699 (xs : Nat → Int32) (b0 b1 b2 b3 : Int32) {f : Nat} {q : jO × jH} (hq : jLoop (jRun ((4, xs) : jX) 2000 38) ((4, xs) : jX) jm248 f ((101, [(4, .int 0), (3, .int 2), (2, .int 0), (5, .int (b3)), (0, .ref 66), (1, .int (xs 1))], [], (jzv330 b0 b1 b2 b3)) : jS) = some q) : jLoop (jRun ((4, xs) : jX) 2000 38) ((4, xs) : jX) jm248 (f + 19) ((7, [(4, .int 32), (3, .int 2), (2, .int 0), (5, .int (b3)), (0, .ref 66), (1, .int (xs 1))], [], (jzv330 b0 b1 b2 b3)) : jS) = some q := by
  refine jl_s (S' := ((9, [(4, .int 32), (3, .int 2), (2, .int 0), (5, .int (b3)), (0, .ref 66), (1, .int (xs 1))], [.int 32], (jzv330 b0 b1 b2 b3)) : jS)) rfl ?_
  refine jl_s (S' := ((11, [(4, .int 32), (3, .int 2), (2, .int 0), (5, .int (b3)), (0, .ref 66), (1, .int (xs 1))], [.int 32, .int 32], (jzv330 b0 b1 b2 b3)) : jS)) rfl ?_
  refine jl_s (S' := ((66, [(4, .int 32), (3, .int 2), (2, .int 0), (5, .int (b3)), (0, .ref 66), (1, .int (xs 1))], [], (jzv330 b0 b1 b2 b3)) : jS)) rfl ?_
  refine jl_s (S' := ((67, [(4, .int 32), (3, .int 2), (2, .int 0), (5, .int (b3)), (0, .ref 66), (1, .int (xs 1))], [.ref 66], (jzv330 b0 b1 b2 b3)) : jS)) rfl ?_
  refine jl_s (S' := ((68, [(4, .int 32), (3, .int 2), (2, .int 0), (5, .int (b3)), (0, .ref 66), (1, .int (xs 1))], [.int 0, .ref 66], (jzv330 b0 b1 b2 b3)) : jS)) rfl ?_
  refine jl_s (S' := ((69, [(4, .int 32), (3, .int 2), (2, .int 0), (5, .int (b3)), (0, .ref 66), (1, .int (xs 1))], [.int 0, .int 0, .ref 66], (jzv330 b0 b1 b2 b3)) : jS)) rfl ?_
  refine jl_s (S' := ((72, [(4, .int 32), (3, .int 2), (2, .int 0), (5, .int (b3)), (0, .ref 66), (1, .int (xs 1))], [.int 0, .ref 66], (jzv330 b0 b1 b2 b3)) : jS)) rfl ?_
  refine jl_s (S' := ((73, [(4, .int 32), (3, .int 2), (2, .int 0), (5, .int (b3)), (0, .ref 66), (1, .int (xs 1))], [.ref 66, .int 0, .ref 66], (jzv330 b0 b1 b2 b3)) : jS)) rfl ?_
  refine jl_s (S' := ((76, [(4, .int 32), (3, .int 2), (2, .int 0), (5, .int (b3)), (0, .ref 66), (1, .int (xs 1))], [.int 0, .int 0, .ref 66], (jzv330 b0 b1 b2 b3)) : jS)) rfl ?_
  refine jl_s (S' := ((77, [(4, .int 32), (3, .int 2), (2, .int 0), (5, .int (b3)), (0, .ref 66), (1, .int (xs 1))], [.int 2, .int 0, .int 0, .ref 66], (jzv330 b0 b1 b2 b3)) : jS)) rfl ?_
  refine jl_s (S' := ((78, [(4, .int 32), (3, .int 2), (2, .int 0), (5, .int (b3)), (0, .ref 66), (1, .int (xs 1))], [.int 2, .int 0, .ref 66], (jzv330 b0 b1 b2 b3)) : jS)) rfl ?_
  refine jl_s (S' := ((81, [(4, .int 32), (3, .int 2), (2, .int 0), (5, .int (b3)), (0, .ref 66), (1, .int (xs 1))], [.int 3000, .int 2, .int 0, .ref 66], (jzv330 b0 b1 b2 b3)) : jS)) rfl ?_
  refine jl_s (S' := ((88, [(4, .int 32), (3, .int 2), (2, .int 0), (5, .int (b3)), (0, .ref 66), (1, .int (xs 1))], [.int 0, .ref 66], (jzv330 b0 b1 b2 b3)) : jS)) rfl ?_
  refine jl_s (S' := ((89, [(4, .int 32), (3, .int 2), (2, .int 0), (5, .int (b3)), (0, .ref 66), (1, .int (xs 1))], [.int 0, .int 0, .ref 66], (jzv330 b0 b1 b2 b3)) : jS)) rfl ?_
  refine jl_s (S' := ((90, [(4, .int 32), (3, .int 2), (2, .int 0), (5, .int (b3)), (0, .ref 66), (1, .int (xs 1))], [.int 0, .int 0, .int 0, .ref 66], (jzv330 b0 b1 b2 b3)) : jS)) rfl ?_
  refine jl_c (t := 245) (as := [.ref 66, .int 0, .int 0, .int 0]) (V := (jzv330 b0 b1 b2 b3)) (r := (.inl (some (.int 0)), (jzv330 b0 b1 b2 b3))) (S' := ((93, [(4, .int 32), (3, .int 2), (2, .int 0), (5, .int (b3)), (0, .ref 66), (1, .int (xs 1))], [.int 0], (jzv330 b0 b1 b2 b3)) : jS)) rfl (jzl697 xs b0 b1 b2 b3) rfl ?_
  refine jl_s (S' := ((98, [(4, .int 32), (3, .int 2), (2, .int 0), (5, .int (b3)), (0, .ref 66), (1, .int (xs 1))], [], (jzv330 b0 b1 b2 b3)) : jS)) rfl ?_
  refine jl_s (S' := ((99, [(4, .int 32), (3, .int 2), (2, .int 0), (5, .int (b3)), (0, .ref 66), (1, .int (xs 1))], [.int 0], (jzv330 b0 b1 b2 b3)) : jS)) rfl ?_
  refine jl_s (S' := ((101, [(4, .int 0), (3, .int 2), (2, .int 0), (5, .int (b3)), (0, .ref 66), (1, .int (xs 1))], [], (jzv330 b0 b1 b2 b3)) : jS)) rfl ?_
  exact hq
def jzv331 (b0 b1 b2 b3 : Int32) : jH := [jzc185, (jzc193 b0 b1 b2 b3), jzc117, (jzc213 b0 b1 b2 b3), jzc9, jzc9, jzc9, jzc9, jzc9, jzc17, jzc19, jzc19, jzc19, jzc19, jzc19, jzc19, jzc19, jzc19, jzc28, jzc28, jzc28, jzc28, jzc28, jzc28, jzc28, jzc28, jzc28, jzc28, jzc28, jzc28, jzc28, jzc28, jzc43, jzc43, jzc43, jzc43, jzc43, jzc49, jzc49, jzc52, jzc52, jzc52, jzc56, jzc56, jzc59, jzc56, jzc62, jzc28, jzc28, jzc28, jzc28, jzc28, jzc69, jzc71, jzc73, jzc43, jzc76, jzc52, jzc52, jzc80, jzc80, jzc80, jzc84, jzc52, jzc52, jzc52, jzc52, jzc52, jzc52, jzc52, jzc93, jzc93, jzc52, jzc52, jzc98, jzc100, jzc93, jzc52, jzc52, jzc52, jzc52, jzc107, jzc109, jzc111, jzc100, jzc100, jzc100, jzc111, jzc111, jzc204]
def jzv332 (b0 b1 b2 b3 : Int32) : jH := [jzc185, (jzc193 b0 b1 b2 b3), jzc202, (jzc213 b0 b1 b2 b3), jzc9, jzc9, jzc9, jzc9, jzc9, jzc17, jzc19, jzc19, jzc19, jzc19, jzc19, jzc19, jzc19, jzc19, jzc28, jzc28, jzc28, jzc28, jzc28, jzc28, jzc28, jzc28, jzc28, jzc28, jzc28, jzc28, jzc28, jzc28, jzc43, jzc43, jzc43, jzc43, jzc43, jzc49, jzc49, jzc52, jzc52, jzc52, jzc56, jzc56, jzc59, jzc56, jzc62, jzc28, jzc28, jzc28, jzc28, jzc28, jzc69, jzc71, jzc73, jzc43, jzc76, jzc52, jzc52, jzc80, jzc80, jzc80, jzc84, jzc52, jzc52, jzc52, jzc52, jzc52, jzc52, jzc52, jzc93, jzc93, jzc52, jzc52, jzc98, jzc100, jzc93, jzc52, jzc52, jzc52, jzc52, jzc107, jzc109, jzc111, jzc100, jzc100, jzc100, jzc111, jzc111, jzc204]
set_option maxHeartbeats 4000000 in
set_option maxRecDepth 100000 in
theorem jzq701 (xs : Nat → Int32) (b0 b1 b2 b3 : Int32) (e : ((xs 1) >>> (0 &&& 31)) &&& 255 = b0) (h : jbn b0) {f : Nat} {q : jO × jH} (hq : jLoop (jRun ((4, xs) : jX) 2000 38) ((4, xs) : jX) jm248 f ((101, [(4, .int 8), (5, .int (b0)), (3, .int 2), (2, .int 0), (0, .ref 66), (1, .int (xs 1))], [], (jzv332 b0 b1 b2 b3)) : jS) = some q) : jLoop (jRun ((4, xs) : jX) 2000 38) ((4, xs) : jX) jm248 (f + 25) ((101, [(4, .int 0), (3, .int 2), (2, .int 0), (5, .int (b3)), (0, .ref 66), (1, .int (xs 1))], [], (jzv330 b0 b1 b2 b3)) : jS) = some q := by
  refine jl_s (S' := ((103, [(4, .int 0), (3, .int 2), (2, .int 0), (5, .int (b3)), (0, .ref 66), (1, .int (xs 1))], [.int 0], (jzv330 b0 b1 b2 b3)) : jS)) rfl ?_
  refine jl_s (S' := ((105, [(4, .int 0), (3, .int 2), (2, .int 0), (5, .int (b3)), (0, .ref 66), (1, .int (xs 1))], [.int 32, .int 0], (jzv330 b0 b1 b2 b3)) : jS)) rfl ?_
  refine jl_s (S' := ((108, [(4, .int 0), (3, .int 2), (2, .int 0), (5, .int (b3)), (0, .ref 66), (1, .int (xs 1))], [], (jzv330 b0 b1 b2 b3)) : jS)) rfl ?_
  refine jl_s (S' := ((109, [(4, .int 0), (3, .int 2), (2, .int 0), (5, .int (b3)), (0, .ref 66), (1, .int (xs 1))], [.int (xs 1)], (jzv330 b0 b1 b2 b3)) : jS)) rfl ?_
  refine jl_s (S' := ((111, [(4, .int 0), (3, .int 2), (2, .int 0), (5, .int (b3)), (0, .ref 66), (1, .int (xs 1))], [.int 0, .int (xs 1)], (jzv330 b0 b1 b2 b3)) : jS)) rfl ?_
  refine jl_s (S' := ((112, [(4, .int 0), (3, .int 2), (2, .int 0), (5, .int (b3)), (0, .ref 66), (1, .int (xs 1))], [.int ((xs 1) >>> (0 &&& 31))], (jzv330 b0 b1 b2 b3)) : jS)) rfl ?_
  refine jl_s (S' := ((115, [(4, .int 0), (3, .int 2), (2, .int 0), (5, .int (b3)), (0, .ref 66), (1, .int (xs 1))], [.int 255, .int ((xs 1) >>> (0 &&& 31))], (jzv330 b0 b1 b2 b3)) : jS)) rfl ?_
  refine jl_s (S' := ((116, [(4, .int 0), (3, .int 2), (2, .int 0), (5, .int (b3)), (0, .ref 66), (1, .int (xs 1))], [.int (((xs 1) >>> (0 &&& 31)) &&& 255)], (jzv330 b0 b1 b2 b3)) : jS)) rfl ?_
  rw [e]
  refine jl_s (S' := ((118, [(5, .int (b0)), (4, .int 0), (3, .int 2), (2, .int 0), (0, .ref 66), (1, .int (xs 1))], [], (jzv330 b0 b1 b2 b3)) : jS)) rfl ?_
  refine jl_s (S' := ((120, [(5, .int (b0)), (4, .int 0), (3, .int 2), (2, .int 0), (0, .ref 66), (1, .int (xs 1))], [.int (b0)], (jzv330 b0 b1 b2 b3)) : jS)) rfl ?_
  refine jl_iff (e := jm248) (o := 24) rfl (h.1) ?_
  refine jl_s (S' := ((124, [(5, .int (b0)), (4, .int 0), (3, .int 2), (2, .int 0), (0, .ref 66), (1, .int (xs 1))], [.ref 66], (jzv330 b0 b1 b2 b3)) : jS)) rfl ?_
  refine jl_s (S' := ((127, [(5, .int (b0)), (4, .int 0), (3, .int 2), (2, .int 0), (0, .ref 66), (1, .int (xs 1))], [.ref 67], (jzv330 b0 b1 b2 b3)) : jS)) rfl ?_
  refine jl_s (S' := ((128, [(5, .int (b0)), (4, .int 0), (3, .int 2), (2, .int 0), (0, .ref 66), (1, .int (xs 1))], [.ref 66, .ref 67], (jzv330 b0 b1 b2 b3)) : jS)) rfl ?_
  refine jl_s (S' := ((131, [(5, .int (b0)), (4, .int 0), (3, .int 2), (2, .int 0), (0, .ref 66), (1, .int (xs 1))], [.int 0, .ref 67], (jzv330 b0 b1 b2 b3)) : jS)) rfl ?_
  refine jl_s (S' := ((133, [(5, .int (b0)), (4, .int 0), (3, .int 2), (2, .int 0), (0, .ref 66), (1, .int (xs 1))], [.int (b0), .int 0, .ref 67], (jzv330 b0 b1 b2 b3)) : jS)) rfl ?_
  refine jl_s (S' := ((134, [(5, .int (b0)), (4, .int 0), (3, .int 2), (2, .int 0), (0, .ref 66), (1, .int (xs 1))], [], (jzv331 b0 b1 b2 b3)) : jS)) rfl ?_
  refine jl_s (S' := ((135, [(5, .int (b0)), (4, .int 0), (3, .int 2), (2, .int 0), (0, .ref 66), (1, .int (xs 1))], [.ref 66], (jzv331 b0 b1 b2 b3)) : jS)) rfl ?_
  refine jl_s (S' := ((136, [(5, .int (b0)), (4, .int 0), (3, .int 2), (2, .int 0), (0, .ref 66), (1, .int (xs 1))], [.ref 66, .ref 66], (jzv331 b0 b1 b2 b3)) : jS)) rfl ?_
  refine jl_s (S' := ((139, [(5, .int (b0)), (4, .int 0), (3, .int 2), (2, .int 0), (0, .ref 66), (1, .int (xs 1))], [.int 0, .ref 66], (jzv331 b0 b1 b2 b3)) : jS)) rfl ?_
  refine jl_s (S' := ((140, [(5, .int (b0)), (4, .int 0), (3, .int 2), (2, .int 0), (0, .ref 66), (1, .int (xs 1))], [.int 1, .int 0, .ref 66], (jzv331 b0 b1 b2 b3)) : jS)) rfl ?_
  refine jl_s (S' := ((141, [(5, .int (b0)), (4, .int 0), (3, .int 2), (2, .int 0), (0, .ref 66), (1, .int (xs 1))], [.int 1, .ref 66], (jzv331 b0 b1 b2 b3)) : jS)) rfl ?_
  refine jl_s (S' := ((144, [(5, .int (b0)), (4, .int 0), (3, .int 2), (2, .int 0), (0, .ref 66), (1, .int (xs 1))], [], (jzv332 b0 b1 b2 b3)) : jS)) rfl ?_
  refine jl_s (S' := ((147, [(4, .int 8), (5, .int (b0)), (3, .int 2), (2, .int 0), (0, .ref 66), (1, .int (xs 1))], [], (jzv332 b0 b1 b2 b3)) : jS)) rfl ?_
  refine jl_s (S' := ((101, [(4, .int 8), (5, .int (b0)), (3, .int 2), (2, .int 0), (0, .ref 66), (1, .int (xs 1))], [], (jzv332 b0 b1 b2 b3)) : jS)) rfl ?_
  exact hq
set_option maxHeartbeats 4000000 in
set_option maxRecDepth 100000 in
theorem jzq703 (xs : Nat → Int32) (b0 b1 b2 b3 : Int32) (e : ((xs 1) >>> (8 &&& 31)) &&& 255 = b1) (h : jbz b1) {f : Nat} {q : jO × jH} (hq : jLoop (jRun ((4, xs) : jX) 2000 38) ((4, xs) : jX) jm248 f ((101, [(4, .int 16), (5, .int (b1)), (3, .int 2), (2, .int 0), (0, .ref 66), (1, .int (xs 1))], [], (jzv332 b0 b1 b2 b3)) : jS) = some q) : jLoop (jRun ((4, xs) : jX) 2000 38) ((4, xs) : jX) jm248 (f + 13) ((101, [(4, .int 8), (5, .int (b0)), (3, .int 2), (2, .int 0), (0, .ref 66), (1, .int (xs 1))], [], (jzv332 b0 b1 b2 b3)) : jS) = some q := by
  refine jl_s (S' := ((103, [(4, .int 8), (5, .int (b0)), (3, .int 2), (2, .int 0), (0, .ref 66), (1, .int (xs 1))], [.int 8], (jzv332 b0 b1 b2 b3)) : jS)) rfl ?_
  refine jl_s (S' := ((105, [(4, .int 8), (5, .int (b0)), (3, .int 2), (2, .int 0), (0, .ref 66), (1, .int (xs 1))], [.int 32, .int 8], (jzv332 b0 b1 b2 b3)) : jS)) rfl ?_
  refine jl_s (S' := ((108, [(4, .int 8), (5, .int (b0)), (3, .int 2), (2, .int 0), (0, .ref 66), (1, .int (xs 1))], [], (jzv332 b0 b1 b2 b3)) : jS)) rfl ?_
  refine jl_s (S' := ((109, [(4, .int 8), (5, .int (b0)), (3, .int 2), (2, .int 0), (0, .ref 66), (1, .int (xs 1))], [.int (xs 1)], (jzv332 b0 b1 b2 b3)) : jS)) rfl ?_
  refine jl_s (S' := ((111, [(4, .int 8), (5, .int (b0)), (3, .int 2), (2, .int 0), (0, .ref 66), (1, .int (xs 1))], [.int 8, .int (xs 1)], (jzv332 b0 b1 b2 b3)) : jS)) rfl ?_
  refine jl_s (S' := ((112, [(4, .int 8), (5, .int (b0)), (3, .int 2), (2, .int 0), (0, .ref 66), (1, .int (xs 1))], [.int ((xs 1) >>> (8 &&& 31))], (jzv332 b0 b1 b2 b3)) : jS)) rfl ?_
  refine jl_s (S' := ((115, [(4, .int 8), (5, .int (b0)), (3, .int 2), (2, .int 0), (0, .ref 66), (1, .int (xs 1))], [.int 255, .int ((xs 1) >>> (8 &&& 31))], (jzv332 b0 b1 b2 b3)) : jS)) rfl ?_
  refine jl_s (S' := ((116, [(4, .int 8), (5, .int (b0)), (3, .int 2), (2, .int 0), (0, .ref 66), (1, .int (xs 1))], [.int (((xs 1) >>> (8 &&& 31)) &&& 255)], (jzv332 b0 b1 b2 b3)) : jS)) rfl ?_
  rw [e]
  refine jl_s (S' := ((118, [(5, .int (b1)), (4, .int 8), (3, .int 2), (2, .int 0), (0, .ref 66), (1, .int (xs 1))], [], (jzv332 b0 b1 b2 b3)) : jS)) rfl ?_
  refine jl_s (S' := ((120, [(5, .int (b1)), (4, .int 8), (3, .int 2), (2, .int 0), (0, .ref 66), (1, .int (xs 1))], [.int (b1)], (jzv332 b0 b1 b2 b3)) : jS)) rfl ?_
  refine jl_ift (e := jm248) (o := 24) rfl (h.1) (t := 144) rfl ?_
  refine jl_s (S' := ((147, [(4, .int 16), (5, .int (b1)), (3, .int 2), (2, .int 0), (0, .ref 66), (1, .int (xs 1))], [], (jzv332 b0 b1 b2 b3)) : jS)) rfl ?_
  refine jl_s (S' := ((101, [(4, .int 16), (5, .int (b1)), (3, .int 2), (2, .int 0), (0, .ref 66), (1, .int (xs 1))], [], (jzv332 b0 b1 b2 b3)) : jS)) rfl ?_
  exact hq
def jzc215 (b0 b1 b2 b3 : Int32) : jC := .inl (1, 3000, .inl (upd (upd (fun _ => 0) 0 (b0)) 1 (b2)))
def jzv333 (b0 b1 b2 b3 : Int32) : jH := [jzc185, (jzc193 b0 b1 b2 b3), jzc202, (jzc215 b0 b1 b2 b3), jzc9, jzc9, jzc9, jzc9, jzc9, jzc17, jzc19, jzc19, jzc19, jzc19, jzc19, jzc19, jzc19, jzc19, jzc28, jzc28, jzc28, jzc28, jzc28, jzc28, jzc28, jzc28, jzc28, jzc28, jzc28, jzc28, jzc28, jzc28, jzc43, jzc43, jzc43, jzc43, jzc43, jzc49, jzc49, jzc52, jzc52, jzc52, jzc56, jzc56, jzc59, jzc56, jzc62, jzc28, jzc28, jzc28, jzc28, jzc28, jzc69, jzc71, jzc73, jzc43, jzc76, jzc52, jzc52, jzc80, jzc80, jzc80, jzc84, jzc52, jzc52, jzc52, jzc52, jzc52, jzc52, jzc52, jzc93, jzc93, jzc52, jzc52, jzc98, jzc100, jzc93, jzc52, jzc52, jzc52, jzc52, jzc107, jzc109, jzc111, jzc100, jzc100, jzc100, jzc111, jzc111, jzc204]
def jzv334 (b0 b1 b2 b3 : Int32) : jH := [jzc185, (jzc193 b0 b1 b2 b3), jzc206, (jzc215 b0 b1 b2 b3), jzc9, jzc9, jzc9, jzc9, jzc9, jzc17, jzc19, jzc19, jzc19, jzc19, jzc19, jzc19, jzc19, jzc19, jzc28, jzc28, jzc28, jzc28, jzc28, jzc28, jzc28, jzc28, jzc28, jzc28, jzc28, jzc28, jzc28, jzc28, jzc43, jzc43, jzc43, jzc43, jzc43, jzc49, jzc49, jzc52, jzc52, jzc52, jzc56, jzc56, jzc59, jzc56, jzc62, jzc28, jzc28, jzc28, jzc28, jzc28, jzc69, jzc71, jzc73, jzc43, jzc76, jzc52, jzc52, jzc80, jzc80, jzc80, jzc84, jzc52, jzc52, jzc52, jzc52, jzc52, jzc52, jzc52, jzc93, jzc93, jzc52, jzc52, jzc98, jzc100, jzc93, jzc52, jzc52, jzc52, jzc52, jzc107, jzc109, jzc111, jzc100, jzc100, jzc100, jzc111, jzc111, jzc204]
set_option maxHeartbeats 4000000 in
set_option maxRecDepth 100000 in
theorem jzq705 (xs : Nat → Int32) (b0 b1 b2 b3 : Int32) (e : ((xs 1) >>> (16 &&& 31)) &&& 255 = b2) (h : jbn b2) {f : Nat} {q : jO × jH} (hq : jLoop (jRun ((4, xs) : jX) 2000 38) ((4, xs) : jX) jm248 f ((101, [(4, .int 24), (5, .int (b2)), (3, .int 2), (2, .int 0), (0, .ref 66), (1, .int (xs 1))], [], (jzv334 b0 b1 b2 b3)) : jS) = some q) : jLoop (jRun ((4, xs) : jX) 2000 38) ((4, xs) : jX) jm248 (f + 25) ((101, [(4, .int 16), (5, .int (b1)), (3, .int 2), (2, .int 0), (0, .ref 66), (1, .int (xs 1))], [], (jzv332 b0 b1 b2 b3)) : jS) = some q := by
  refine jl_s (S' := ((103, [(4, .int 16), (5, .int (b1)), (3, .int 2), (2, .int 0), (0, .ref 66), (1, .int (xs 1))], [.int 16], (jzv332 b0 b1 b2 b3)) : jS)) rfl ?_
  refine jl_s (S' := ((105, [(4, .int 16), (5, .int (b1)), (3, .int 2), (2, .int 0), (0, .ref 66), (1, .int (xs 1))], [.int 32, .int 16], (jzv332 b0 b1 b2 b3)) : jS)) rfl ?_
  refine jl_s (S' := ((108, [(4, .int 16), (5, .int (b1)), (3, .int 2), (2, .int 0), (0, .ref 66), (1, .int (xs 1))], [], (jzv332 b0 b1 b2 b3)) : jS)) rfl ?_
  refine jl_s (S' := ((109, [(4, .int 16), (5, .int (b1)), (3, .int 2), (2, .int 0), (0, .ref 66), (1, .int (xs 1))], [.int (xs 1)], (jzv332 b0 b1 b2 b3)) : jS)) rfl ?_
  refine jl_s (S' := ((111, [(4, .int 16), (5, .int (b1)), (3, .int 2), (2, .int 0), (0, .ref 66), (1, .int (xs 1))], [.int 16, .int (xs 1)], (jzv332 b0 b1 b2 b3)) : jS)) rfl ?_
  refine jl_s (S' := ((112, [(4, .int 16), (5, .int (b1)), (3, .int 2), (2, .int 0), (0, .ref 66), (1, .int (xs 1))], [.int ((xs 1) >>> (16 &&& 31))], (jzv332 b0 b1 b2 b3)) : jS)) rfl ?_
  refine jl_s (S' := ((115, [(4, .int 16), (5, .int (b1)), (3, .int 2), (2, .int 0), (0, .ref 66), (1, .int (xs 1))], [.int 255, .int ((xs 1) >>> (16 &&& 31))], (jzv332 b0 b1 b2 b3)) : jS)) rfl ?_
  refine jl_s (S' := ((116, [(4, .int 16), (5, .int (b1)), (3, .int 2), (2, .int 0), (0, .ref 66), (1, .int (xs 1))], [.int (((xs 1) >>> (16 &&& 31)) &&& 255)], (jzv332 b0 b1 b2 b3)) : jS)) rfl ?_
  rw [e]
  refine jl_s (S' := ((118, [(5, .int (b2)), (4, .int 16), (3, .int 2), (2, .int 0), (0, .ref 66), (1, .int (xs 1))], [], (jzv332 b0 b1 b2 b3)) : jS)) rfl ?_
  refine jl_s (S' := ((120, [(5, .int (b2)), (4, .int 16), (3, .int 2), (2, .int 0), (0, .ref 66), (1, .int (xs 1))], [.int (b2)], (jzv332 b0 b1 b2 b3)) : jS)) rfl ?_
  refine jl_iff (e := jm248) (o := 24) rfl (h.1) ?_
  refine jl_s (S' := ((124, [(5, .int (b2)), (4, .int 16), (3, .int 2), (2, .int 0), (0, .ref 66), (1, .int (xs 1))], [.ref 66], (jzv332 b0 b1 b2 b3)) : jS)) rfl ?_
  refine jl_s (S' := ((127, [(5, .int (b2)), (4, .int 16), (3, .int 2), (2, .int 0), (0, .ref 66), (1, .int (xs 1))], [.ref 67], (jzv332 b0 b1 b2 b3)) : jS)) rfl ?_
  refine jl_s (S' := ((128, [(5, .int (b2)), (4, .int 16), (3, .int 2), (2, .int 0), (0, .ref 66), (1, .int (xs 1))], [.ref 66, .ref 67], (jzv332 b0 b1 b2 b3)) : jS)) rfl ?_
  refine jl_s (S' := ((131, [(5, .int (b2)), (4, .int 16), (3, .int 2), (2, .int 0), (0, .ref 66), (1, .int (xs 1))], [.int 1, .ref 67], (jzv332 b0 b1 b2 b3)) : jS)) rfl ?_
  refine jl_s (S' := ((133, [(5, .int (b2)), (4, .int 16), (3, .int 2), (2, .int 0), (0, .ref 66), (1, .int (xs 1))], [.int (b2), .int 1, .ref 67], (jzv332 b0 b1 b2 b3)) : jS)) rfl ?_
  refine jl_s (S' := ((134, [(5, .int (b2)), (4, .int 16), (3, .int 2), (2, .int 0), (0, .ref 66), (1, .int (xs 1))], [], (jzv333 b0 b1 b2 b3)) : jS)) rfl ?_
  refine jl_s (S' := ((135, [(5, .int (b2)), (4, .int 16), (3, .int 2), (2, .int 0), (0, .ref 66), (1, .int (xs 1))], [.ref 66], (jzv333 b0 b1 b2 b3)) : jS)) rfl ?_
  refine jl_s (S' := ((136, [(5, .int (b2)), (4, .int 16), (3, .int 2), (2, .int 0), (0, .ref 66), (1, .int (xs 1))], [.ref 66, .ref 66], (jzv333 b0 b1 b2 b3)) : jS)) rfl ?_
  refine jl_s (S' := ((139, [(5, .int (b2)), (4, .int 16), (3, .int 2), (2, .int 0), (0, .ref 66), (1, .int (xs 1))], [.int 1, .ref 66], (jzv333 b0 b1 b2 b3)) : jS)) rfl ?_
  refine jl_s (S' := ((140, [(5, .int (b2)), (4, .int 16), (3, .int 2), (2, .int 0), (0, .ref 66), (1, .int (xs 1))], [.int 1, .int 1, .ref 66], (jzv333 b0 b1 b2 b3)) : jS)) rfl ?_
  refine jl_s (S' := ((141, [(5, .int (b2)), (4, .int 16), (3, .int 2), (2, .int 0), (0, .ref 66), (1, .int (xs 1))], [.int 2, .ref 66], (jzv333 b0 b1 b2 b3)) : jS)) rfl ?_
  refine jl_s (S' := ((144, [(5, .int (b2)), (4, .int 16), (3, .int 2), (2, .int 0), (0, .ref 66), (1, .int (xs 1))], [], (jzv334 b0 b1 b2 b3)) : jS)) rfl ?_
  refine jl_s (S' := ((147, [(4, .int 24), (5, .int (b2)), (3, .int 2), (2, .int 0), (0, .ref 66), (1, .int (xs 1))], [], (jzv334 b0 b1 b2 b3)) : jS)) rfl ?_
  refine jl_s (S' := ((101, [(4, .int 24), (5, .int (b2)), (3, .int 2), (2, .int 0), (0, .ref 66), (1, .int (xs 1))], [], (jzv334 b0 b1 b2 b3)) : jS)) rfl ?_
  exact hq
set_option maxHeartbeats 4000000 in
set_option maxRecDepth 100000 in
theorem jzq707 (xs : Nat → Int32) (b0 b1 b2 b3 : Int32) (e : ((xs 1) >>> (24 &&& 31)) &&& 255 = b3) (h : jbz b3) {f : Nat} {q : jO × jH} (hq : jLoop (jRun ((4, xs) : jX) 2000 38) ((4, xs) : jX) jm248 f ((101, [(4, .int 32), (5, .int (b3)), (3, .int 2), (2, .int 0), (0, .ref 66), (1, .int (xs 1))], [], (jzv334 b0 b1 b2 b3)) : jS) = some q) : jLoop (jRun ((4, xs) : jX) 2000 38) ((4, xs) : jX) jm248 (f + 13) ((101, [(4, .int 24), (5, .int (b2)), (3, .int 2), (2, .int 0), (0, .ref 66), (1, .int (xs 1))], [], (jzv334 b0 b1 b2 b3)) : jS) = some q := by
  refine jl_s (S' := ((103, [(4, .int 24), (5, .int (b2)), (3, .int 2), (2, .int 0), (0, .ref 66), (1, .int (xs 1))], [.int 24], (jzv334 b0 b1 b2 b3)) : jS)) rfl ?_
  refine jl_s (S' := ((105, [(4, .int 24), (5, .int (b2)), (3, .int 2), (2, .int 0), (0, .ref 66), (1, .int (xs 1))], [.int 32, .int 24], (jzv334 b0 b1 b2 b3)) : jS)) rfl ?_
  refine jl_s (S' := ((108, [(4, .int 24), (5, .int (b2)), (3, .int 2), (2, .int 0), (0, .ref 66), (1, .int (xs 1))], [], (jzv334 b0 b1 b2 b3)) : jS)) rfl ?_
  refine jl_s (S' := ((109, [(4, .int 24), (5, .int (b2)), (3, .int 2), (2, .int 0), (0, .ref 66), (1, .int (xs 1))], [.int (xs 1)], (jzv334 b0 b1 b2 b3)) : jS)) rfl ?_
  refine jl_s (S' := ((111, [(4, .int 24), (5, .int (b2)), (3, .int 2), (2, .int 0), (0, .ref 66), (1, .int (xs 1))], [.int 24, .int (xs 1)], (jzv334 b0 b1 b2 b3)) : jS)) rfl ?_
  refine jl_s (S' := ((112, [(4, .int 24), (5, .int (b2)), (3, .int 2), (2, .int 0), (0, .ref 66), (1, .int (xs 1))], [.int ((xs 1) >>> (24 &&& 31))], (jzv334 b0 b1 b2 b3)) : jS)) rfl ?_
  refine jl_s (S' := ((115, [(4, .int 24), (5, .int (b2)), (3, .int 2), (2, .int 0), (0, .ref 66), (1, .int (xs 1))], [.int 255, .int ((xs 1) >>> (24 &&& 31))], (jzv334 b0 b1 b2 b3)) : jS)) rfl ?_
  refine jl_s (S' := ((116, [(4, .int 24), (5, .int (b2)), (3, .int 2), (2, .int 0), (0, .ref 66), (1, .int (xs 1))], [.int (((xs 1) >>> (24 &&& 31)) &&& 255)], (jzv334 b0 b1 b2 b3)) : jS)) rfl ?_
  rw [e]
  refine jl_s (S' := ((118, [(5, .int (b3)), (4, .int 24), (3, .int 2), (2, .int 0), (0, .ref 66), (1, .int (xs 1))], [], (jzv334 b0 b1 b2 b3)) : jS)) rfl ?_
  refine jl_s (S' := ((120, [(5, .int (b3)), (4, .int 24), (3, .int 2), (2, .int 0), (0, .ref 66), (1, .int (xs 1))], [.int (b3)], (jzv334 b0 b1 b2 b3)) : jS)) rfl ?_
  refine jl_ift (e := jm248) (o := 24) rfl (h.1) (t := 144) rfl ?_
  refine jl_s (S' := ((147, [(4, .int 32), (5, .int (b3)), (3, .int 2), (2, .int 0), (0, .ref 66), (1, .int (xs 1))], [], (jzv334 b0 b1 b2 b3)) : jS)) rfl ?_
  refine jl_s (S' := ((101, [(4, .int 32), (5, .int (b3)), (3, .int 2), (2, .int 0), (0, .ref 66), (1, .int (xs 1))], [], (jzv334 b0 b1 b2 b3)) : jS)) rfl ?_
  exact hq
set_option maxHeartbeats 4000000 in
set_option maxRecDepth 100000 in
theorem jzq709 (xs : Nat → Int32) (b0 b1 b2 b3 : Int32) {f : Nat} : jLoop (jRun ((4, xs) : jX) 2000 38) ((4, xs) : jX) jm248 (f + 6) ((101, [(4, .int 32), (5, .int (b3)), (3, .int 2), (2, .int 0), (0, .ref 66), (1, .int (xs 1))], [], (jzv334 b0 b1 b2 b3)) : jS) = some (.inl (some (.int 2)), (jzv334 b0 b1 b2 b3)) := by
  refine jl_s (S' := ((103, [(4, .int 32), (5, .int (b3)), (3, .int 2), (2, .int 0), (0, .ref 66), (1, .int (xs 1))], [.int 32], (jzv334 b0 b1 b2 b3)) : jS)) rfl ?_
  refine jl_s (S' := ((105, [(4, .int 32), (5, .int (b3)), (3, .int 2), (2, .int 0), (0, .ref 66), (1, .int (xs 1))], [.int 32, .int 32], (jzv334 b0 b1 b2 b3)) : jS)) rfl ?_
  refine jl_s (S' := ((150, [(4, .int 32), (5, .int (b3)), (3, .int 2), (2, .int 0), (0, .ref 66), (1, .int (xs 1))], [], (jzv334 b0 b1 b2 b3)) : jS)) rfl ?_
  refine jl_s (S' := ((151, [(4, .int 32), (5, .int (b3)), (3, .int 2), (2, .int 0), (0, .ref 66), (1, .int (xs 1))], [.ref 66], (jzv334 b0 b1 b2 b3)) : jS)) rfl ?_
  refine jl_s (S' := ((154, [(4, .int 32), (5, .int (b3)), (3, .int 2), (2, .int 0), (0, .ref 66), (1, .int (xs 1))], [.int 2], (jzv334 b0 b1 b2 b3)) : jS)) rfl ?_
  exact jl_r (r := (.inl (some (.int 2)), (jzv334 b0 b1 b2 b3))) rfl
set_option maxHeartbeats 4000000 in
set_option maxRecDepth 100000 in
theorem jzrp_VZVZ (xs : Nat → Int32) (b0 b1 b2 b3 : Int32) (e0 : ((xs 1) >>> (0 &&& 31)) &&& 255 = b0) (e1 : ((xs 1) >>> (8 &&& 31)) &&& 255 = b1) (e2 : ((xs 1) >>> (16 &&& 31)) &&& 255 = b2) (e3 : ((xs 1) >>> (24 &&& 31)) &&& 255 = b3) (h0 : jbv b0) (h1 : jbz b1) (h2 : jbv b2) (h3 : jbz b3) : jRun ((4, xs) : jX) 2000 39 248 [.ref 66, .int (xs 1)] (jzv330 b0 b1 b2 b3) = some (.inl (some (.int 2)), (jzv334 b0 b1 b2 b3)) := by
  refine jr_run (e := jm248) rfl (Nat.le_of_ble_eq_true rfl) ?_
  refine jzq506 xs b0 b1 b2 b3 _ ?_
  refine jzq662 xs b0 b1 b2 b3 _ e0 h0 ?_
  refine jzq664 xs b0 b1 b2 b3 _ e1 h1 ?_
  refine jzq624 xs b0 b1 b2 b3 _ e2 h2 ?_
  refine jzq626 xs b0 b1 b2 b3 _ e3 h3 ?_
  refine jzq699 xs b0 b1 b2 b3 ?_
  refine jzq701 xs b0 b1 b2 b3 e0 h0.1 ?_
  refine jzq703 xs b0 b1 b2 b3 e1 h1 ?_
  refine jzq705 xs b0 b1 b2 b3 e2 h2.1 ?_
  refine jzq707 xs b0 b1 b2 b3 e3 h3 ?_
  exact jzq709 xs b0 b1 b2 b3
set_option maxHeartbeats 4000000 in
set_option maxRecDepth 100000 in
theorem jzl710 (xs : Nat → Int32) (hop : xs 0 &&& 31 = 0) (b0 b1 b2 b3 : Int32) (e0 : ((Int32.toUInt32 (xs 1) >>> (Int32.toUInt32 0 &&& Int32.toUInt32 31)).toInt32) &&& 255 = b0) (e1 : ((Int32.toUInt32 (xs 1) >>> (Int32.toUInt32 8 &&& Int32.toUInt32 31)).toInt32) &&& 255 = b1) (e2 : ((Int32.toUInt32 (xs 1) >>> (Int32.toUInt32 16 &&& Int32.toUInt32 31)).toInt32) &&& 255 = b2) (e3 : ((Int32.toUInt32 (xs 1) >>> (Int32.toUInt32 24 &&& Int32.toUInt32 31)).toInt32) &&& 255 = b3) (g0 : ((xs 1) >>> (0 &&& 31)) &&& 255 = b0) (g1 : ((xs 1) >>> (8 &&& 31)) &&& 255 = b1) (g2 : ((xs 1) >>> (16 &&& 31)) &&& 255 = b2) (g3 : ((xs 1) >>> (24 &&& 31)) &&& 255 = b3) (h0 : jbv b0) (h1 : jbz b1) (h2 : jbv b2) (h3 : jbz b3) : jRun ((4, xs) : jX) 2000 39 244 [.ref 66] (jzv334 b0 b1 b2 b3) = some (.inl (some (.int 0)), (jzv334 b0 b1 b2 b3)) := by
  refine jr_run (e := jm244) rfl (Nat.le_of_ble_eq_true rfl) ?_
  refine jl_s (S' := ((1, [(0, .ref 66)], [.ref 66], (jzv334 b0 b1 b2 b3)) : jS)) rfl ?_
  refine jl_s (S' := ((4, [(0, .ref 66)], [.int 0], (jzv334 b0 b1 b2 b3)) : jS)) rfl ?_
  exact jl_r (r := (.inl (some (.int 0)), (jzv334 b0 b1 b2 b3))) rfl
set_option maxHeartbeats 4000000 in
set_option maxRecDepth 100000 in
theorem jzl711 (xs : Nat → Int32) (hop : xs 0 &&& 31 = 0) (b0 b1 b2 b3 : Int32) (e0 : ((Int32.toUInt32 (xs 1) >>> (Int32.toUInt32 0 &&& Int32.toUInt32 31)).toInt32) &&& 255 = b0) (e1 : ((Int32.toUInt32 (xs 1) >>> (Int32.toUInt32 8 &&& Int32.toUInt32 31)).toInt32) &&& 255 = b1) (e2 : ((Int32.toUInt32 (xs 1) >>> (Int32.toUInt32 16 &&& Int32.toUInt32 31)).toInt32) &&& 255 = b2) (e3 : ((Int32.toUInt32 (xs 1) >>> (Int32.toUInt32 24 &&& Int32.toUInt32 31)).toInt32) &&& 255 = b3) (g0 : ((xs 1) >>> (0 &&& 31)) &&& 255 = b0) (g1 : ((xs 1) >>> (8 &&& 31)) &&& 255 = b1) (g2 : ((xs 1) >>> (16 &&& 31)) &&& 255 = b2) (g3 : ((xs 1) >>> (24 &&& 31)) &&& 255 = b3) (h0 : jbv b0) (h1 : jbz b1) (h2 : jbv b2) (h3 : jbz b3) : jLoop (jRun ((4, xs) : jX) 2000 39) ((4, xs) : jX) jm18 1000 ((23, [(4, .int 0), (3, .ref 153), (2, .ref 66), (1, .ref 64), (0, .ref 63)], [], jzv181) : jS) = some (.inl (some (.int 1)), (jzv334 b0 b1 b2 b3)) := by
  refine jl_s (S' := ((25, [(4, .int 0), (3, .ref 153), (2, .ref 66), (1, .ref 64), (0, .ref 63)], [.int 0], jzv181) : jS)) rfl ?_
  refine jl_s (S' := ((26, [(4, .int 0), (3, .ref 153), (2, .ref 66), (1, .ref 64), (0, .ref 63)], [.ref 63, .int 0], jzv181) : jS)) rfl ?_
  refine jl_s (S' := ((27, [(4, .int 0), (3, .ref 153), (2, .ref 66), (1, .ref 64), (0, .ref 63)], [.int 4, .int 0], jzv181) : jS)) rfl ?_
  refine jl_s (S' := ((28, [(4, .int 0), (3, .ref 153), (2, .ref 66), (1, .ref 64), (0, .ref 63)], [.int 4, .int 4, .int 0], jzv181) : jS)) rfl ?_
  refine jl_s (S' := ((29, [(4, .int 0), (3, .ref 153), (2, .ref 66), (1, .ref 64), (0, .ref 63)], [.int 0, .int 0], jzv181) : jS)) rfl ?_
  refine jl_s (S' := ((32, [(4, .int 0), (3, .ref 153), (2, .ref 66), (1, .ref 64), (0, .ref 63)], [], jzv181) : jS)) rfl ?_
  refine jl_s (S' := ((33, [(4, .int 0), (3, .ref 153), (2, .ref 66), (1, .ref 64), (0, .ref 63)], [.ref 63], jzv181) : jS)) rfl ?_
  refine jl_s (S' := ((35, [(4, .int 0), (3, .ref 153), (2, .ref 66), (1, .ref 64), (0, .ref 63)], [.int 0, .ref 63], jzv181) : jS)) rfl ?_
  refine jl_s (S' := ((36, [(4, .int 0), (3, .ref 153), (2, .ref 66), (1, .ref 64), (0, .ref 63)], [.int (xs 0)], jzv181) : jS)) rfl ?_
  refine jl_s (S' := ((38, [(4, .int 0), (3, .ref 153), (2, .ref 66), (1, .ref 64), (0, .ref 63)], [.int 31, .int (xs 0)], jzv181) : jS)) rfl ?_
  refine jl_s (S' := ((39, [(4, .int 0), (3, .ref 153), (2, .ref 66), (1, .ref 64), (0, .ref 63)], [.int ((xs 0) &&& 31)], jzv181) : jS)) rfl ?_
  rw [hop]
  refine jl_s (S' := ((128, [(4, .int 0), (3, .ref 153), (2, .ref 66), (1, .ref 64), (0, .ref 63)], [], jzv181) : jS)) rfl ?_
  refine jl_s (S' := ((129, [(4, .int 0), (3, .ref 153), (2, .ref 66), (1, .ref 64), (0, .ref 63)], [.ref 64], jzv181) : jS)) rfl ?_
  refine jl_s (S' := ((130, [(4, .int 0), (3, .ref 153), (2, .ref 66), (1, .ref 64), (0, .ref 63)], [.ref 63, .ref 64], jzv181) : jS)) rfl ?_
  refine jl_s (S' := ((132, [(4, .int 0), (3, .ref 153), (2, .ref 66), (1, .ref 64), (0, .ref 63)], [.int 0, .ref 63, .ref 64], jzv181) : jS)) rfl ?_
  refine jl_s (S' := ((133, [(4, .int 0), (3, .ref 153), (2, .ref 66), (1, .ref 64), (0, .ref 63)], [.int 1, .int 0, .ref 63, .ref 64], jzv181) : jS)) rfl ?_
  refine jl_s (S' := ((134, [(4, .int 0), (3, .ref 153), (2, .ref 66), (1, .ref 64), (0, .ref 63)], [.int 1, .ref 63, .ref 64], jzv181) : jS)) rfl ?_
  refine jl_s (S' := ((135, [(4, .int 0), (3, .ref 153), (2, .ref 66), (1, .ref 64), (0, .ref 63)], [.int (xs 1), .ref 64], jzv181) : jS)) rfl ?_
  refine jl_s (S' := ((136, [(4, .int 0), (3, .ref 153), (2, .ref 66), (1, .ref 64), (0, .ref 63)], [.ref 153, .int (xs 1), .ref 64], jzv181) : jS)) rfl ?_
  refine jl_c (t := 0) (as := [.ref 64, .int (xs 1), .ref 153]) (V := jzv181) (r := (.inl (some (.int 0)), (jzv330 b0 b1 b2 b3))) (S' := ((139, [(4, .int 0), (3, .ref 153), (2, .ref 66), (1, .ref 64), (0, .ref 63)], [.int 0], (jzv330 b0 b1 b2 b3)) : jS)) rfl (jzl696 xs hop b0 b1 b2 b3 e0 e1 e2 e3 g0 g1 g2 g3 h0 h1 h2 h3) rfl ?_
  refine jl_s (S' := ((141, [(5, .int 0), (4, .int 0), (3, .ref 153), (2, .ref 66), (1, .ref 64), (0, .ref 63)], [], (jzv330 b0 b1 b2 b3)) : jS)) rfl ?_
  refine jl_s (S' := ((142, [(5, .int 0), (4, .int 0), (3, .ref 153), (2, .ref 66), (1, .ref 64), (0, .ref 63)], [.ref 66], (jzv330 b0 b1 b2 b3)) : jS)) rfl ?_
  refine jl_s (S' := ((143, [(5, .int 0), (4, .int 0), (3, .ref 153), (2, .ref 66), (1, .ref 64), (0, .ref 63)], [.ref 63, .ref 66], (jzv330 b0 b1 b2 b3)) : jS)) rfl ?_
  refine jl_s (S' := ((145, [(5, .int 0), (4, .int 0), (3, .ref 153), (2, .ref 66), (1, .ref 64), (0, .ref 63)], [.int 0, .ref 63, .ref 66], (jzv330 b0 b1 b2 b3)) : jS)) rfl ?_
  refine jl_s (S' := ((146, [(5, .int 0), (4, .int 0), (3, .ref 153), (2, .ref 66), (1, .ref 64), (0, .ref 63)], [.int 1, .int 0, .ref 63, .ref 66], (jzv330 b0 b1 b2 b3)) : jS)) rfl ?_
  refine jl_s (S' := ((147, [(5, .int 0), (4, .int 0), (3, .ref 153), (2, .ref 66), (1, .ref 64), (0, .ref 63)], [.int 1, .ref 63, .ref 66], (jzv330 b0 b1 b2 b3)) : jS)) rfl ?_
  refine jl_s (S' := ((148, [(5, .int 0), (4, .int 0), (3, .ref 153), (2, .ref 66), (1, .ref 64), (0, .ref 63)], [.int (xs 1), .ref 66], (jzv330 b0 b1 b2 b3)) : jS)) rfl ?_
  refine jl_c (t := 248) (as := [.ref 66, .int (xs 1)]) (V := (jzv330 b0 b1 b2 b3)) (r := (.inl (some (.int 2)), (jzv334 b0 b1 b2 b3))) (S' := ((151, [(5, .int 0), (4, .int 0), (3, .ref 153), (2, .ref 66), (1, .ref 64), (0, .ref 63)], [.int 2], (jzv334 b0 b1 b2 b3)) : jS)) rfl (jzrp_VZVZ xs b0 b1 b2 b3 g0 g1 g2 g3 h0 h1 h2 h3 ) rfl ?_
  refine jl_s (S' := ((153, [(6, .int 2), (5, .int 0), (4, .int 0), (3, .ref 153), (2, .ref 66), (1, .ref 64), (0, .ref 63)], [], (jzv334 b0 b1 b2 b3)) : jS)) rfl ?_
  refine jl_s (S' := ((154, [(6, .int 2), (5, .int 0), (4, .int 0), (3, .ref 153), (2, .ref 66), (1, .ref 64), (0, .ref 63)], [.ref 66], (jzv334 b0 b1 b2 b3)) : jS)) rfl ?_
  refine jl_c (t := 244) (as := [.ref 66]) (V := (jzv334 b0 b1 b2 b3)) (r := (.inl (some (.int 0)), (jzv334 b0 b1 b2 b3))) (S' := ((157, [(6, .int 2), (5, .int 0), (4, .int 0), (3, .ref 153), (2, .ref 66), (1, .ref 64), (0, .ref 63)], [.int 0], (jzv334 b0 b1 b2 b3)) : jS)) rfl (jzl710 xs hop b0 b1 b2 b3 e0 e1 e2 e3 g0 g1 g2 g3 h0 h1 h2 h3) rfl ?_
  refine jl_s (S' := ((159, [(6, .int 2), (5, .int 0), (4, .int 0), (3, .ref 153), (2, .ref 66), (1, .ref 64), (0, .ref 63)], [.int 0, .int 0], (jzv334 b0 b1 b2 b3)) : jS)) rfl ?_
  refine jl_s (S' := ((164, [(6, .int 2), (5, .int 0), (4, .int 0), (3, .ref 153), (2, .ref 66), (1, .ref 64), (0, .ref 63)], [], (jzv334 b0 b1 b2 b3)) : jS)) rfl ?_
  refine jl_s (S' := ((166, [(6, .int 2), (5, .int 0), (4, .int 0), (3, .ref 153), (2, .ref 66), (1, .ref 64), (0, .ref 63)], [.int 0], (jzv334 b0 b1 b2 b3)) : jS)) rfl ?_
  refine jl_s (S' := ((169, [(6, .int 2), (5, .int 0), (4, .int 0), (3, .ref 153), (2, .ref 66), (1, .ref 64), (0, .ref 63)], [], (jzv334 b0 b1 b2 b3)) : jS)) rfl ?_
  refine jl_s (S' := ((170, [(6, .int 2), (5, .int 0), (4, .int 0), (3, .ref 153), (2, .ref 66), (1, .ref 64), (0, .ref 63)], [.ref 153], (jzv334 b0 b1 b2 b3)) : jS)) rfl ?_
  refine jl_s (S' := ((171, [(6, .int 2), (5, .int 0), (4, .int 0), (3, .ref 153), (2, .ref 66), (1, .ref 64), (0, .ref 63)], [.int 0, .ref 153], (jzv334 b0 b1 b2 b3)) : jS)) rfl ?_
  refine jl_s (S' := ((172, [(6, .int 2), (5, .int 0), (4, .int 0), (3, .ref 153), (2, .ref 66), (1, .ref 64), (0, .ref 63)], [.long 2], (jzv334 b0 b1 b2 b3)) : jS)) rfl ?_
  refine jl_s (S' := ((174, [(6, .int 2), (5, .int 0), (4, .int 0), (3, .ref 153), (2, .ref 66), (1, .ref 64), (0, .ref 63)], [.int 2, .long 2], (jzv334 b0 b1 b2 b3)) : jS)) rfl ?_
  refine jl_s (S' := ((175, [(6, .int 2), (5, .int 0), (4, .int 0), (3, .ref 153), (2, .ref 66), (1, .ref 64), (0, .ref 63)], [.long 2, .long 2], (jzv334 b0 b1 b2 b3)) : jS)) rfl ?_
  refine jl_s (S' := ((176, [(6, .int 2), (5, .int 0), (4, .int 0), (3, .ref 153), (2, .ref 66), (1, .ref 64), (0, .ref 63)], [.int 0], (jzv334 b0 b1 b2 b3)) : jS)) rfl ?_
  refine jl_s (S' := ((181, [(6, .int 2), (5, .int 0), (4, .int 0), (3, .ref 153), (2, .ref 66), (1, .ref 64), (0, .ref 63)], [], (jzv334 b0 b1 b2 b3)) : jS)) rfl ?_
  refine jl_s (S' := ((1193, [(6, .int 2), (5, .int 0), (4, .int 0), (3, .ref 153), (2, .ref 66), (1, .ref 64), (0, .ref 63)], [], (jzv334 b0 b1 b2 b3)) : jS)) rfl ?_
  refine jl_s (S' := ((1196, [(4, .int 4), (6, .int 2), (5, .int 0), (3, .ref 153), (2, .ref 66), (1, .ref 64), (0, .ref 63)], [], (jzv334 b0 b1 b2 b3)) : jS)) rfl ?_
  refine jl_s (S' := ((23, [(4, .int 4), (6, .int 2), (5, .int 0), (3, .ref 153), (2, .ref 66), (1, .ref 64), (0, .ref 63)], [], (jzv334 b0 b1 b2 b3)) : jS)) rfl ?_
  refine jl_s (S' := ((25, [(4, .int 4), (6, .int 2), (5, .int 0), (3, .ref 153), (2, .ref 66), (1, .ref 64), (0, .ref 63)], [.int 4], (jzv334 b0 b1 b2 b3)) : jS)) rfl ?_
  refine jl_s (S' := ((26, [(4, .int 4), (6, .int 2), (5, .int 0), (3, .ref 153), (2, .ref 66), (1, .ref 64), (0, .ref 63)], [.ref 63, .int 4], (jzv334 b0 b1 b2 b3)) : jS)) rfl ?_
  refine jl_s (S' := ((27, [(4, .int 4), (6, .int 2), (5, .int 0), (3, .ref 153), (2, .ref 66), (1, .ref 64), (0, .ref 63)], [.int 4, .int 4], (jzv334 b0 b1 b2 b3)) : jS)) rfl ?_
  refine jl_s (S' := ((28, [(4, .int 4), (6, .int 2), (5, .int 0), (3, .ref 153), (2, .ref 66), (1, .ref 64), (0, .ref 63)], [.int 4, .int 4, .int 4], (jzv334 b0 b1 b2 b3)) : jS)) rfl ?_
  refine jl_s (S' := ((29, [(4, .int 4), (6, .int 2), (5, .int 0), (3, .ref 153), (2, .ref 66), (1, .ref 64), (0, .ref 63)], [.int 0, .int 4], (jzv334 b0 b1 b2 b3)) : jS)) rfl ?_
  refine jl_s (S' := ((1199, [(4, .int 4), (6, .int 2), (5, .int 0), (3, .ref 153), (2, .ref 66), (1, .ref 64), (0, .ref 63)], [], (jzv334 b0 b1 b2 b3)) : jS)) rfl ?_
  refine jl_s (S' := ((1200, [(4, .int 4), (6, .int 2), (5, .int 0), (3, .ref 153), (2, .ref 66), (1, .ref 64), (0, .ref 63)], [.int 1], (jzv334 b0 b1 b2 b3)) : jS)) rfl ?_
  exact jl_r (r := (.inl (some (.int 1)), (jzv334 b0 b1 b2 b3))) rfl
-- op 0 VZVZ: jzl711
def jzv335 (b0 b1 b2 b3 : Int32) : jH := [jzc190, (jzc194 b0 b1 b2 b3), jzc117, jzc7, jzc9, jzc9, jzc9, jzc9, jzc9, jzc17, jzc19, jzc19, jzc19, jzc19, jzc19, jzc19, jzc19, jzc19, jzc28, jzc28, jzc28, jzc28, jzc28, jzc28, jzc28, jzc28, jzc28, jzc28, jzc28, jzc28, jzc28, jzc28, jzc43, jzc43, jzc43, jzc43, jzc43, jzc49, jzc49, jzc52, jzc52, jzc52, jzc56, jzc56, jzc59, jzc56, jzc62, jzc28, jzc28, jzc28, jzc28, jzc28, jzc69, jzc71, jzc73, jzc43, jzc76, jzc52, jzc52, jzc80, jzc80, jzc80, jzc84, jzc52, jzc52, jzc52, jzc52, jzc52, jzc52, jzc52, jzc93, jzc93, jzc52, jzc52, jzc98, jzc100, jzc93, jzc52, jzc52, jzc52, jzc52, jzc107, jzc109, jzc111, jzc100, jzc100, jzc100, jzc111, jzc111, jzc210]
set_option maxHeartbeats 4000000 in
set_option maxRecDepth 100000 in
theorem jzl712 (xs : Nat → Int32) (hop : xs 0 &&& 31 = 0) (b0 b1 b2 b3 : Int32) (e0 : ((Int32.toUInt32 (xs 1) >>> (Int32.toUInt32 0 &&& Int32.toUInt32 31)).toInt32) &&& 255 = b0) (e1 : ((Int32.toUInt32 (xs 1) >>> (Int32.toUInt32 8 &&& Int32.toUInt32 31)).toInt32) &&& 255 = b1) (e2 : ((Int32.toUInt32 (xs 1) >>> (Int32.toUInt32 16 &&& Int32.toUInt32 31)).toInt32) &&& 255 = b2) (e3 : ((Int32.toUInt32 (xs 1) >>> (Int32.toUInt32 24 &&& Int32.toUInt32 31)).toInt32) &&& 255 = b3) (g0 : ((xs 1) >>> (0 &&& 31)) &&& 255 = b0) (g1 : ((xs 1) >>> (8 &&& 31)) &&& 255 = b1) (g2 : ((xs 1) >>> (16 &&& 31)) &&& 255 = b2) (g3 : ((xs 1) >>> (24 &&& 31)) &&& 255 = b3) (h0 : jbv b0) (h1 : jbz b1) (h2 : jbv b2) (h3 : jbv b3) : jRun ((4, xs) : jX) 2000 39 0 [.ref 64, .int (xs 1), .ref 153] jzv181 = some (.inl (some (.int 0)), (jzv335 b0 b1 b2 b3)) := by
  refine jr_run (e := jm0) rfl (Nat.le_of_ble_eq_true rfl) ?_
  refine jl_s (S' := ((1, [(0, .ref 64), (1, .int (xs 1)), (2, .ref 153)], [.ref 153], jzv181) : jS)) rfl ?_
  refine jl_s (S' := ((2, [(0, .ref 64), (1, .int (xs 1)), (2, .ref 153)], [.int 0, .ref 153], jzv181) : jS)) rfl ?_
  refine jl_s (S' := ((3, [(0, .ref 64), (1, .int (xs 1)), (2, .ref 153)], [.ref 64, .int 0, .ref 153], jzv181) : jS)) rfl ?_
  refine jl_s (S' := ((4, [(0, .ref 64), (1, .int (xs 1)), (2, .ref 153)], [.int (xs 1), .ref 64, .int 0, .ref 153], jzv181) : jS)) rfl ?_
  refine jl_c (t := 20) (as := [.ref 64, .int (xs 1)]) (V := jzv181) (r := (.inl (some (.int 3)), (jzv282 b0 b1 b2 b3))) (S' := ((7, [(0, .ref 64), (1, .int (xs 1)), (2, .ref 153)], [.int 3, .int 0, .ref 153], (jzv282 b0 b1 b2 b3)) : jS)) rfl (jzcp_VZVV xs b0 b1 b2 b3 e0 e1 e2 e3 h0 h1 h2 h3 ) rfl ?_
  refine jl_s (S' := ((8, [(0, .ref 64), (1, .int (xs 1)), (2, .ref 153)], [.long 3, .int 0, .ref 153], (jzv282 b0 b1 b2 b3)) : jS)) rfl ?_
  refine jl_s (S' := ((9, [(0, .ref 64), (1, .int (xs 1)), (2, .ref 153)], [], (jzv335 b0 b1 b2 b3)) : jS)) rfl ?_
  refine jl_s (S' := ((18, [(0, .ref 64), (1, .int (xs 1)), (2, .ref 153)], [], (jzv335 b0 b1 b2 b3)) : jS)) rfl ?_
  refine jl_s (S' := ((19, [(0, .ref 64), (1, .int (xs 1)), (2, .ref 153)], [.int 0], (jzv335 b0 b1 b2 b3)) : jS)) rfl ?_
  exact jl_r (r := (.inl (some (.int 0)), (jzv335 b0 b1 b2 b3))) rfl
set_option maxHeartbeats 4000000 in
set_option maxRecDepth 100000 in
theorem jzl713 (xs : Nat → Int32) (b0 b1 b2 b3 : Int32) : jRun ((4, xs) : jX) 2000 38 245 [.ref 66, .int 0, .int 0, .int 0] (jzv335 b0 b1 b2 b3) = some (.inl (some (.int 0)), (jzv335 b0 b1 b2 b3)) := by
  refine jr_run (e := jm245) rfl (Nat.le_of_ble_eq_true rfl) ?_
  refine jl_s (S' := ((1, [(0, .ref 66), (1, .int 0), (2, .int 0), (3, .int 0)], [.ref 66], (jzv335 b0 b1 b2 b3)) : jS)) rfl ?_
  refine jl_s (S' := ((2, [(0, .ref 66), (1, .int 0), (2, .int 0), (3, .int 0)], [.int 0, .ref 66], (jzv335 b0 b1 b2 b3)) : jS)) rfl ?_
  refine jl_s (S' := ((9, [(0, .ref 66), (1, .int 0), (2, .int 0), (3, .int 0)], [.ref 66], (jzv335 b0 b1 b2 b3)) : jS)) rfl ?_
  refine jl_s (S' := ((10, [(0, .ref 66), (1, .int 0), (2, .int 0), (3, .int 0)], [.int 0, .ref 66], (jzv335 b0 b1 b2 b3)) : jS)) rfl ?_
  refine jl_s (S' := ((17, [(0, .ref 66), (1, .int 0), (2, .int 0), (3, .int 0)], [.ref 66], (jzv335 b0 b1 b2 b3)) : jS)) rfl ?_
  refine jl_s (S' := ((18, [(0, .ref 66), (1, .int 0), (2, .int 0), (3, .int 0)], [.int 0, .ref 66], (jzv335 b0 b1 b2 b3)) : jS)) rfl ?_
  refine jl_s (S' := ((25, [(0, .ref 66), (1, .int 0), (2, .int 0), (3, .int 0)], [.ref 66], (jzv335 b0 b1 b2 b3)) : jS)) rfl ?_
  refine jl_s (S' := ((26, [(0, .ref 66), (1, .int 0), (2, .int 0), (3, .int 0)], [.int 0, .ref 66], (jzv335 b0 b1 b2 b3)) : jS)) rfl ?_
  refine jl_s (S' := ((29, [(0, .ref 66), (1, .int 0), (2, .int 0), (3, .int 0)], [], (jzv335 b0 b1 b2 b3)) : jS)) rfl ?_
  refine jl_s (S' := ((30, [(0, .ref 66), (1, .int 0), (2, .int 0), (3, .int 0)], [.ref 66], (jzv335 b0 b1 b2 b3)) : jS)) rfl ?_
  refine jl_s (S' := ((33, [(0, .ref 66), (1, .int 0), (2, .int 0), (3, .int 0)], [.int 0], (jzv335 b0 b1 b2 b3)) : jS)) rfl ?_
  refine jl_s (S' := ((40, [(0, .ref 66), (1, .int 0), (2, .int 0), (3, .int 0)], [], (jzv335 b0 b1 b2 b3)) : jS)) rfl ?_
  refine jl_s (S' := ((41, [(0, .ref 66), (1, .int 0), (2, .int 0), (3, .int 0)], [.int 0], (jzv335 b0 b1 b2 b3)) : jS)) rfl ?_
  exact jl_r (r := (.inl (some (.int 0)), (jzv335 b0 b1 b2 b3))) rfl
set_option maxHeartbeats 4000000 in
set_option maxRecDepth 100000 in
theorem jzq715 (xs : Nat → Int32) (b0 b1 b2 b3 : Int32) {f : Nat} {q : jO × jH} (hq : jLoop (jRun ((4, xs) : jX) 2000 38) ((4, xs) : jX) jm248 f ((101, [(4, .int 0), (3, .int 3), (2, .int 0), (5, .int (b3)), (0, .ref 66), (1, .int (xs 1))], [], (jzv335 b0 b1 b2 b3)) : jS) = some q) : jLoop (jRun ((4, xs) : jX) 2000 38) ((4, xs) : jX) jm248 (f + 19) ((7, [(4, .int 32), (3, .int 3), (2, .int 0), (5, .int (b3)), (0, .ref 66), (1, .int (xs 1))], [], (jzv335 b0 b1 b2 b3)) : jS) = some q := by
  refine jl_s (S' := ((9, [(4, .int 32), (3, .int 3), (2, .int 0), (5, .int (b3)), (0, .ref 66), (1, .int (xs 1))], [.int 32], (jzv335 b0 b1 b2 b3)) : jS)) rfl ?_
  refine jl_s (S' := ((11, [(4, .int 32), (3, .int 3), (2, .int 0), (5, .int (b3)), (0, .ref 66), (1, .int (xs 1))], [.int 32, .int 32], (jzv335 b0 b1 b2 b3)) : jS)) rfl ?_
  refine jl_s (S' := ((66, [(4, .int 32), (3, .int 3), (2, .int 0), (5, .int (b3)), (0, .ref 66), (1, .int (xs 1))], [], (jzv335 b0 b1 b2 b3)) : jS)) rfl ?_
  refine jl_s (S' := ((67, [(4, .int 32), (3, .int 3), (2, .int 0), (5, .int (b3)), (0, .ref 66), (1, .int (xs 1))], [.ref 66], (jzv335 b0 b1 b2 b3)) : jS)) rfl ?_
  refine jl_s (S' := ((68, [(4, .int 32), (3, .int 3), (2, .int 0), (5, .int (b3)), (0, .ref 66), (1, .int (xs 1))], [.int 0, .ref 66], (jzv335 b0 b1 b2 b3)) : jS)) rfl ?_
  refine jl_s (S' := ((69, [(4, .int 32), (3, .int 3), (2, .int 0), (5, .int (b3)), (0, .ref 66), (1, .int (xs 1))], [.int 0, .int 0, .ref 66], (jzv335 b0 b1 b2 b3)) : jS)) rfl ?_
  refine jl_s (S' := ((72, [(4, .int 32), (3, .int 3), (2, .int 0), (5, .int (b3)), (0, .ref 66), (1, .int (xs 1))], [.int 0, .ref 66], (jzv335 b0 b1 b2 b3)) : jS)) rfl ?_
  refine jl_s (S' := ((73, [(4, .int 32), (3, .int 3), (2, .int 0), (5, .int (b3)), (0, .ref 66), (1, .int (xs 1))], [.ref 66, .int 0, .ref 66], (jzv335 b0 b1 b2 b3)) : jS)) rfl ?_
  refine jl_s (S' := ((76, [(4, .int 32), (3, .int 3), (2, .int 0), (5, .int (b3)), (0, .ref 66), (1, .int (xs 1))], [.int 0, .int 0, .ref 66], (jzv335 b0 b1 b2 b3)) : jS)) rfl ?_
  refine jl_s (S' := ((77, [(4, .int 32), (3, .int 3), (2, .int 0), (5, .int (b3)), (0, .ref 66), (1, .int (xs 1))], [.int 3, .int 0, .int 0, .ref 66], (jzv335 b0 b1 b2 b3)) : jS)) rfl ?_
  refine jl_s (S' := ((78, [(4, .int 32), (3, .int 3), (2, .int 0), (5, .int (b3)), (0, .ref 66), (1, .int (xs 1))], [.int 3, .int 0, .ref 66], (jzv335 b0 b1 b2 b3)) : jS)) rfl ?_
  refine jl_s (S' := ((81, [(4, .int 32), (3, .int 3), (2, .int 0), (5, .int (b3)), (0, .ref 66), (1, .int (xs 1))], [.int 3000, .int 3, .int 0, .ref 66], (jzv335 b0 b1 b2 b3)) : jS)) rfl ?_
  refine jl_s (S' := ((88, [(4, .int 32), (3, .int 3), (2, .int 0), (5, .int (b3)), (0, .ref 66), (1, .int (xs 1))], [.int 0, .ref 66], (jzv335 b0 b1 b2 b3)) : jS)) rfl ?_
  refine jl_s (S' := ((89, [(4, .int 32), (3, .int 3), (2, .int 0), (5, .int (b3)), (0, .ref 66), (1, .int (xs 1))], [.int 0, .int 0, .ref 66], (jzv335 b0 b1 b2 b3)) : jS)) rfl ?_
  refine jl_s (S' := ((90, [(4, .int 32), (3, .int 3), (2, .int 0), (5, .int (b3)), (0, .ref 66), (1, .int (xs 1))], [.int 0, .int 0, .int 0, .ref 66], (jzv335 b0 b1 b2 b3)) : jS)) rfl ?_
  refine jl_c (t := 245) (as := [.ref 66, .int 0, .int 0, .int 0]) (V := (jzv335 b0 b1 b2 b3)) (r := (.inl (some (.int 0)), (jzv335 b0 b1 b2 b3))) (S' := ((93, [(4, .int 32), (3, .int 3), (2, .int 0), (5, .int (b3)), (0, .ref 66), (1, .int (xs 1))], [.int 0], (jzv335 b0 b1 b2 b3)) : jS)) rfl (jzl713 xs b0 b1 b2 b3) rfl ?_
  refine jl_s (S' := ((98, [(4, .int 32), (3, .int 3), (2, .int 0), (5, .int (b3)), (0, .ref 66), (1, .int (xs 1))], [], (jzv335 b0 b1 b2 b3)) : jS)) rfl ?_
  refine jl_s (S' := ((99, [(4, .int 32), (3, .int 3), (2, .int 0), (5, .int (b3)), (0, .ref 66), (1, .int (xs 1))], [.int 0], (jzv335 b0 b1 b2 b3)) : jS)) rfl ?_
  refine jl_s (S' := ((101, [(4, .int 0), (3, .int 3), (2, .int 0), (5, .int (b3)), (0, .ref 66), (1, .int (xs 1))], [], (jzv335 b0 b1 b2 b3)) : jS)) rfl ?_
  exact hq
def jzv336 (b0 b1 b2 b3 : Int32) : jH := [jzc190, (jzc194 b0 b1 b2 b3), jzc117, (jzc213 b0 b1 b2 b3), jzc9, jzc9, jzc9, jzc9, jzc9, jzc17, jzc19, jzc19, jzc19, jzc19, jzc19, jzc19, jzc19, jzc19, jzc28, jzc28, jzc28, jzc28, jzc28, jzc28, jzc28, jzc28, jzc28, jzc28, jzc28, jzc28, jzc28, jzc28, jzc43, jzc43, jzc43, jzc43, jzc43, jzc49, jzc49, jzc52, jzc52, jzc52, jzc56, jzc56, jzc59, jzc56, jzc62, jzc28, jzc28, jzc28, jzc28, jzc28, jzc69, jzc71, jzc73, jzc43, jzc76, jzc52, jzc52, jzc80, jzc80, jzc80, jzc84, jzc52, jzc52, jzc52, jzc52, jzc52, jzc52, jzc52, jzc93, jzc93, jzc52, jzc52, jzc98, jzc100, jzc93, jzc52, jzc52, jzc52, jzc52, jzc107, jzc109, jzc111, jzc100, jzc100, jzc100, jzc111, jzc111, jzc210]
def jzv337 (b0 b1 b2 b3 : Int32) : jH := [jzc190, (jzc194 b0 b1 b2 b3), jzc202, (jzc213 b0 b1 b2 b3), jzc9, jzc9, jzc9, jzc9, jzc9, jzc17, jzc19, jzc19, jzc19, jzc19, jzc19, jzc19, jzc19, jzc19, jzc28, jzc28, jzc28, jzc28, jzc28, jzc28, jzc28, jzc28, jzc28, jzc28, jzc28, jzc28, jzc28, jzc28, jzc43, jzc43, jzc43, jzc43, jzc43, jzc49, jzc49, jzc52, jzc52, jzc52, jzc56, jzc56, jzc59, jzc56, jzc62, jzc28, jzc28, jzc28, jzc28, jzc28, jzc69, jzc71, jzc73, jzc43, jzc76, jzc52, jzc52, jzc80, jzc80, jzc80, jzc84, jzc52, jzc52, jzc52, jzc52, jzc52, jzc52, jzc52, jzc93, jzc93, jzc52, jzc52, jzc98, jzc100, jzc93, jzc52, jzc52, jzc52, jzc52, jzc107, jzc109, jzc111, jzc100, jzc100, jzc100, jzc111, jzc111, jzc210]
set_option maxHeartbeats 4000000 in
set_option maxRecDepth 100000 in
theorem jzq717 (xs : Nat → Int32) (b0 b1 b2 b3 : Int32) (e : ((xs 1) >>> (0 &&& 31)) &&& 255 = b0) (h : jbn b0) {f : Nat} {q : jO × jH} (hq : jLoop (jRun ((4, xs) : jX) 2000 38) ((4, xs) : jX) jm248 f ((101, [(4, .int 8), (5, .int (b0)), (3, .int 3), (2, .int 0), (0, .ref 66), (1, .int (xs 1))], [], (jzv337 b0 b1 b2 b3)) : jS) = some q) : jLoop (jRun ((4, xs) : jX) 2000 38) ((4, xs) : jX) jm248 (f + 25) ((101, [(4, .int 0), (3, .int 3), (2, .int 0), (5, .int (b3)), (0, .ref 66), (1, .int (xs 1))], [], (jzv335 b0 b1 b2 b3)) : jS) = some q := by
  refine jl_s (S' := ((103, [(4, .int 0), (3, .int 3), (2, .int 0), (5, .int (b3)), (0, .ref 66), (1, .int (xs 1))], [.int 0], (jzv335 b0 b1 b2 b3)) : jS)) rfl ?_
  refine jl_s (S' := ((105, [(4, .int 0), (3, .int 3), (2, .int 0), (5, .int (b3)), (0, .ref 66), (1, .int (xs 1))], [.int 32, .int 0], (jzv335 b0 b1 b2 b3)) : jS)) rfl ?_
  refine jl_s (S' := ((108, [(4, .int 0), (3, .int 3), (2, .int 0), (5, .int (b3)), (0, .ref 66), (1, .int (xs 1))], [], (jzv335 b0 b1 b2 b3)) : jS)) rfl ?_
  refine jl_s (S' := ((109, [(4, .int 0), (3, .int 3), (2, .int 0), (5, .int (b3)), (0, .ref 66), (1, .int (xs 1))], [.int (xs 1)], (jzv335 b0 b1 b2 b3)) : jS)) rfl ?_
  refine jl_s (S' := ((111, [(4, .int 0), (3, .int 3), (2, .int 0), (5, .int (b3)), (0, .ref 66), (1, .int (xs 1))], [.int 0, .int (xs 1)], (jzv335 b0 b1 b2 b3)) : jS)) rfl ?_
  refine jl_s (S' := ((112, [(4, .int 0), (3, .int 3), (2, .int 0), (5, .int (b3)), (0, .ref 66), (1, .int (xs 1))], [.int ((xs 1) >>> (0 &&& 31))], (jzv335 b0 b1 b2 b3)) : jS)) rfl ?_
  refine jl_s (S' := ((115, [(4, .int 0), (3, .int 3), (2, .int 0), (5, .int (b3)), (0, .ref 66), (1, .int (xs 1))], [.int 255, .int ((xs 1) >>> (0 &&& 31))], (jzv335 b0 b1 b2 b3)) : jS)) rfl ?_
  refine jl_s (S' := ((116, [(4, .int 0), (3, .int 3), (2, .int 0), (5, .int (b3)), (0, .ref 66), (1, .int (xs 1))], [.int (((xs 1) >>> (0 &&& 31)) &&& 255)], (jzv335 b0 b1 b2 b3)) : jS)) rfl ?_
  rw [e]
  refine jl_s (S' := ((118, [(5, .int (b0)), (4, .int 0), (3, .int 3), (2, .int 0), (0, .ref 66), (1, .int (xs 1))], [], (jzv335 b0 b1 b2 b3)) : jS)) rfl ?_
  refine jl_s (S' := ((120, [(5, .int (b0)), (4, .int 0), (3, .int 3), (2, .int 0), (0, .ref 66), (1, .int (xs 1))], [.int (b0)], (jzv335 b0 b1 b2 b3)) : jS)) rfl ?_
  refine jl_iff (e := jm248) (o := 24) rfl (h.1) ?_
  refine jl_s (S' := ((124, [(5, .int (b0)), (4, .int 0), (3, .int 3), (2, .int 0), (0, .ref 66), (1, .int (xs 1))], [.ref 66], (jzv335 b0 b1 b2 b3)) : jS)) rfl ?_
  refine jl_s (S' := ((127, [(5, .int (b0)), (4, .int 0), (3, .int 3), (2, .int 0), (0, .ref 66), (1, .int (xs 1))], [.ref 67], (jzv335 b0 b1 b2 b3)) : jS)) rfl ?_
  refine jl_s (S' := ((128, [(5, .int (b0)), (4, .int 0), (3, .int 3), (2, .int 0), (0, .ref 66), (1, .int (xs 1))], [.ref 66, .ref 67], (jzv335 b0 b1 b2 b3)) : jS)) rfl ?_
  refine jl_s (S' := ((131, [(5, .int (b0)), (4, .int 0), (3, .int 3), (2, .int 0), (0, .ref 66), (1, .int (xs 1))], [.int 0, .ref 67], (jzv335 b0 b1 b2 b3)) : jS)) rfl ?_
  refine jl_s (S' := ((133, [(5, .int (b0)), (4, .int 0), (3, .int 3), (2, .int 0), (0, .ref 66), (1, .int (xs 1))], [.int (b0), .int 0, .ref 67], (jzv335 b0 b1 b2 b3)) : jS)) rfl ?_
  refine jl_s (S' := ((134, [(5, .int (b0)), (4, .int 0), (3, .int 3), (2, .int 0), (0, .ref 66), (1, .int (xs 1))], [], (jzv336 b0 b1 b2 b3)) : jS)) rfl ?_
  refine jl_s (S' := ((135, [(5, .int (b0)), (4, .int 0), (3, .int 3), (2, .int 0), (0, .ref 66), (1, .int (xs 1))], [.ref 66], (jzv336 b0 b1 b2 b3)) : jS)) rfl ?_
  refine jl_s (S' := ((136, [(5, .int (b0)), (4, .int 0), (3, .int 3), (2, .int 0), (0, .ref 66), (1, .int (xs 1))], [.ref 66, .ref 66], (jzv336 b0 b1 b2 b3)) : jS)) rfl ?_
  refine jl_s (S' := ((139, [(5, .int (b0)), (4, .int 0), (3, .int 3), (2, .int 0), (0, .ref 66), (1, .int (xs 1))], [.int 0, .ref 66], (jzv336 b0 b1 b2 b3)) : jS)) rfl ?_
  refine jl_s (S' := ((140, [(5, .int (b0)), (4, .int 0), (3, .int 3), (2, .int 0), (0, .ref 66), (1, .int (xs 1))], [.int 1, .int 0, .ref 66], (jzv336 b0 b1 b2 b3)) : jS)) rfl ?_
  refine jl_s (S' := ((141, [(5, .int (b0)), (4, .int 0), (3, .int 3), (2, .int 0), (0, .ref 66), (1, .int (xs 1))], [.int 1, .ref 66], (jzv336 b0 b1 b2 b3)) : jS)) rfl ?_
  refine jl_s (S' := ((144, [(5, .int (b0)), (4, .int 0), (3, .int 3), (2, .int 0), (0, .ref 66), (1, .int (xs 1))], [], (jzv337 b0 b1 b2 b3)) : jS)) rfl ?_
  refine jl_s (S' := ((147, [(4, .int 8), (5, .int (b0)), (3, .int 3), (2, .int 0), (0, .ref 66), (1, .int (xs 1))], [], (jzv337 b0 b1 b2 b3)) : jS)) rfl ?_
  refine jl_s (S' := ((101, [(4, .int 8), (5, .int (b0)), (3, .int 3), (2, .int 0), (0, .ref 66), (1, .int (xs 1))], [], (jzv337 b0 b1 b2 b3)) : jS)) rfl ?_
  exact hq
set_option maxHeartbeats 4000000 in
set_option maxRecDepth 100000 in
theorem jzq719 (xs : Nat → Int32) (b0 b1 b2 b3 : Int32) (e : ((xs 1) >>> (8 &&& 31)) &&& 255 = b1) (h : jbz b1) {f : Nat} {q : jO × jH} (hq : jLoop (jRun ((4, xs) : jX) 2000 38) ((4, xs) : jX) jm248 f ((101, [(4, .int 16), (5, .int (b1)), (3, .int 3), (2, .int 0), (0, .ref 66), (1, .int (xs 1))], [], (jzv337 b0 b1 b2 b3)) : jS) = some q) : jLoop (jRun ((4, xs) : jX) 2000 38) ((4, xs) : jX) jm248 (f + 13) ((101, [(4, .int 8), (5, .int (b0)), (3, .int 3), (2, .int 0), (0, .ref 66), (1, .int (xs 1))], [], (jzv337 b0 b1 b2 b3)) : jS) = some q := by
  refine jl_s (S' := ((103, [(4, .int 8), (5, .int (b0)), (3, .int 3), (2, .int 0), (0, .ref 66), (1, .int (xs 1))], [.int 8], (jzv337 b0 b1 b2 b3)) : jS)) rfl ?_
  refine jl_s (S' := ((105, [(4, .int 8), (5, .int (b0)), (3, .int 3), (2, .int 0), (0, .ref 66), (1, .int (xs 1))], [.int 32, .int 8], (jzv337 b0 b1 b2 b3)) : jS)) rfl ?_
  refine jl_s (S' := ((108, [(4, .int 8), (5, .int (b0)), (3, .int 3), (2, .int 0), (0, .ref 66), (1, .int (xs 1))], [], (jzv337 b0 b1 b2 b3)) : jS)) rfl ?_
  refine jl_s (S' := ((109, [(4, .int 8), (5, .int (b0)), (3, .int 3), (2, .int 0), (0, .ref 66), (1, .int (xs 1))], [.int (xs 1)], (jzv337 b0 b1 b2 b3)) : jS)) rfl ?_
  refine jl_s (S' := ((111, [(4, .int 8), (5, .int (b0)), (3, .int 3), (2, .int 0), (0, .ref 66), (1, .int (xs 1))], [.int 8, .int (xs 1)], (jzv337 b0 b1 b2 b3)) : jS)) rfl ?_
  refine jl_s (S' := ((112, [(4, .int 8), (5, .int (b0)), (3, .int 3), (2, .int 0), (0, .ref 66), (1, .int (xs 1))], [.int ((xs 1) >>> (8 &&& 31))], (jzv337 b0 b1 b2 b3)) : jS)) rfl ?_
  refine jl_s (S' := ((115, [(4, .int 8), (5, .int (b0)), (3, .int 3), (2, .int 0), (0, .ref 66), (1, .int (xs 1))], [.int 255, .int ((xs 1) >>> (8 &&& 31))], (jzv337 b0 b1 b2 b3)) : jS)) rfl ?_
  refine jl_s (S' := ((116, [(4, .int 8), (5, .int (b0)), (3, .int 3), (2, .int 0), (0, .ref 66), (1, .int (xs 1))], [.int (((xs 1) >>> (8 &&& 31)) &&& 255)], (jzv337 b0 b1 b2 b3)) : jS)) rfl ?_
  rw [e]
  refine jl_s (S' := ((118, [(5, .int (b1)), (4, .int 8), (3, .int 3), (2, .int 0), (0, .ref 66), (1, .int (xs 1))], [], (jzv337 b0 b1 b2 b3)) : jS)) rfl ?_
  refine jl_s (S' := ((120, [(5, .int (b1)), (4, .int 8), (3, .int 3), (2, .int 0), (0, .ref 66), (1, .int (xs 1))], [.int (b1)], (jzv337 b0 b1 b2 b3)) : jS)) rfl ?_
  refine jl_ift (e := jm248) (o := 24) rfl (h.1) (t := 144) rfl ?_
  refine jl_s (S' := ((147, [(4, .int 16), (5, .int (b1)), (3, .int 3), (2, .int 0), (0, .ref 66), (1, .int (xs 1))], [], (jzv337 b0 b1 b2 b3)) : jS)) rfl ?_
  refine jl_s (S' := ((101, [(4, .int 16), (5, .int (b1)), (3, .int 3), (2, .int 0), (0, .ref 66), (1, .int (xs 1))], [], (jzv337 b0 b1 b2 b3)) : jS)) rfl ?_
  exact hq
def jzv338 (b0 b1 b2 b3 : Int32) : jH := [jzc190, (jzc194 b0 b1 b2 b3), jzc202, (jzc215 b0 b1 b2 b3), jzc9, jzc9, jzc9, jzc9, jzc9, jzc17, jzc19, jzc19, jzc19, jzc19, jzc19, jzc19, jzc19, jzc19, jzc28, jzc28, jzc28, jzc28, jzc28, jzc28, jzc28, jzc28, jzc28, jzc28, jzc28, jzc28, jzc28, jzc28, jzc43, jzc43, jzc43, jzc43, jzc43, jzc49, jzc49, jzc52, jzc52, jzc52, jzc56, jzc56, jzc59, jzc56, jzc62, jzc28, jzc28, jzc28, jzc28, jzc28, jzc69, jzc71, jzc73, jzc43, jzc76, jzc52, jzc52, jzc80, jzc80, jzc80, jzc84, jzc52, jzc52, jzc52, jzc52, jzc52, jzc52, jzc52, jzc93, jzc93, jzc52, jzc52, jzc98, jzc100, jzc93, jzc52, jzc52, jzc52, jzc52, jzc107, jzc109, jzc111, jzc100, jzc100, jzc100, jzc111, jzc111, jzc210]
def jzv339 (b0 b1 b2 b3 : Int32) : jH := [jzc190, (jzc194 b0 b1 b2 b3), jzc206, (jzc215 b0 b1 b2 b3), jzc9, jzc9, jzc9, jzc9, jzc9, jzc17, jzc19, jzc19, jzc19, jzc19, jzc19, jzc19, jzc19, jzc19, jzc28, jzc28, jzc28, jzc28, jzc28, jzc28, jzc28, jzc28, jzc28, jzc28, jzc28, jzc28, jzc28, jzc28, jzc43, jzc43, jzc43, jzc43, jzc43, jzc49, jzc49, jzc52, jzc52, jzc52, jzc56, jzc56, jzc59, jzc56, jzc62, jzc28, jzc28, jzc28, jzc28, jzc28, jzc69, jzc71, jzc73, jzc43, jzc76, jzc52, jzc52, jzc80, jzc80, jzc80, jzc84, jzc52, jzc52, jzc52, jzc52, jzc52, jzc52, jzc52, jzc93, jzc93, jzc52, jzc52, jzc98, jzc100, jzc93, jzc52, jzc52, jzc52, jzc52, jzc107, jzc109, jzc111, jzc100, jzc100, jzc100, jzc111, jzc111, jzc210]
set_option maxHeartbeats 4000000 in
set_option maxRecDepth 100000 in
theorem jzq721 (xs : Nat → Int32) (b0 b1 b2 b3 : Int32) (e : ((xs 1) >>> (16 &&& 31)) &&& 255 = b2) (h : jbn b2) {f : Nat} {q : jO × jH} (hq : jLoop (jRun ((4, xs) : jX) 2000 38) ((4, xs) : jX) jm248 f ((101, [(4, .int 24), (5, .int (b2)), (3, .int 3), (2, .int 0), (0, .ref 66), (1, .int (xs 1))], [], (jzv339 b0 b1 b2 b3)) : jS) = some q) : jLoop (jRun ((4, xs) : jX) 2000 38) ((4, xs) : jX) jm248 (f + 25) ((101, [(4, .int 16), (5, .int (b1)), (3, .int 3), (2, .int 0), (0, .ref 66), (1, .int (xs 1))], [], (jzv337 b0 b1 b2 b3)) : jS) = some q := by
  refine jl_s (S' := ((103, [(4, .int 16), (5, .int (b1)), (3, .int 3), (2, .int 0), (0, .ref 66), (1, .int (xs 1))], [.int 16], (jzv337 b0 b1 b2 b3)) : jS)) rfl ?_
  refine jl_s (S' := ((105, [(4, .int 16), (5, .int (b1)), (3, .int 3), (2, .int 0), (0, .ref 66), (1, .int (xs 1))], [.int 32, .int 16], (jzv337 b0 b1 b2 b3)) : jS)) rfl ?_
  refine jl_s (S' := ((108, [(4, .int 16), (5, .int (b1)), (3, .int 3), (2, .int 0), (0, .ref 66), (1, .int (xs 1))], [], (jzv337 b0 b1 b2 b3)) : jS)) rfl ?_
  refine jl_s (S' := ((109, [(4, .int 16), (5, .int (b1)), (3, .int 3), (2, .int 0), (0, .ref 66), (1, .int (xs 1))], [.int (xs 1)], (jzv337 b0 b1 b2 b3)) : jS)) rfl ?_
  refine jl_s (S' := ((111, [(4, .int 16), (5, .int (b1)), (3, .int 3), (2, .int 0), (0, .ref 66), (1, .int (xs 1))], [.int 16, .int (xs 1)], (jzv337 b0 b1 b2 b3)) : jS)) rfl ?_
  refine jl_s (S' := ((112, [(4, .int 16), (5, .int (b1)), (3, .int 3), (2, .int 0), (0, .ref 66), (1, .int (xs 1))], [.int ((xs 1) >>> (16 &&& 31))], (jzv337 b0 b1 b2 b3)) : jS)) rfl ?_
  refine jl_s (S' := ((115, [(4, .int 16), (5, .int (b1)), (3, .int 3), (2, .int 0), (0, .ref 66), (1, .int (xs 1))], [.int 255, .int ((xs 1) >>> (16 &&& 31))], (jzv337 b0 b1 b2 b3)) : jS)) rfl ?_
  refine jl_s (S' := ((116, [(4, .int 16), (5, .int (b1)), (3, .int 3), (2, .int 0), (0, .ref 66), (1, .int (xs 1))], [.int (((xs 1) >>> (16 &&& 31)) &&& 255)], (jzv337 b0 b1 b2 b3)) : jS)) rfl ?_
  rw [e]
  refine jl_s (S' := ((118, [(5, .int (b2)), (4, .int 16), (3, .int 3), (2, .int 0), (0, .ref 66), (1, .int (xs 1))], [], (jzv337 b0 b1 b2 b3)) : jS)) rfl ?_
  refine jl_s (S' := ((120, [(5, .int (b2)), (4, .int 16), (3, .int 3), (2, .int 0), (0, .ref 66), (1, .int (xs 1))], [.int (b2)], (jzv337 b0 b1 b2 b3)) : jS)) rfl ?_
  refine jl_iff (e := jm248) (o := 24) rfl (h.1) ?_
  refine jl_s (S' := ((124, [(5, .int (b2)), (4, .int 16), (3, .int 3), (2, .int 0), (0, .ref 66), (1, .int (xs 1))], [.ref 66], (jzv337 b0 b1 b2 b3)) : jS)) rfl ?_
  refine jl_s (S' := ((127, [(5, .int (b2)), (4, .int 16), (3, .int 3), (2, .int 0), (0, .ref 66), (1, .int (xs 1))], [.ref 67], (jzv337 b0 b1 b2 b3)) : jS)) rfl ?_
  refine jl_s (S' := ((128, [(5, .int (b2)), (4, .int 16), (3, .int 3), (2, .int 0), (0, .ref 66), (1, .int (xs 1))], [.ref 66, .ref 67], (jzv337 b0 b1 b2 b3)) : jS)) rfl ?_
  refine jl_s (S' := ((131, [(5, .int (b2)), (4, .int 16), (3, .int 3), (2, .int 0), (0, .ref 66), (1, .int (xs 1))], [.int 1, .ref 67], (jzv337 b0 b1 b2 b3)) : jS)) rfl ?_
  refine jl_s (S' := ((133, [(5, .int (b2)), (4, .int 16), (3, .int 3), (2, .int 0), (0, .ref 66), (1, .int (xs 1))], [.int (b2), .int 1, .ref 67], (jzv337 b0 b1 b2 b3)) : jS)) rfl ?_
  refine jl_s (S' := ((134, [(5, .int (b2)), (4, .int 16), (3, .int 3), (2, .int 0), (0, .ref 66), (1, .int (xs 1))], [], (jzv338 b0 b1 b2 b3)) : jS)) rfl ?_
  refine jl_s (S' := ((135, [(5, .int (b2)), (4, .int 16), (3, .int 3), (2, .int 0), (0, .ref 66), (1, .int (xs 1))], [.ref 66], (jzv338 b0 b1 b2 b3)) : jS)) rfl ?_
  refine jl_s (S' := ((136, [(5, .int (b2)), (4, .int 16), (3, .int 3), (2, .int 0), (0, .ref 66), (1, .int (xs 1))], [.ref 66, .ref 66], (jzv338 b0 b1 b2 b3)) : jS)) rfl ?_
  refine jl_s (S' := ((139, [(5, .int (b2)), (4, .int 16), (3, .int 3), (2, .int 0), (0, .ref 66), (1, .int (xs 1))], [.int 1, .ref 66], (jzv338 b0 b1 b2 b3)) : jS)) rfl ?_
  refine jl_s (S' := ((140, [(5, .int (b2)), (4, .int 16), (3, .int 3), (2, .int 0), (0, .ref 66), (1, .int (xs 1))], [.int 1, .int 1, .ref 66], (jzv338 b0 b1 b2 b3)) : jS)) rfl ?_
  refine jl_s (S' := ((141, [(5, .int (b2)), (4, .int 16), (3, .int 3), (2, .int 0), (0, .ref 66), (1, .int (xs 1))], [.int 2, .ref 66], (jzv338 b0 b1 b2 b3)) : jS)) rfl ?_
  refine jl_s (S' := ((144, [(5, .int (b2)), (4, .int 16), (3, .int 3), (2, .int 0), (0, .ref 66), (1, .int (xs 1))], [], (jzv339 b0 b1 b2 b3)) : jS)) rfl ?_
  refine jl_s (S' := ((147, [(4, .int 24), (5, .int (b2)), (3, .int 3), (2, .int 0), (0, .ref 66), (1, .int (xs 1))], [], (jzv339 b0 b1 b2 b3)) : jS)) rfl ?_
  refine jl_s (S' := ((101, [(4, .int 24), (5, .int (b2)), (3, .int 3), (2, .int 0), (0, .ref 66), (1, .int (xs 1))], [], (jzv339 b0 b1 b2 b3)) : jS)) rfl ?_
  exact hq
def jzc216 (b0 b1 b2 b3 : Int32) : jC := .inl (1, 3000, .inl (upd (upd (upd (fun _ => 0) 0 (b0)) 1 (b2)) 2 (b3)))
def jzv340 (b0 b1 b2 b3 : Int32) : jH := [jzc190, (jzc194 b0 b1 b2 b3), jzc206, (jzc216 b0 b1 b2 b3), jzc9, jzc9, jzc9, jzc9, jzc9, jzc17, jzc19, jzc19, jzc19, jzc19, jzc19, jzc19, jzc19, jzc19, jzc28, jzc28, jzc28, jzc28, jzc28, jzc28, jzc28, jzc28, jzc28, jzc28, jzc28, jzc28, jzc28, jzc28, jzc43, jzc43, jzc43, jzc43, jzc43, jzc49, jzc49, jzc52, jzc52, jzc52, jzc56, jzc56, jzc59, jzc56, jzc62, jzc28, jzc28, jzc28, jzc28, jzc28, jzc69, jzc71, jzc73, jzc43, jzc76, jzc52, jzc52, jzc80, jzc80, jzc80, jzc84, jzc52, jzc52, jzc52, jzc52, jzc52, jzc52, jzc52, jzc93, jzc93, jzc52, jzc52, jzc98, jzc100, jzc93, jzc52, jzc52, jzc52, jzc52, jzc107, jzc109, jzc111, jzc100, jzc100, jzc100, jzc111, jzc111, jzc210]
def jzv341 (b0 b1 b2 b3 : Int32) : jH := [jzc190, (jzc194 b0 b1 b2 b3), jzc212, (jzc216 b0 b1 b2 b3), jzc9, jzc9, jzc9, jzc9, jzc9, jzc17, jzc19, jzc19, jzc19, jzc19, jzc19, jzc19, jzc19, jzc19, jzc28, jzc28, jzc28, jzc28, jzc28, jzc28, jzc28, jzc28, jzc28, jzc28, jzc28, jzc28, jzc28, jzc28, jzc43, jzc43, jzc43, jzc43, jzc43, jzc49, jzc49, jzc52, jzc52, jzc52, jzc56, jzc56, jzc59, jzc56, jzc62, jzc28, jzc28, jzc28, jzc28, jzc28, jzc69, jzc71, jzc73, jzc43, jzc76, jzc52, jzc52, jzc80, jzc80, jzc80, jzc84, jzc52, jzc52, jzc52, jzc52, jzc52, jzc52, jzc52, jzc93, jzc93, jzc52, jzc52, jzc98, jzc100, jzc93, jzc52, jzc52, jzc52, jzc52, jzc107, jzc109, jzc111, jzc100, jzc100, jzc100, jzc111, jzc111, jzc210]
set_option maxHeartbeats 4000000 in
set_option maxRecDepth 100000 in
theorem jzq723 (xs : Nat → Int32) (b0 b1 b2 b3 : Int32) (e : ((xs 1) >>> (24 &&& 31)) &&& 255 = b3) (h : jbn b3) {f : Nat} {q : jO × jH} (hq : jLoop (jRun ((4, xs) : jX) 2000 38) ((4, xs) : jX) jm248 f ((101, [(4, .int 32), (5, .int (b3)), (3, .int 3), (2, .int 0), (0, .ref 66), (1, .int (xs 1))], [], (jzv341 b0 b1 b2 b3)) : jS) = some q) : jLoop (jRun ((4, xs) : jX) 2000 38) ((4, xs) : jX) jm248 (f + 25) ((101, [(4, .int 24), (5, .int (b2)), (3, .int 3), (2, .int 0), (0, .ref 66), (1, .int (xs 1))], [], (jzv339 b0 b1 b2 b3)) : jS) = some q := by
  refine jl_s (S' := ((103, [(4, .int 24), (5, .int (b2)), (3, .int 3), (2, .int 0), (0, .ref 66), (1, .int (xs 1))], [.int 24], (jzv339 b0 b1 b2 b3)) : jS)) rfl ?_
  refine jl_s (S' := ((105, [(4, .int 24), (5, .int (b2)), (3, .int 3), (2, .int 0), (0, .ref 66), (1, .int (xs 1))], [.int 32, .int 24], (jzv339 b0 b1 b2 b3)) : jS)) rfl ?_
  refine jl_s (S' := ((108, [(4, .int 24), (5, .int (b2)), (3, .int 3), (2, .int 0), (0, .ref 66), (1, .int (xs 1))], [], (jzv339 b0 b1 b2 b3)) : jS)) rfl ?_
  refine jl_s (S' := ((109, [(4, .int 24), (5, .int (b2)), (3, .int 3), (2, .int 0), (0, .ref 66), (1, .int (xs 1))], [.int (xs 1)], (jzv339 b0 b1 b2 b3)) : jS)) rfl ?_
  refine jl_s (S' := ((111, [(4, .int 24), (5, .int (b2)), (3, .int 3), (2, .int 0), (0, .ref 66), (1, .int (xs 1))], [.int 24, .int (xs 1)], (jzv339 b0 b1 b2 b3)) : jS)) rfl ?_
  refine jl_s (S' := ((112, [(4, .int 24), (5, .int (b2)), (3, .int 3), (2, .int 0), (0, .ref 66), (1, .int (xs 1))], [.int ((xs 1) >>> (24 &&& 31))], (jzv339 b0 b1 b2 b3)) : jS)) rfl ?_
  refine jl_s (S' := ((115, [(4, .int 24), (5, .int (b2)), (3, .int 3), (2, .int 0), (0, .ref 66), (1, .int (xs 1))], [.int 255, .int ((xs 1) >>> (24 &&& 31))], (jzv339 b0 b1 b2 b3)) : jS)) rfl ?_
  refine jl_s (S' := ((116, [(4, .int 24), (5, .int (b2)), (3, .int 3), (2, .int 0), (0, .ref 66), (1, .int (xs 1))], [.int (((xs 1) >>> (24 &&& 31)) &&& 255)], (jzv339 b0 b1 b2 b3)) : jS)) rfl ?_
  rw [e]
  refine jl_s (S' := ((118, [(5, .int (b3)), (4, .int 24), (3, .int 3), (2, .int 0), (0, .ref 66), (1, .int (xs 1))], [], (jzv339 b0 b1 b2 b3)) : jS)) rfl ?_
  refine jl_s (S' := ((120, [(5, .int (b3)), (4, .int 24), (3, .int 3), (2, .int 0), (0, .ref 66), (1, .int (xs 1))], [.int (b3)], (jzv339 b0 b1 b2 b3)) : jS)) rfl ?_
  refine jl_iff (e := jm248) (o := 24) rfl (h.1) ?_
  refine jl_s (S' := ((124, [(5, .int (b3)), (4, .int 24), (3, .int 3), (2, .int 0), (0, .ref 66), (1, .int (xs 1))], [.ref 66], (jzv339 b0 b1 b2 b3)) : jS)) rfl ?_
  refine jl_s (S' := ((127, [(5, .int (b3)), (4, .int 24), (3, .int 3), (2, .int 0), (0, .ref 66), (1, .int (xs 1))], [.ref 67], (jzv339 b0 b1 b2 b3)) : jS)) rfl ?_
  refine jl_s (S' := ((128, [(5, .int (b3)), (4, .int 24), (3, .int 3), (2, .int 0), (0, .ref 66), (1, .int (xs 1))], [.ref 66, .ref 67], (jzv339 b0 b1 b2 b3)) : jS)) rfl ?_
  refine jl_s (S' := ((131, [(5, .int (b3)), (4, .int 24), (3, .int 3), (2, .int 0), (0, .ref 66), (1, .int (xs 1))], [.int 2, .ref 67], (jzv339 b0 b1 b2 b3)) : jS)) rfl ?_
  refine jl_s (S' := ((133, [(5, .int (b3)), (4, .int 24), (3, .int 3), (2, .int 0), (0, .ref 66), (1, .int (xs 1))], [.int (b3), .int 2, .ref 67], (jzv339 b0 b1 b2 b3)) : jS)) rfl ?_
  refine jl_s (S' := ((134, [(5, .int (b3)), (4, .int 24), (3, .int 3), (2, .int 0), (0, .ref 66), (1, .int (xs 1))], [], (jzv340 b0 b1 b2 b3)) : jS)) rfl ?_
  refine jl_s (S' := ((135, [(5, .int (b3)), (4, .int 24), (3, .int 3), (2, .int 0), (0, .ref 66), (1, .int (xs 1))], [.ref 66], (jzv340 b0 b1 b2 b3)) : jS)) rfl ?_
  refine jl_s (S' := ((136, [(5, .int (b3)), (4, .int 24), (3, .int 3), (2, .int 0), (0, .ref 66), (1, .int (xs 1))], [.ref 66, .ref 66], (jzv340 b0 b1 b2 b3)) : jS)) rfl ?_
  refine jl_s (S' := ((139, [(5, .int (b3)), (4, .int 24), (3, .int 3), (2, .int 0), (0, .ref 66), (1, .int (xs 1))], [.int 2, .ref 66], (jzv340 b0 b1 b2 b3)) : jS)) rfl ?_
  refine jl_s (S' := ((140, [(5, .int (b3)), (4, .int 24), (3, .int 3), (2, .int 0), (0, .ref 66), (1, .int (xs 1))], [.int 1, .int 2, .ref 66], (jzv340 b0 b1 b2 b3)) : jS)) rfl ?_
  refine jl_s (S' := ((141, [(5, .int (b3)), (4, .int 24), (3, .int 3), (2, .int 0), (0, .ref 66), (1, .int (xs 1))], [.int 3, .ref 66], (jzv340 b0 b1 b2 b3)) : jS)) rfl ?_
  refine jl_s (S' := ((144, [(5, .int (b3)), (4, .int 24), (3, .int 3), (2, .int 0), (0, .ref 66), (1, .int (xs 1))], [], (jzv341 b0 b1 b2 b3)) : jS)) rfl ?_
  refine jl_s (S' := ((147, [(4, .int 32), (5, .int (b3)), (3, .int 3), (2, .int 0), (0, .ref 66), (1, .int (xs 1))], [], (jzv341 b0 b1 b2 b3)) : jS)) rfl ?_
  refine jl_s (S' := ((101, [(4, .int 32), (5, .int (b3)), (3, .int 3), (2, .int 0), (0, .ref 66), (1, .int (xs 1))], [], (jzv341 b0 b1 b2 b3)) : jS)) rfl ?_
  exact hq
set_option maxHeartbeats 4000000 in
set_option maxRecDepth 100000 in
theorem jzq725 (xs : Nat → Int32) (b0 b1 b2 b3 : Int32) {f : Nat} : jLoop (jRun ((4, xs) : jX) 2000 38) ((4, xs) : jX) jm248 (f + 6) ((101, [(4, .int 32), (5, .int (b3)), (3, .int 3), (2, .int 0), (0, .ref 66), (1, .int (xs 1))], [], (jzv341 b0 b1 b2 b3)) : jS) = some (.inl (some (.int 3)), (jzv341 b0 b1 b2 b3)) := by
  refine jl_s (S' := ((103, [(4, .int 32), (5, .int (b3)), (3, .int 3), (2, .int 0), (0, .ref 66), (1, .int (xs 1))], [.int 32], (jzv341 b0 b1 b2 b3)) : jS)) rfl ?_
  refine jl_s (S' := ((105, [(4, .int 32), (5, .int (b3)), (3, .int 3), (2, .int 0), (0, .ref 66), (1, .int (xs 1))], [.int 32, .int 32], (jzv341 b0 b1 b2 b3)) : jS)) rfl ?_
  refine jl_s (S' := ((150, [(4, .int 32), (5, .int (b3)), (3, .int 3), (2, .int 0), (0, .ref 66), (1, .int (xs 1))], [], (jzv341 b0 b1 b2 b3)) : jS)) rfl ?_
  refine jl_s (S' := ((151, [(4, .int 32), (5, .int (b3)), (3, .int 3), (2, .int 0), (0, .ref 66), (1, .int (xs 1))], [.ref 66], (jzv341 b0 b1 b2 b3)) : jS)) rfl ?_
  refine jl_s (S' := ((154, [(4, .int 32), (5, .int (b3)), (3, .int 3), (2, .int 0), (0, .ref 66), (1, .int (xs 1))], [.int 3], (jzv341 b0 b1 b2 b3)) : jS)) rfl ?_
  exact jl_r (r := (.inl (some (.int 3)), (jzv341 b0 b1 b2 b3))) rfl
set_option maxHeartbeats 4000000 in
set_option maxRecDepth 100000 in
theorem jzrp_VZVV (xs : Nat → Int32) (b0 b1 b2 b3 : Int32) (e0 : ((xs 1) >>> (0 &&& 31)) &&& 255 = b0) (e1 : ((xs 1) >>> (8 &&& 31)) &&& 255 = b1) (e2 : ((xs 1) >>> (16 &&& 31)) &&& 255 = b2) (e3 : ((xs 1) >>> (24 &&& 31)) &&& 255 = b3) (h0 : jbv b0) (h1 : jbz b1) (h2 : jbv b2) (h3 : jbv b3) : jRun ((4, xs) : jX) 2000 39 248 [.ref 66, .int (xs 1)] (jzv335 b0 b1 b2 b3) = some (.inl (some (.int 3)), (jzv341 b0 b1 b2 b3)) := by
  refine jr_run (e := jm248) rfl (Nat.le_of_ble_eq_true rfl) ?_
  refine jzq506 xs b0 b1 b2 b3 _ ?_
  refine jzq662 xs b0 b1 b2 b3 _ e0 h0 ?_
  refine jzq664 xs b0 b1 b2 b3 _ e1 h1 ?_
  refine jzq624 xs b0 b1 b2 b3 _ e2 h2 ?_
  refine jzq644 xs b0 b1 b2 b3 _ e3 h3 ?_
  refine jzq715 xs b0 b1 b2 b3 ?_
  refine jzq717 xs b0 b1 b2 b3 e0 h0.1 ?_
  refine jzq719 xs b0 b1 b2 b3 e1 h1 ?_
  refine jzq721 xs b0 b1 b2 b3 e2 h2.1 ?_
  refine jzq723 xs b0 b1 b2 b3 e3 h3.1 ?_
  exact jzq725 xs b0 b1 b2 b3
set_option maxHeartbeats 4000000 in
set_option maxRecDepth 100000 in
theorem jzl726 (xs : Nat → Int32) (hop : xs 0 &&& 31 = 0) (b0 b1 b2 b3 : Int32) (e0 : ((Int32.toUInt32 (xs 1) >>> (Int32.toUInt32 0 &&& Int32.toUInt32 31)).toInt32) &&& 255 = b0) (e1 : ((Int32.toUInt32 (xs 1) >>> (Int32.toUInt32 8 &&& Int32.toUInt32 31)).toInt32) &&& 255 = b1) (e2 : ((Int32.toUInt32 (xs 1) >>> (Int32.toUInt32 16 &&& Int32.toUInt32 31)).toInt32) &&& 255 = b2) (e3 : ((Int32.toUInt32 (xs 1) >>> (Int32.toUInt32 24 &&& Int32.toUInt32 31)).toInt32) &&& 255 = b3) (g0 : ((xs 1) >>> (0 &&& 31)) &&& 255 = b0) (g1 : ((xs 1) >>> (8 &&& 31)) &&& 255 = b1) (g2 : ((xs 1) >>> (16 &&& 31)) &&& 255 = b2) (g3 : ((xs 1) >>> (24 &&& 31)) &&& 255 = b3) (h0 : jbv b0) (h1 : jbz b1) (h2 : jbv b2) (h3 : jbv b3) : jRun ((4, xs) : jX) 2000 39 244 [.ref 66] (jzv341 b0 b1 b2 b3) = some (.inl (some (.int 0)), (jzv341 b0 b1 b2 b3)) := by
  refine jr_run (e := jm244) rfl (Nat.le_of_ble_eq_true rfl) ?_
  refine jl_s (S' := ((1, [(0, .ref 66)], [.ref 66], (jzv341 b0 b1 b2 b3)) : jS)) rfl ?_
  refine jl_s (S' := ((4, [(0, .ref 66)], [.int 0], (jzv341 b0 b1 b2 b3)) : jS)) rfl ?_
  exact jl_r (r := (.inl (some (.int 0)), (jzv341 b0 b1 b2 b3))) rfl
set_option maxHeartbeats 4000000 in
set_option maxRecDepth 100000 in
theorem jzl727 (xs : Nat → Int32) (hop : xs 0 &&& 31 = 0) (b0 b1 b2 b3 : Int32) (e0 : ((Int32.toUInt32 (xs 1) >>> (Int32.toUInt32 0 &&& Int32.toUInt32 31)).toInt32) &&& 255 = b0) (e1 : ((Int32.toUInt32 (xs 1) >>> (Int32.toUInt32 8 &&& Int32.toUInt32 31)).toInt32) &&& 255 = b1) (e2 : ((Int32.toUInt32 (xs 1) >>> (Int32.toUInt32 16 &&& Int32.toUInt32 31)).toInt32) &&& 255 = b2) (e3 : ((Int32.toUInt32 (xs 1) >>> (Int32.toUInt32 24 &&& Int32.toUInt32 31)).toInt32) &&& 255 = b3) (g0 : ((xs 1) >>> (0 &&& 31)) &&& 255 = b0) (g1 : ((xs 1) >>> (8 &&& 31)) &&& 255 = b1) (g2 : ((xs 1) >>> (16 &&& 31)) &&& 255 = b2) (g3 : ((xs 1) >>> (24 &&& 31)) &&& 255 = b3) (h0 : jbv b0) (h1 : jbz b1) (h2 : jbv b2) (h3 : jbv b3) : jLoop (jRun ((4, xs) : jX) 2000 39) ((4, xs) : jX) jm18 1000 ((23, [(4, .int 0), (3, .ref 153), (2, .ref 66), (1, .ref 64), (0, .ref 63)], [], jzv181) : jS) = some (.inl (some (.int 1)), (jzv341 b0 b1 b2 b3)) := by
  refine jl_s (S' := ((25, [(4, .int 0), (3, .ref 153), (2, .ref 66), (1, .ref 64), (0, .ref 63)], [.int 0], jzv181) : jS)) rfl ?_
  refine jl_s (S' := ((26, [(4, .int 0), (3, .ref 153), (2, .ref 66), (1, .ref 64), (0, .ref 63)], [.ref 63, .int 0], jzv181) : jS)) rfl ?_
  refine jl_s (S' := ((27, [(4, .int 0), (3, .ref 153), (2, .ref 66), (1, .ref 64), (0, .ref 63)], [.int 4, .int 0], jzv181) : jS)) rfl ?_
  refine jl_s (S' := ((28, [(4, .int 0), (3, .ref 153), (2, .ref 66), (1, .ref 64), (0, .ref 63)], [.int 4, .int 4, .int 0], jzv181) : jS)) rfl ?_
  refine jl_s (S' := ((29, [(4, .int 0), (3, .ref 153), (2, .ref 66), (1, .ref 64), (0, .ref 63)], [.int 0, .int 0], jzv181) : jS)) rfl ?_
  refine jl_s (S' := ((32, [(4, .int 0), (3, .ref 153), (2, .ref 66), (1, .ref 64), (0, .ref 63)], [], jzv181) : jS)) rfl ?_
  refine jl_s (S' := ((33, [(4, .int 0), (3, .ref 153), (2, .ref 66), (1, .ref 64), (0, .ref 63)], [.ref 63], jzv181) : jS)) rfl ?_
  refine jl_s (S' := ((35, [(4, .int 0), (3, .ref 153), (2, .ref 66), (1, .ref 64), (0, .ref 63)], [.int 0, .ref 63], jzv181) : jS)) rfl ?_
  refine jl_s (S' := ((36, [(4, .int 0), (3, .ref 153), (2, .ref 66), (1, .ref 64), (0, .ref 63)], [.int (xs 0)], jzv181) : jS)) rfl ?_
  refine jl_s (S' := ((38, [(4, .int 0), (3, .ref 153), (2, .ref 66), (1, .ref 64), (0, .ref 63)], [.int 31, .int (xs 0)], jzv181) : jS)) rfl ?_
  refine jl_s (S' := ((39, [(4, .int 0), (3, .ref 153), (2, .ref 66), (1, .ref 64), (0, .ref 63)], [.int ((xs 0) &&& 31)], jzv181) : jS)) rfl ?_
  rw [hop]
  refine jl_s (S' := ((128, [(4, .int 0), (3, .ref 153), (2, .ref 66), (1, .ref 64), (0, .ref 63)], [], jzv181) : jS)) rfl ?_
  refine jl_s (S' := ((129, [(4, .int 0), (3, .ref 153), (2, .ref 66), (1, .ref 64), (0, .ref 63)], [.ref 64], jzv181) : jS)) rfl ?_
  refine jl_s (S' := ((130, [(4, .int 0), (3, .ref 153), (2, .ref 66), (1, .ref 64), (0, .ref 63)], [.ref 63, .ref 64], jzv181) : jS)) rfl ?_
  refine jl_s (S' := ((132, [(4, .int 0), (3, .ref 153), (2, .ref 66), (1, .ref 64), (0, .ref 63)], [.int 0, .ref 63, .ref 64], jzv181) : jS)) rfl ?_
  refine jl_s (S' := ((133, [(4, .int 0), (3, .ref 153), (2, .ref 66), (1, .ref 64), (0, .ref 63)], [.int 1, .int 0, .ref 63, .ref 64], jzv181) : jS)) rfl ?_
  refine jl_s (S' := ((134, [(4, .int 0), (3, .ref 153), (2, .ref 66), (1, .ref 64), (0, .ref 63)], [.int 1, .ref 63, .ref 64], jzv181) : jS)) rfl ?_
  refine jl_s (S' := ((135, [(4, .int 0), (3, .ref 153), (2, .ref 66), (1, .ref 64), (0, .ref 63)], [.int (xs 1), .ref 64], jzv181) : jS)) rfl ?_
  refine jl_s (S' := ((136, [(4, .int 0), (3, .ref 153), (2, .ref 66), (1, .ref 64), (0, .ref 63)], [.ref 153, .int (xs 1), .ref 64], jzv181) : jS)) rfl ?_
  refine jl_c (t := 0) (as := [.ref 64, .int (xs 1), .ref 153]) (V := jzv181) (r := (.inl (some (.int 0)), (jzv335 b0 b1 b2 b3))) (S' := ((139, [(4, .int 0), (3, .ref 153), (2, .ref 66), (1, .ref 64), (0, .ref 63)], [.int 0], (jzv335 b0 b1 b2 b3)) : jS)) rfl (jzl712 xs hop b0 b1 b2 b3 e0 e1 e2 e3 g0 g1 g2 g3 h0 h1 h2 h3) rfl ?_
  refine jl_s (S' := ((141, [(5, .int 0), (4, .int 0), (3, .ref 153), (2, .ref 66), (1, .ref 64), (0, .ref 63)], [], (jzv335 b0 b1 b2 b3)) : jS)) rfl ?_
  refine jl_s (S' := ((142, [(5, .int 0), (4, .int 0), (3, .ref 153), (2, .ref 66), (1, .ref 64), (0, .ref 63)], [.ref 66], (jzv335 b0 b1 b2 b3)) : jS)) rfl ?_
  refine jl_s (S' := ((143, [(5, .int 0), (4, .int 0), (3, .ref 153), (2, .ref 66), (1, .ref 64), (0, .ref 63)], [.ref 63, .ref 66], (jzv335 b0 b1 b2 b3)) : jS)) rfl ?_
  refine jl_s (S' := ((145, [(5, .int 0), (4, .int 0), (3, .ref 153), (2, .ref 66), (1, .ref 64), (0, .ref 63)], [.int 0, .ref 63, .ref 66], (jzv335 b0 b1 b2 b3)) : jS)) rfl ?_
  refine jl_s (S' := ((146, [(5, .int 0), (4, .int 0), (3, .ref 153), (2, .ref 66), (1, .ref 64), (0, .ref 63)], [.int 1, .int 0, .ref 63, .ref 66], (jzv335 b0 b1 b2 b3)) : jS)) rfl ?_
  refine jl_s (S' := ((147, [(5, .int 0), (4, .int 0), (3, .ref 153), (2, .ref 66), (1, .ref 64), (0, .ref 63)], [.int 1, .ref 63, .ref 66], (jzv335 b0 b1 b2 b3)) : jS)) rfl ?_
  refine jl_s (S' := ((148, [(5, .int 0), (4, .int 0), (3, .ref 153), (2, .ref 66), (1, .ref 64), (0, .ref 63)], [.int (xs 1), .ref 66], (jzv335 b0 b1 b2 b3)) : jS)) rfl ?_
  refine jl_c (t := 248) (as := [.ref 66, .int (xs 1)]) (V := (jzv335 b0 b1 b2 b3)) (r := (.inl (some (.int 3)), (jzv341 b0 b1 b2 b3))) (S' := ((151, [(5, .int 0), (4, .int 0), (3, .ref 153), (2, .ref 66), (1, .ref 64), (0, .ref 63)], [.int 3], (jzv341 b0 b1 b2 b3)) : jS)) rfl (jzrp_VZVV xs b0 b1 b2 b3 g0 g1 g2 g3 h0 h1 h2 h3 ) rfl ?_
  refine jl_s (S' := ((153, [(6, .int 3), (5, .int 0), (4, .int 0), (3, .ref 153), (2, .ref 66), (1, .ref 64), (0, .ref 63)], [], (jzv341 b0 b1 b2 b3)) : jS)) rfl ?_
  refine jl_s (S' := ((154, [(6, .int 3), (5, .int 0), (4, .int 0), (3, .ref 153), (2, .ref 66), (1, .ref 64), (0, .ref 63)], [.ref 66], (jzv341 b0 b1 b2 b3)) : jS)) rfl ?_
  refine jl_c (t := 244) (as := [.ref 66]) (V := (jzv341 b0 b1 b2 b3)) (r := (.inl (some (.int 0)), (jzv341 b0 b1 b2 b3))) (S' := ((157, [(6, .int 3), (5, .int 0), (4, .int 0), (3, .ref 153), (2, .ref 66), (1, .ref 64), (0, .ref 63)], [.int 0], (jzv341 b0 b1 b2 b3)) : jS)) rfl (jzl726 xs hop b0 b1 b2 b3 e0 e1 e2 e3 g0 g1 g2 g3 h0 h1 h2 h3) rfl ?_
  refine jl_s (S' := ((159, [(6, .int 3), (5, .int 0), (4, .int 0), (3, .ref 153), (2, .ref 66), (1, .ref 64), (0, .ref 63)], [.int 0, .int 0], (jzv341 b0 b1 b2 b3)) : jS)) rfl ?_
  refine jl_s (S' := ((164, [(6, .int 3), (5, .int 0), (4, .int 0), (3, .ref 153), (2, .ref 66), (1, .ref 64), (0, .ref 63)], [], (jzv341 b0 b1 b2 b3)) : jS)) rfl ?_
  refine jl_s (S' := ((166, [(6, .int 3), (5, .int 0), (4, .int 0), (3, .ref 153), (2, .ref 66), (1, .ref 64), (0, .ref 63)], [.int 0], (jzv341 b0 b1 b2 b3)) : jS)) rfl ?_
  refine jl_s (S' := ((169, [(6, .int 3), (5, .int 0), (4, .int 0), (3, .ref 153), (2, .ref 66), (1, .ref 64), (0, .ref 63)], [], (jzv341 b0 b1 b2 b3)) : jS)) rfl ?_
  refine jl_s (S' := ((170, [(6, .int 3), (5, .int 0), (4, .int 0), (3, .ref 153), (2, .ref 66), (1, .ref 64), (0, .ref 63)], [.ref 153], (jzv341 b0 b1 b2 b3)) : jS)) rfl ?_
  refine jl_s (S' := ((171, [(6, .int 3), (5, .int 0), (4, .int 0), (3, .ref 153), (2, .ref 66), (1, .ref 64), (0, .ref 63)], [.int 0, .ref 153], (jzv341 b0 b1 b2 b3)) : jS)) rfl ?_
  refine jl_s (S' := ((172, [(6, .int 3), (5, .int 0), (4, .int 0), (3, .ref 153), (2, .ref 66), (1, .ref 64), (0, .ref 63)], [.long 3], (jzv341 b0 b1 b2 b3)) : jS)) rfl ?_
  refine jl_s (S' := ((174, [(6, .int 3), (5, .int 0), (4, .int 0), (3, .ref 153), (2, .ref 66), (1, .ref 64), (0, .ref 63)], [.int 3, .long 3], (jzv341 b0 b1 b2 b3)) : jS)) rfl ?_
  refine jl_s (S' := ((175, [(6, .int 3), (5, .int 0), (4, .int 0), (3, .ref 153), (2, .ref 66), (1, .ref 64), (0, .ref 63)], [.long 3, .long 3], (jzv341 b0 b1 b2 b3)) : jS)) rfl ?_
  refine jl_s (S' := ((176, [(6, .int 3), (5, .int 0), (4, .int 0), (3, .ref 153), (2, .ref 66), (1, .ref 64), (0, .ref 63)], [.int 0], (jzv341 b0 b1 b2 b3)) : jS)) rfl ?_
  refine jl_s (S' := ((181, [(6, .int 3), (5, .int 0), (4, .int 0), (3, .ref 153), (2, .ref 66), (1, .ref 64), (0, .ref 63)], [], (jzv341 b0 b1 b2 b3)) : jS)) rfl ?_
  refine jl_s (S' := ((1193, [(6, .int 3), (5, .int 0), (4, .int 0), (3, .ref 153), (2, .ref 66), (1, .ref 64), (0, .ref 63)], [], (jzv341 b0 b1 b2 b3)) : jS)) rfl ?_
  refine jl_s (S' := ((1196, [(4, .int 4), (6, .int 3), (5, .int 0), (3, .ref 153), (2, .ref 66), (1, .ref 64), (0, .ref 63)], [], (jzv341 b0 b1 b2 b3)) : jS)) rfl ?_
  refine jl_s (S' := ((23, [(4, .int 4), (6, .int 3), (5, .int 0), (3, .ref 153), (2, .ref 66), (1, .ref 64), (0, .ref 63)], [], (jzv341 b0 b1 b2 b3)) : jS)) rfl ?_
  refine jl_s (S' := ((25, [(4, .int 4), (6, .int 3), (5, .int 0), (3, .ref 153), (2, .ref 66), (1, .ref 64), (0, .ref 63)], [.int 4], (jzv341 b0 b1 b2 b3)) : jS)) rfl ?_
  refine jl_s (S' := ((26, [(4, .int 4), (6, .int 3), (5, .int 0), (3, .ref 153), (2, .ref 66), (1, .ref 64), (0, .ref 63)], [.ref 63, .int 4], (jzv341 b0 b1 b2 b3)) : jS)) rfl ?_
  refine jl_s (S' := ((27, [(4, .int 4), (6, .int 3), (5, .int 0), (3, .ref 153), (2, .ref 66), (1, .ref 64), (0, .ref 63)], [.int 4, .int 4], (jzv341 b0 b1 b2 b3)) : jS)) rfl ?_
  refine jl_s (S' := ((28, [(4, .int 4), (6, .int 3), (5, .int 0), (3, .ref 153), (2, .ref 66), (1, .ref 64), (0, .ref 63)], [.int 4, .int 4, .int 4], (jzv341 b0 b1 b2 b3)) : jS)) rfl ?_
  refine jl_s (S' := ((29, [(4, .int 4), (6, .int 3), (5, .int 0), (3, .ref 153), (2, .ref 66), (1, .ref 64), (0, .ref 63)], [.int 0, .int 4], (jzv341 b0 b1 b2 b3)) : jS)) rfl ?_
  refine jl_s (S' := ((1199, [(4, .int 4), (6, .int 3), (5, .int 0), (3, .ref 153), (2, .ref 66), (1, .ref 64), (0, .ref 63)], [], (jzv341 b0 b1 b2 b3)) : jS)) rfl ?_
  refine jl_s (S' := ((1200, [(4, .int 4), (6, .int 3), (5, .int 0), (3, .ref 153), (2, .ref 66), (1, .ref 64), (0, .ref 63)], [.int 1], (jzv341 b0 b1 b2 b3)) : jS)) rfl ?_
  exact jl_r (r := (.inl (some (.int 1)), (jzv341 b0 b1 b2 b3))) rfl
-- op 0 VZVV: jzl727
def jzv342 (b0 b1 b2 b3 : Int32) : jH := [jzc185, (jzc195 b0 b1 b2 b3), jzc117, jzc7, jzc9, jzc9, jzc9, jzc9, jzc9, jzc17, jzc19, jzc19, jzc19, jzc19, jzc19, jzc19, jzc19, jzc19, jzc28, jzc28, jzc28, jzc28, jzc28, jzc28, jzc28, jzc28, jzc28, jzc28, jzc28, jzc28, jzc28, jzc28, jzc43, jzc43, jzc43, jzc43, jzc43, jzc49, jzc49, jzc52, jzc52, jzc52, jzc56, jzc56, jzc59, jzc56, jzc62, jzc28, jzc28, jzc28, jzc28, jzc28, jzc69, jzc71, jzc73, jzc43, jzc76, jzc52, jzc52, jzc80, jzc80, jzc80, jzc84, jzc52, jzc52, jzc52, jzc52, jzc52, jzc52, jzc52, jzc93, jzc93, jzc52, jzc52, jzc98, jzc100, jzc93, jzc52, jzc52, jzc52, jzc52, jzc107, jzc109, jzc111, jzc100, jzc100, jzc100, jzc111, jzc111, jzc204]
set_option maxHeartbeats 4000000 in
set_option maxRecDepth 100000 in
theorem jzl728 (xs : Nat → Int32) (hop : xs 0 &&& 31 = 0) (b0 b1 b2 b3 : Int32) (e0 : ((Int32.toUInt32 (xs 1) >>> (Int32.toUInt32 0 &&& Int32.toUInt32 31)).toInt32) &&& 255 = b0) (e1 : ((Int32.toUInt32 (xs 1) >>> (Int32.toUInt32 8 &&& Int32.toUInt32 31)).toInt32) &&& 255 = b1) (e2 : ((Int32.toUInt32 (xs 1) >>> (Int32.toUInt32 16 &&& Int32.toUInt32 31)).toInt32) &&& 255 = b2) (e3 : ((Int32.toUInt32 (xs 1) >>> (Int32.toUInt32 24 &&& Int32.toUInt32 31)).toInt32) &&& 255 = b3) (g0 : ((xs 1) >>> (0 &&& 31)) &&& 255 = b0) (g1 : ((xs 1) >>> (8 &&& 31)) &&& 255 = b1) (g2 : ((xs 1) >>> (16 &&& 31)) &&& 255 = b2) (g3 : ((xs 1) >>> (24 &&& 31)) &&& 255 = b3) (h0 : jbv b0) (h1 : jbv b1) (h2 : jbz b2) (h3 : jbz b3) : jRun ((4, xs) : jX) 2000 39 0 [.ref 64, .int (xs 1), .ref 153] jzv181 = some (.inl (some (.int 0)), (jzv342 b0 b1 b2 b3)) := by
  refine jr_run (e := jm0) rfl (Nat.le_of_ble_eq_true rfl) ?_
  refine jl_s (S' := ((1, [(0, .ref 64), (1, .int (xs 1)), (2, .ref 153)], [.ref 153], jzv181) : jS)) rfl ?_
  refine jl_s (S' := ((2, [(0, .ref 64), (1, .int (xs 1)), (2, .ref 153)], [.int 0, .ref 153], jzv181) : jS)) rfl ?_
  refine jl_s (S' := ((3, [(0, .ref 64), (1, .int (xs 1)), (2, .ref 153)], [.ref 64, .int 0, .ref 153], jzv181) : jS)) rfl ?_
  refine jl_s (S' := ((4, [(0, .ref 64), (1, .int (xs 1)), (2, .ref 153)], [.int (xs 1), .ref 64, .int 0, .ref 153], jzv181) : jS)) rfl ?_
  refine jl_c (t := 20) (as := [.ref 64, .int (xs 1)]) (V := jzv181) (r := (.inl (some (.int 2)), (jzv284 b0 b1 b2 b3))) (S' := ((7, [(0, .ref 64), (1, .int (xs 1)), (2, .ref 153)], [.int 2, .int 0, .ref 153], (jzv284 b0 b1 b2 b3)) : jS)) rfl (jzcp_VVZZ xs b0 b1 b2 b3 e0 e1 e2 e3 h0 h1 h2 h3 ) rfl ?_
  refine jl_s (S' := ((8, [(0, .ref 64), (1, .int (xs 1)), (2, .ref 153)], [.long 2, .int 0, .ref 153], (jzv284 b0 b1 b2 b3)) : jS)) rfl ?_
  refine jl_s (S' := ((9, [(0, .ref 64), (1, .int (xs 1)), (2, .ref 153)], [], (jzv342 b0 b1 b2 b3)) : jS)) rfl ?_
  refine jl_s (S' := ((18, [(0, .ref 64), (1, .int (xs 1)), (2, .ref 153)], [], (jzv342 b0 b1 b2 b3)) : jS)) rfl ?_
  refine jl_s (S' := ((19, [(0, .ref 64), (1, .int (xs 1)), (2, .ref 153)], [.int 0], (jzv342 b0 b1 b2 b3)) : jS)) rfl ?_
  exact jl_r (r := (.inl (some (.int 0)), (jzv342 b0 b1 b2 b3))) rfl
set_option maxHeartbeats 4000000 in
set_option maxRecDepth 100000 in
theorem jzq730 (xs : Nat → Int32) (b0 b1 b2 b3 : Int32) (V : jH) (e : ((xs 1) >>> (8 &&& 31)) &&& 255 = b1) (h : jbv b1) {f : Nat} {q : jO × jH} (hq : jLoop (jRun ((4, xs) : jX) 2000 38) ((4, xs) : jX) jm248 f ((7, [(4, .int 16), (3, .int 2), (2, .int 0), (5, .int (b1)), (0, .ref 66), (1, .int (xs 1))], [], V) : jS) = some q) : jLoop (jRun ((4, xs) : jX) 2000 38) ((4, xs) : jX) jm248 (f + 27) ((7, [(4, .int 8), (3, .int 1), (2, .int 0), (5, .int (b0)), (0, .ref 66), (1, .int (xs 1))], [], V) : jS) = some q := by
  refine jl_s (S' := ((9, [(4, .int 8), (3, .int 1), (2, .int 0), (5, .int (b0)), (0, .ref 66), (1, .int (xs 1))], [.int 8], V) : jS)) rfl ?_
  refine jl_s (S' := ((11, [(4, .int 8), (3, .int 1), (2, .int 0), (5, .int (b0)), (0, .ref 66), (1, .int (xs 1))], [.int 32, .int 8], V) : jS)) rfl ?_
  refine jl_s (S' := ((14, [(4, .int 8), (3, .int 1), (2, .int 0), (5, .int (b0)), (0, .ref 66), (1, .int (xs 1))], [], V) : jS)) rfl ?_
  refine jl_s (S' := ((15, [(4, .int 8), (3, .int 1), (2, .int 0), (5, .int (b0)), (0, .ref 66), (1, .int (xs 1))], [.int (xs 1)], V) : jS)) rfl ?_
  refine jl_s (S' := ((17, [(4, .int 8), (3, .int 1), (2, .int 0), (5, .int (b0)), (0, .ref 66), (1, .int (xs 1))], [.int 8, .int (xs 1)], V) : jS)) rfl ?_
  refine jl_s (S' := ((18, [(4, .int 8), (3, .int 1), (2, .int 0), (5, .int (b0)), (0, .ref 66), (1, .int (xs 1))], [.int ((xs 1) >>> (8 &&& 31))], V) : jS)) rfl ?_
  refine jl_s (S' := ((21, [(4, .int 8), (3, .int 1), (2, .int 0), (5, .int (b0)), (0, .ref 66), (1, .int (xs 1))], [.int 255, .int ((xs 1) >>> (8 &&& 31))], V) : jS)) rfl ?_
  refine jl_s (S' := ((22, [(4, .int 8), (3, .int 1), (2, .int 0), (5, .int (b0)), (0, .ref 66), (1, .int (xs 1))], [.int (((xs 1) >>> (8 &&& 31)) &&& 255)], V) : jS)) rfl ?_
  rw [e]
  refine jl_s (S' := ((24, [(5, .int (b1)), (4, .int 8), (3, .int 1), (2, .int 0), (0, .ref 66), (1, .int (xs 1))], [], V) : jS)) rfl ?_
  refine jl_s (S' := ((25, [(5, .int (b1)), (4, .int 8), (3, .int 1), (2, .int 0), (0, .ref 66), (1, .int (xs 1))], [.int 0], V) : jS)) rfl ?_
  refine jl_s (S' := ((28, [(5, .int (b1)), (4, .int 8), (3, .int 1), (2, .int 0), (0, .ref 66), (1, .int (xs 1))], [], V) : jS)) rfl ?_
  refine jl_s (S' := ((30, [(5, .int (b1)), (4, .int 8), (3, .int 1), (2, .int 0), (0, .ref 66), (1, .int (xs 1))], [.int (b1)], V) : jS)) rfl ?_
  refine jl_iff (e := jm248) (o := 15) rfl (h.1.1) ?_
  refine jl_s (S' := ((35, [(5, .int (b1)), (4, .int 8), (3, .int 1), (2, .int 0), (0, .ref 66), (1, .int (xs 1))], [.int (b1)], V) : jS)) rfl ?_
  refine jl_c (t := 247) (as := [.int (b1)]) (V := V) (r := (.inl (some (.int 1)), V)) (S' := ((38, [(5, .int (b1)), (4, .int 8), (3, .int 1), (2, .int 0), (0, .ref 66), (1, .int (xs 1))], [.int 1], V) : jS)) rfl (jz_sv ((4, xs) : jX) V b1 h ) rfl ?_
  refine jl_s (S' := ((45, [(5, .int (b1)), (4, .int 8), (3, .int 1), (2, .int 0), (0, .ref 66), (1, .int (xs 1))], [], V) : jS)) rfl ?_
  refine jl_s (S' := ((46, [(5, .int (b1)), (4, .int 8), (3, .int 1), (2, .int 0), (0, .ref 66), (1, .int (xs 1))], [.int 0], V) : jS)) rfl ?_
  refine jl_s (S' := ((47, [(2, .int 0), (5, .int (b1)), (4, .int 8), (3, .int 1), (0, .ref 66), (1, .int (xs 1))], [], V) : jS)) rfl ?_
  refine jl_s (S' := ((49, [(2, .int 0), (5, .int (b1)), (4, .int 8), (3, .int 1), (0, .ref 66), (1, .int (xs 1))], [.int (b1)], V) : jS)) rfl ?_
  refine jl_iff (e := jm248) (o := 9) rfl (h.1.1) ?_
  refine jl_s (S' := ((53, [(2, .int 0), (5, .int (b1)), (4, .int 8), (3, .int 1), (0, .ref 66), (1, .int (xs 1))], [.int 1], V) : jS)) rfl ?_
  refine jl_s (S' := ((54, [(2, .int 0), (5, .int (b1)), (4, .int 8), (3, .int 1), (0, .ref 66), (1, .int (xs 1))], [.int 1, .int 1], V) : jS)) rfl ?_
  refine jl_s (S' := ((55, [(2, .int 0), (5, .int (b1)), (4, .int 8), (3, .int 1), (0, .ref 66), (1, .int (xs 1))], [.int 2], V) : jS)) rfl ?_
  refine jl_s (S' := ((59, [(2, .int 0), (5, .int (b1)), (4, .int 8), (3, .int 1), (0, .ref 66), (1, .int (xs 1))], [.int 2], V) : jS)) rfl ?_
  refine jl_s (S' := ((60, [(3, .int 2), (2, .int 0), (5, .int (b1)), (4, .int 8), (0, .ref 66), (1, .int (xs 1))], [], V) : jS)) rfl ?_
  refine jl_s (S' := ((63, [(4, .int 16), (3, .int 2), (2, .int 0), (5, .int (b1)), (0, .ref 66), (1, .int (xs 1))], [], V) : jS)) rfl ?_
  refine jl_s (S' := ((7, [(4, .int 16), (3, .int 2), (2, .int 0), (5, .int (b1)), (0, .ref 66), (1, .int (xs 1))], [], V) : jS)) rfl ?_
  exact hq
set_option maxHeartbeats 4000000 in
set_option maxRecDepth 100000 in
theorem jzq732 (xs : Nat → Int32) (b0 b1 b2 b3 : Int32) (V : jH) (e : ((xs 1) >>> (16 &&& 31)) &&& 255 = b2) (h : jbz b2) {f : Nat} {q : jO × jH} (hq : jLoop (jRun ((4, xs) : jX) 2000 38) ((4, xs) : jX) jm248 f ((7, [(4, .int 24), (3, .int 2), (2, .int 0), (5, .int (b2)), (0, .ref 66), (1, .int (xs 1))], [], V) : jS) = some q) : jLoop (jRun ((4, xs) : jX) 2000 38) ((4, xs) : jX) jm248 (f + 21) ((7, [(4, .int 16), (3, .int 2), (2, .int 0), (5, .int (b1)), (0, .ref 66), (1, .int (xs 1))], [], V) : jS) = some q := by
  refine jl_s (S' := ((9, [(4, .int 16), (3, .int 2), (2, .int 0), (5, .int (b1)), (0, .ref 66), (1, .int (xs 1))], [.int 16], V) : jS)) rfl ?_
  refine jl_s (S' := ((11, [(4, .int 16), (3, .int 2), (2, .int 0), (5, .int (b1)), (0, .ref 66), (1, .int (xs 1))], [.int 32, .int 16], V) : jS)) rfl ?_
  refine jl_s (S' := ((14, [(4, .int 16), (3, .int 2), (2, .int 0), (5, .int (b1)), (0, .ref 66), (1, .int (xs 1))], [], V) : jS)) rfl ?_
  refine jl_s (S' := ((15, [(4, .int 16), (3, .int 2), (2, .int 0), (5, .int (b1)), (0, .ref 66), (1, .int (xs 1))], [.int (xs 1)], V) : jS)) rfl ?_
  refine jl_s (S' := ((17, [(4, .int 16), (3, .int 2), (2, .int 0), (5, .int (b1)), (0, .ref 66), (1, .int (xs 1))], [.int 16, .int (xs 1)], V) : jS)) rfl ?_
  refine jl_s (S' := ((18, [(4, .int 16), (3, .int 2), (2, .int 0), (5, .int (b1)), (0, .ref 66), (1, .int (xs 1))], [.int ((xs 1) >>> (16 &&& 31))], V) : jS)) rfl ?_
  refine jl_s (S' := ((21, [(4, .int 16), (3, .int 2), (2, .int 0), (5, .int (b1)), (0, .ref 66), (1, .int (xs 1))], [.int 255, .int ((xs 1) >>> (16 &&& 31))], V) : jS)) rfl ?_
  refine jl_s (S' := ((22, [(4, .int 16), (3, .int 2), (2, .int 0), (5, .int (b1)), (0, .ref 66), (1, .int (xs 1))], [.int (((xs 1) >>> (16 &&& 31)) &&& 255)], V) : jS)) rfl ?_
  rw [e]
  refine jl_s (S' := ((24, [(5, .int (b2)), (4, .int 16), (3, .int 2), (2, .int 0), (0, .ref 66), (1, .int (xs 1))], [], V) : jS)) rfl ?_
  refine jl_s (S' := ((25, [(5, .int (b2)), (4, .int 16), (3, .int 2), (2, .int 0), (0, .ref 66), (1, .int (xs 1))], [.int 0], V) : jS)) rfl ?_
  refine jl_s (S' := ((28, [(5, .int (b2)), (4, .int 16), (3, .int 2), (2, .int 0), (0, .ref 66), (1, .int (xs 1))], [], V) : jS)) rfl ?_
  refine jl_s (S' := ((30, [(5, .int (b2)), (4, .int 16), (3, .int 2), (2, .int 0), (0, .ref 66), (1, .int (xs 1))], [.int (b2)], V) : jS)) rfl ?_
  refine jl_ift (e := jm248) (o := 15) rfl (h.1) (t := 45) rfl ?_
  refine jl_s (S' := ((46, [(5, .int (b2)), (4, .int 16), (3, .int 2), (2, .int 0), (0, .ref 66), (1, .int (xs 1))], [.int 0], V) : jS)) rfl ?_
  refine jl_s (S' := ((47, [(2, .int 0), (5, .int (b2)), (4, .int 16), (3, .int 2), (0, .ref 66), (1, .int (xs 1))], [], V) : jS)) rfl ?_
  refine jl_s (S' := ((49, [(2, .int 0), (5, .int (b2)), (4, .int 16), (3, .int 2), (0, .ref 66), (1, .int (xs 1))], [.int (b2)], V) : jS)) rfl ?_
  refine jl_ift (e := jm248) (o := 9) rfl (h.1) (t := 58) rfl ?_
  refine jl_s (S' := ((59, [(2, .int 0), (5, .int (b2)), (4, .int 16), (3, .int 2), (0, .ref 66), (1, .int (xs 1))], [.int 2], V) : jS)) rfl ?_
  refine jl_s (S' := ((60, [(3, .int 2), (2, .int 0), (5, .int (b2)), (4, .int 16), (0, .ref 66), (1, .int (xs 1))], [], V) : jS)) rfl ?_
  refine jl_s (S' := ((63, [(4, .int 24), (3, .int 2), (2, .int 0), (5, .int (b2)), (0, .ref 66), (1, .int (xs 1))], [], V) : jS)) rfl ?_
  refine jl_s (S' := ((7, [(4, .int 24), (3, .int 2), (2, .int 0), (5, .int (b2)), (0, .ref 66), (1, .int (xs 1))], [], V) : jS)) rfl ?_
  exact hq
set_option maxHeartbeats 4000000 in
set_option maxRecDepth 100000 in
theorem jzl733 (xs : Nat → Int32) (b0 b1 b2 b3 : Int32) : jRun ((4, xs) : jX) 2000 38 245 [.ref 66, .int 0, .int 0, .int 0] (jzv342 b0 b1 b2 b3) = some (.inl (some (.int 0)), (jzv342 b0 b1 b2 b3)) := by
  refine jr_run (e := jm245) rfl (Nat.le_of_ble_eq_true rfl) ?_
  refine jl_s (S' := ((1, [(0, .ref 66), (1, .int 0), (2, .int 0), (3, .int 0)], [.ref 66], (jzv342 b0 b1 b2 b3)) : jS)) rfl ?_
  refine jl_s (S' := ((2, [(0, .ref 66), (1, .int 0), (2, .int 0), (3, .int 0)], [.int 0, .ref 66], (jzv342 b0 b1 b2 b3)) : jS)) rfl ?_
  refine jl_s (S' := ((9, [(0, .ref 66), (1, .int 0), (2, .int 0), (3, .int 0)], [.ref 66], (jzv342 b0 b1 b2 b3)) : jS)) rfl ?_
  refine jl_s (S' := ((10, [(0, .ref 66), (1, .int 0), (2, .int 0), (3, .int 0)], [.int 0, .ref 66], (jzv342 b0 b1 b2 b3)) : jS)) rfl ?_
  refine jl_s (S' := ((17, [(0, .ref 66), (1, .int 0), (2, .int 0), (3, .int 0)], [.ref 66], (jzv342 b0 b1 b2 b3)) : jS)) rfl ?_
  refine jl_s (S' := ((18, [(0, .ref 66), (1, .int 0), (2, .int 0), (3, .int 0)], [.int 0, .ref 66], (jzv342 b0 b1 b2 b3)) : jS)) rfl ?_
  refine jl_s (S' := ((25, [(0, .ref 66), (1, .int 0), (2, .int 0), (3, .int 0)], [.ref 66], (jzv342 b0 b1 b2 b3)) : jS)) rfl ?_
  refine jl_s (S' := ((26, [(0, .ref 66), (1, .int 0), (2, .int 0), (3, .int 0)], [.int 0, .ref 66], (jzv342 b0 b1 b2 b3)) : jS)) rfl ?_
  refine jl_s (S' := ((29, [(0, .ref 66), (1, .int 0), (2, .int 0), (3, .int 0)], [], (jzv342 b0 b1 b2 b3)) : jS)) rfl ?_
  refine jl_s (S' := ((30, [(0, .ref 66), (1, .int 0), (2, .int 0), (3, .int 0)], [.ref 66], (jzv342 b0 b1 b2 b3)) : jS)) rfl ?_
  refine jl_s (S' := ((33, [(0, .ref 66), (1, .int 0), (2, .int 0), (3, .int 0)], [.int 0], (jzv342 b0 b1 b2 b3)) : jS)) rfl ?_
  refine jl_s (S' := ((40, [(0, .ref 66), (1, .int 0), (2, .int 0), (3, .int 0)], [], (jzv342 b0 b1 b2 b3)) : jS)) rfl ?_
  refine jl_s (S' := ((41, [(0, .ref 66), (1, .int 0), (2, .int 0), (3, .int 0)], [.int 0], (jzv342 b0 b1 b2 b3)) : jS)) rfl ?_
  exact jl_r (r := (.inl (some (.int 0)), (jzv342 b0 b1 b2 b3))) rfl
set_option maxHeartbeats 4000000 in
set_option maxRecDepth 100000 in
theorem jzq735 (xs : Nat → Int32) (b0 b1 b2 b3 : Int32) {f : Nat} {q : jO × jH} (hq : jLoop (jRun ((4, xs) : jX) 2000 38) ((4, xs) : jX) jm248 f ((101, [(4, .int 0), (3, .int 2), (2, .int 0), (5, .int (b3)), (0, .ref 66), (1, .int (xs 1))], [], (jzv342 b0 b1 b2 b3)) : jS) = some q) : jLoop (jRun ((4, xs) : jX) 2000 38) ((4, xs) : jX) jm248 (f + 19) ((7, [(4, .int 32), (3, .int 2), (2, .int 0), (5, .int (b3)), (0, .ref 66), (1, .int (xs 1))], [], (jzv342 b0 b1 b2 b3)) : jS) = some q := by
  refine jl_s (S' := ((9, [(4, .int 32), (3, .int 2), (2, .int 0), (5, .int (b3)), (0, .ref 66), (1, .int (xs 1))], [.int 32], (jzv342 b0 b1 b2 b3)) : jS)) rfl ?_
  refine jl_s (S' := ((11, [(4, .int 32), (3, .int 2), (2, .int 0), (5, .int (b3)), (0, .ref 66), (1, .int (xs 1))], [.int 32, .int 32], (jzv342 b0 b1 b2 b3)) : jS)) rfl ?_
  refine jl_s (S' := ((66, [(4, .int 32), (3, .int 2), (2, .int 0), (5, .int (b3)), (0, .ref 66), (1, .int (xs 1))], [], (jzv342 b0 b1 b2 b3)) : jS)) rfl ?_
  refine jl_s (S' := ((67, [(4, .int 32), (3, .int 2), (2, .int 0), (5, .int (b3)), (0, .ref 66), (1, .int (xs 1))], [.ref 66], (jzv342 b0 b1 b2 b3)) : jS)) rfl ?_
  refine jl_s (S' := ((68, [(4, .int 32), (3, .int 2), (2, .int 0), (5, .int (b3)), (0, .ref 66), (1, .int (xs 1))], [.int 0, .ref 66], (jzv342 b0 b1 b2 b3)) : jS)) rfl ?_
  refine jl_s (S' := ((69, [(4, .int 32), (3, .int 2), (2, .int 0), (5, .int (b3)), (0, .ref 66), (1, .int (xs 1))], [.int 0, .int 0, .ref 66], (jzv342 b0 b1 b2 b3)) : jS)) rfl ?_
  refine jl_s (S' := ((72, [(4, .int 32), (3, .int 2), (2, .int 0), (5, .int (b3)), (0, .ref 66), (1, .int (xs 1))], [.int 0, .ref 66], (jzv342 b0 b1 b2 b3)) : jS)) rfl ?_
  refine jl_s (S' := ((73, [(4, .int 32), (3, .int 2), (2, .int 0), (5, .int (b3)), (0, .ref 66), (1, .int (xs 1))], [.ref 66, .int 0, .ref 66], (jzv342 b0 b1 b2 b3)) : jS)) rfl ?_
  refine jl_s (S' := ((76, [(4, .int 32), (3, .int 2), (2, .int 0), (5, .int (b3)), (0, .ref 66), (1, .int (xs 1))], [.int 0, .int 0, .ref 66], (jzv342 b0 b1 b2 b3)) : jS)) rfl ?_
  refine jl_s (S' := ((77, [(4, .int 32), (3, .int 2), (2, .int 0), (5, .int (b3)), (0, .ref 66), (1, .int (xs 1))], [.int 2, .int 0, .int 0, .ref 66], (jzv342 b0 b1 b2 b3)) : jS)) rfl ?_
  refine jl_s (S' := ((78, [(4, .int 32), (3, .int 2), (2, .int 0), (5, .int (b3)), (0, .ref 66), (1, .int (xs 1))], [.int 2, .int 0, .ref 66], (jzv342 b0 b1 b2 b3)) : jS)) rfl ?_
  refine jl_s (S' := ((81, [(4, .int 32), (3, .int 2), (2, .int 0), (5, .int (b3)), (0, .ref 66), (1, .int (xs 1))], [.int 3000, .int 2, .int 0, .ref 66], (jzv342 b0 b1 b2 b3)) : jS)) rfl ?_
  refine jl_s (S' := ((88, [(4, .int 32), (3, .int 2), (2, .int 0), (5, .int (b3)), (0, .ref 66), (1, .int (xs 1))], [.int 0, .ref 66], (jzv342 b0 b1 b2 b3)) : jS)) rfl ?_
  refine jl_s (S' := ((89, [(4, .int 32), (3, .int 2), (2, .int 0), (5, .int (b3)), (0, .ref 66), (1, .int (xs 1))], [.int 0, .int 0, .ref 66], (jzv342 b0 b1 b2 b3)) : jS)) rfl ?_
  refine jl_s (S' := ((90, [(4, .int 32), (3, .int 2), (2, .int 0), (5, .int (b3)), (0, .ref 66), (1, .int (xs 1))], [.int 0, .int 0, .int 0, .ref 66], (jzv342 b0 b1 b2 b3)) : jS)) rfl ?_
  refine jl_c (t := 245) (as := [.ref 66, .int 0, .int 0, .int 0]) (V := (jzv342 b0 b1 b2 b3)) (r := (.inl (some (.int 0)), (jzv342 b0 b1 b2 b3))) (S' := ((93, [(4, .int 32), (3, .int 2), (2, .int 0), (5, .int (b3)), (0, .ref 66), (1, .int (xs 1))], [.int 0], (jzv342 b0 b1 b2 b3)) : jS)) rfl (jzl733 xs b0 b1 b2 b3) rfl ?_
  refine jl_s (S' := ((98, [(4, .int 32), (3, .int 2), (2, .int 0), (5, .int (b3)), (0, .ref 66), (1, .int (xs 1))], [], (jzv342 b0 b1 b2 b3)) : jS)) rfl ?_
  refine jl_s (S' := ((99, [(4, .int 32), (3, .int 2), (2, .int 0), (5, .int (b3)), (0, .ref 66), (1, .int (xs 1))], [.int 0], (jzv342 b0 b1 b2 b3)) : jS)) rfl ?_
  refine jl_s (S' := ((101, [(4, .int 0), (3, .int 2), (2, .int 0), (5, .int (b3)), (0, .ref 66), (1, .int (xs 1))], [], (jzv342 b0 b1 b2 b3)) : jS)) rfl ?_
  exact hq
def jzv343 (b0 b1 b2 b3 : Int32) : jH := [jzc185, (jzc195 b0 b1 b2 b3), jzc117, (jzc213 b0 b1 b2 b3), jzc9, jzc9, jzc9, jzc9, jzc9, jzc17, jzc19, jzc19, jzc19, jzc19, jzc19, jzc19, jzc19, jzc19, jzc28, jzc28, jzc28, jzc28, jzc28, jzc28, jzc28, jzc28, jzc28, jzc28, jzc28, jzc28, jzc28, jzc28, jzc43, jzc43, jzc43, jzc43, jzc43, jzc49, jzc49, jzc52, jzc52, jzc52, jzc56, jzc56, jzc59, jzc56, jzc62, jzc28, jzc28, jzc28, jzc28, jzc28, jzc69, jzc71, jzc73, jzc43, jzc76, jzc52, jzc52, jzc80, jzc80, jzc80, jzc84, jzc52, jzc52, jzc52, jzc52, jzc52, jzc52, jzc52, jzc93, jzc93, jzc52, jzc52, jzc98, jzc100, jzc93, jzc52, jzc52, jzc52, jzc52, jzc107, jzc109, jzc111, jzc100, jzc100, jzc100, jzc111, jzc111, jzc204]
def jzv344 (b0 b1 b2 b3 : Int32) : jH := [jzc185, (jzc195 b0 b1 b2 b3), jzc202, (jzc213 b0 b1 b2 b3), jzc9, jzc9, jzc9, jzc9, jzc9, jzc17, jzc19, jzc19, jzc19, jzc19, jzc19, jzc19, jzc19, jzc19, jzc28, jzc28, jzc28, jzc28, jzc28, jzc28, jzc28, jzc28, jzc28, jzc28, jzc28, jzc28, jzc28, jzc28, jzc43, jzc43, jzc43, jzc43, jzc43, jzc49, jzc49, jzc52, jzc52, jzc52, jzc56, jzc56, jzc59, jzc56, jzc62, jzc28, jzc28, jzc28, jzc28, jzc28, jzc69, jzc71, jzc73, jzc43, jzc76, jzc52, jzc52, jzc80, jzc80, jzc80, jzc84, jzc52, jzc52, jzc52, jzc52, jzc52, jzc52, jzc52, jzc93, jzc93, jzc52, jzc52, jzc98, jzc100, jzc93, jzc52, jzc52, jzc52, jzc52, jzc107, jzc109, jzc111, jzc100, jzc100, jzc100, jzc111, jzc111, jzc204]
set_option maxHeartbeats 4000000 in
set_option maxRecDepth 100000 in
theorem jzq737 (xs : Nat → Int32) (b0 b1 b2 b3 : Int32) (e : ((xs 1) >>> (0 &&& 31)) &&& 255 = b0) (h : jbn b0) {f : Nat} {q : jO × jH} (hq : jLoop (jRun ((4, xs) : jX) 2000 38) ((4, xs) : jX) jm248 f ((101, [(4, .int 8), (5, .int (b0)), (3, .int 2), (2, .int 0), (0, .ref 66), (1, .int (xs 1))], [], (jzv344 b0 b1 b2 b3)) : jS) = some q) : jLoop (jRun ((4, xs) : jX) 2000 38) ((4, xs) : jX) jm248 (f + 25) ((101, [(4, .int 0), (3, .int 2), (2, .int 0), (5, .int (b3)), (0, .ref 66), (1, .int (xs 1))], [], (jzv342 b0 b1 b2 b3)) : jS) = some q := by
  refine jl_s (S' := ((103, [(4, .int 0), (3, .int 2), (2, .int 0), (5, .int (b3)), (0, .ref 66), (1, .int (xs 1))], [.int 0], (jzv342 b0 b1 b2 b3)) : jS)) rfl ?_
  refine jl_s (S' := ((105, [(4, .int 0), (3, .int 2), (2, .int 0), (5, .int (b3)), (0, .ref 66), (1, .int (xs 1))], [.int 32, .int 0], (jzv342 b0 b1 b2 b3)) : jS)) rfl ?_
  refine jl_s (S' := ((108, [(4, .int 0), (3, .int 2), (2, .int 0), (5, .int (b3)), (0, .ref 66), (1, .int (xs 1))], [], (jzv342 b0 b1 b2 b3)) : jS)) rfl ?_
  refine jl_s (S' := ((109, [(4, .int 0), (3, .int 2), (2, .int 0), (5, .int (b3)), (0, .ref 66), (1, .int (xs 1))], [.int (xs 1)], (jzv342 b0 b1 b2 b3)) : jS)) rfl ?_
  refine jl_s (S' := ((111, [(4, .int 0), (3, .int 2), (2, .int 0), (5, .int (b3)), (0, .ref 66), (1, .int (xs 1))], [.int 0, .int (xs 1)], (jzv342 b0 b1 b2 b3)) : jS)) rfl ?_
  refine jl_s (S' := ((112, [(4, .int 0), (3, .int 2), (2, .int 0), (5, .int (b3)), (0, .ref 66), (1, .int (xs 1))], [.int ((xs 1) >>> (0 &&& 31))], (jzv342 b0 b1 b2 b3)) : jS)) rfl ?_
  refine jl_s (S' := ((115, [(4, .int 0), (3, .int 2), (2, .int 0), (5, .int (b3)), (0, .ref 66), (1, .int (xs 1))], [.int 255, .int ((xs 1) >>> (0 &&& 31))], (jzv342 b0 b1 b2 b3)) : jS)) rfl ?_
  refine jl_s (S' := ((116, [(4, .int 0), (3, .int 2), (2, .int 0), (5, .int (b3)), (0, .ref 66), (1, .int (xs 1))], [.int (((xs 1) >>> (0 &&& 31)) &&& 255)], (jzv342 b0 b1 b2 b3)) : jS)) rfl ?_
  rw [e]
  refine jl_s (S' := ((118, [(5, .int (b0)), (4, .int 0), (3, .int 2), (2, .int 0), (0, .ref 66), (1, .int (xs 1))], [], (jzv342 b0 b1 b2 b3)) : jS)) rfl ?_
  refine jl_s (S' := ((120, [(5, .int (b0)), (4, .int 0), (3, .int 2), (2, .int 0), (0, .ref 66), (1, .int (xs 1))], [.int (b0)], (jzv342 b0 b1 b2 b3)) : jS)) rfl ?_
  refine jl_iff (e := jm248) (o := 24) rfl (h.1) ?_
  refine jl_s (S' := ((124, [(5, .int (b0)), (4, .int 0), (3, .int 2), (2, .int 0), (0, .ref 66), (1, .int (xs 1))], [.ref 66], (jzv342 b0 b1 b2 b3)) : jS)) rfl ?_
  refine jl_s (S' := ((127, [(5, .int (b0)), (4, .int 0), (3, .int 2), (2, .int 0), (0, .ref 66), (1, .int (xs 1))], [.ref 67], (jzv342 b0 b1 b2 b3)) : jS)) rfl ?_
  refine jl_s (S' := ((128, [(5, .int (b0)), (4, .int 0), (3, .int 2), (2, .int 0), (0, .ref 66), (1, .int (xs 1))], [.ref 66, .ref 67], (jzv342 b0 b1 b2 b3)) : jS)) rfl ?_
  refine jl_s (S' := ((131, [(5, .int (b0)), (4, .int 0), (3, .int 2), (2, .int 0), (0, .ref 66), (1, .int (xs 1))], [.int 0, .ref 67], (jzv342 b0 b1 b2 b3)) : jS)) rfl ?_
  refine jl_s (S' := ((133, [(5, .int (b0)), (4, .int 0), (3, .int 2), (2, .int 0), (0, .ref 66), (1, .int (xs 1))], [.int (b0), .int 0, .ref 67], (jzv342 b0 b1 b2 b3)) : jS)) rfl ?_
  refine jl_s (S' := ((134, [(5, .int (b0)), (4, .int 0), (3, .int 2), (2, .int 0), (0, .ref 66), (1, .int (xs 1))], [], (jzv343 b0 b1 b2 b3)) : jS)) rfl ?_
  refine jl_s (S' := ((135, [(5, .int (b0)), (4, .int 0), (3, .int 2), (2, .int 0), (0, .ref 66), (1, .int (xs 1))], [.ref 66], (jzv343 b0 b1 b2 b3)) : jS)) rfl ?_
  refine jl_s (S' := ((136, [(5, .int (b0)), (4, .int 0), (3, .int 2), (2, .int 0), (0, .ref 66), (1, .int (xs 1))], [.ref 66, .ref 66], (jzv343 b0 b1 b2 b3)) : jS)) rfl ?_
  refine jl_s (S' := ((139, [(5, .int (b0)), (4, .int 0), (3, .int 2), (2, .int 0), (0, .ref 66), (1, .int (xs 1))], [.int 0, .ref 66], (jzv343 b0 b1 b2 b3)) : jS)) rfl ?_
  refine jl_s (S' := ((140, [(5, .int (b0)), (4, .int 0), (3, .int 2), (2, .int 0), (0, .ref 66), (1, .int (xs 1))], [.int 1, .int 0, .ref 66], (jzv343 b0 b1 b2 b3)) : jS)) rfl ?_
  refine jl_s (S' := ((141, [(5, .int (b0)), (4, .int 0), (3, .int 2), (2, .int 0), (0, .ref 66), (1, .int (xs 1))], [.int 1, .ref 66], (jzv343 b0 b1 b2 b3)) : jS)) rfl ?_
  refine jl_s (S' := ((144, [(5, .int (b0)), (4, .int 0), (3, .int 2), (2, .int 0), (0, .ref 66), (1, .int (xs 1))], [], (jzv344 b0 b1 b2 b3)) : jS)) rfl ?_
  refine jl_s (S' := ((147, [(4, .int 8), (5, .int (b0)), (3, .int 2), (2, .int 0), (0, .ref 66), (1, .int (xs 1))], [], (jzv344 b0 b1 b2 b3)) : jS)) rfl ?_
  refine jl_s (S' := ((101, [(4, .int 8), (5, .int (b0)), (3, .int 2), (2, .int 0), (0, .ref 66), (1, .int (xs 1))], [], (jzv344 b0 b1 b2 b3)) : jS)) rfl ?_
  exact hq
def jzc217 (b0 b1 b2 b3 : Int32) : jC := .inl (1, 3000, .inl (upd (upd (fun _ => 0) 0 (b0)) 1 (b1)))
def jzv345 (b0 b1 b2 b3 : Int32) : jH := [jzc185, (jzc195 b0 b1 b2 b3), jzc202, (jzc217 b0 b1 b2 b3), jzc9, jzc9, jzc9, jzc9, jzc9, jzc17, jzc19, jzc19, jzc19, jzc19, jzc19, jzc19, jzc19, jzc19, jzc28, jzc28, jzc28, jzc28, jzc28, jzc28, jzc28, jzc28, jzc28, jzc28, jzc28, jzc28, jzc28, jzc28, jzc43, jzc43, jzc43, jzc43, jzc43, jzc49, jzc49, jzc52, jzc52, jzc52, jzc56, jzc56, jzc59, jzc56, jzc62, jzc28, jzc28, jzc28, jzc28, jzc28, jzc69, jzc71, jzc73, jzc43, jzc76, jzc52, jzc52, jzc80, jzc80, jzc80, jzc84, jzc52, jzc52, jzc52, jzc52, jzc52, jzc52, jzc52, jzc93, jzc93, jzc52, jzc52, jzc98, jzc100, jzc93, jzc52, jzc52, jzc52, jzc52, jzc107, jzc109, jzc111, jzc100, jzc100, jzc100, jzc111, jzc111, jzc204]
def jzv346 (b0 b1 b2 b3 : Int32) : jH := [jzc185, (jzc195 b0 b1 b2 b3), jzc206, (jzc217 b0 b1 b2 b3), jzc9, jzc9, jzc9, jzc9, jzc9, jzc17, jzc19, jzc19, jzc19, jzc19, jzc19, jzc19, jzc19, jzc19, jzc28, jzc28, jzc28, jzc28, jzc28, jzc28, jzc28, jzc28, jzc28, jzc28, jzc28, jzc28, jzc28, jzc28, jzc43, jzc43, jzc43, jzc43, jzc43, jzc49, jzc49, jzc52, jzc52, jzc52, jzc56, jzc56, jzc59, jzc56, jzc62, jzc28, jzc28, jzc28, jzc28, jzc28, jzc69, jzc71, jzc73, jzc43, jzc76, jzc52, jzc52, jzc80, jzc80, jzc80, jzc84, jzc52, jzc52, jzc52, jzc52, jzc52, jzc52, jzc52, jzc93, jzc93, jzc52, jzc52, jzc98, jzc100, jzc93, jzc52, jzc52, jzc52, jzc52, jzc107, jzc109, jzc111, jzc100, jzc100, jzc100, jzc111, jzc111, jzc204]
set_option maxHeartbeats 4000000 in
set_option maxRecDepth 100000 in
theorem jzq739 (xs : Nat → Int32) (b0 b1 b2 b3 : Int32) (e : ((xs 1) >>> (8 &&& 31)) &&& 255 = b1) (h : jbn b1) {f : Nat} {q : jO × jH} (hq : jLoop (jRun ((4, xs) : jX) 2000 38) ((4, xs) : jX) jm248 f ((101, [(4, .int 16), (5, .int (b1)), (3, .int 2), (2, .int 0), (0, .ref 66), (1, .int (xs 1))], [], (jzv346 b0 b1 b2 b3)) : jS) = some q) : jLoop (jRun ((4, xs) : jX) 2000 38) ((4, xs) : jX) jm248 (f + 25) ((101, [(4, .int 8), (5, .int (b0)), (3, .int 2), (2, .int 0), (0, .ref 66), (1, .int (xs 1))], [], (jzv344 b0 b1 b2 b3)) : jS) = some q := by
  refine jl_s (S' := ((103, [(4, .int 8), (5, .int (b0)), (3, .int 2), (2, .int 0), (0, .ref 66), (1, .int (xs 1))], [.int 8], (jzv344 b0 b1 b2 b3)) : jS)) rfl ?_
  refine jl_s (S' := ((105, [(4, .int 8), (5, .int (b0)), (3, .int 2), (2, .int 0), (0, .ref 66), (1, .int (xs 1))], [.int 32, .int 8], (jzv344 b0 b1 b2 b3)) : jS)) rfl ?_
  refine jl_s (S' := ((108, [(4, .int 8), (5, .int (b0)), (3, .int 2), (2, .int 0), (0, .ref 66), (1, .int (xs 1))], [], (jzv344 b0 b1 b2 b3)) : jS)) rfl ?_
  refine jl_s (S' := ((109, [(4, .int 8), (5, .int (b0)), (3, .int 2), (2, .int 0), (0, .ref 66), (1, .int (xs 1))], [.int (xs 1)], (jzv344 b0 b1 b2 b3)) : jS)) rfl ?_
  refine jl_s (S' := ((111, [(4, .int 8), (5, .int (b0)), (3, .int 2), (2, .int 0), (0, .ref 66), (1, .int (xs 1))], [.int 8, .int (xs 1)], (jzv344 b0 b1 b2 b3)) : jS)) rfl ?_
  refine jl_s (S' := ((112, [(4, .int 8), (5, .int (b0)), (3, .int 2), (2, .int 0), (0, .ref 66), (1, .int (xs 1))], [.int ((xs 1) >>> (8 &&& 31))], (jzv344 b0 b1 b2 b3)) : jS)) rfl ?_
  refine jl_s (S' := ((115, [(4, .int 8), (5, .int (b0)), (3, .int 2), (2, .int 0), (0, .ref 66), (1, .int (xs 1))], [.int 255, .int ((xs 1) >>> (8 &&& 31))], (jzv344 b0 b1 b2 b3)) : jS)) rfl ?_
  refine jl_s (S' := ((116, [(4, .int 8), (5, .int (b0)), (3, .int 2), (2, .int 0), (0, .ref 66), (1, .int (xs 1))], [.int (((xs 1) >>> (8 &&& 31)) &&& 255)], (jzv344 b0 b1 b2 b3)) : jS)) rfl ?_
  rw [e]
  refine jl_s (S' := ((118, [(5, .int (b1)), (4, .int 8), (3, .int 2), (2, .int 0), (0, .ref 66), (1, .int (xs 1))], [], (jzv344 b0 b1 b2 b3)) : jS)) rfl ?_
  refine jl_s (S' := ((120, [(5, .int (b1)), (4, .int 8), (3, .int 2), (2, .int 0), (0, .ref 66), (1, .int (xs 1))], [.int (b1)], (jzv344 b0 b1 b2 b3)) : jS)) rfl ?_
  refine jl_iff (e := jm248) (o := 24) rfl (h.1) ?_
  refine jl_s (S' := ((124, [(5, .int (b1)), (4, .int 8), (3, .int 2), (2, .int 0), (0, .ref 66), (1, .int (xs 1))], [.ref 66], (jzv344 b0 b1 b2 b3)) : jS)) rfl ?_
  refine jl_s (S' := ((127, [(5, .int (b1)), (4, .int 8), (3, .int 2), (2, .int 0), (0, .ref 66), (1, .int (xs 1))], [.ref 67], (jzv344 b0 b1 b2 b3)) : jS)) rfl ?_
  refine jl_s (S' := ((128, [(5, .int (b1)), (4, .int 8), (3, .int 2), (2, .int 0), (0, .ref 66), (1, .int (xs 1))], [.ref 66, .ref 67], (jzv344 b0 b1 b2 b3)) : jS)) rfl ?_
  refine jl_s (S' := ((131, [(5, .int (b1)), (4, .int 8), (3, .int 2), (2, .int 0), (0, .ref 66), (1, .int (xs 1))], [.int 1, .ref 67], (jzv344 b0 b1 b2 b3)) : jS)) rfl ?_
  refine jl_s (S' := ((133, [(5, .int (b1)), (4, .int 8), (3, .int 2), (2, .int 0), (0, .ref 66), (1, .int (xs 1))], [.int (b1), .int 1, .ref 67], (jzv344 b0 b1 b2 b3)) : jS)) rfl ?_
  refine jl_s (S' := ((134, [(5, .int (b1)), (4, .int 8), (3, .int 2), (2, .int 0), (0, .ref 66), (1, .int (xs 1))], [], (jzv345 b0 b1 b2 b3)) : jS)) rfl ?_
  refine jl_s (S' := ((135, [(5, .int (b1)), (4, .int 8), (3, .int 2), (2, .int 0), (0, .ref 66), (1, .int (xs 1))], [.ref 66], (jzv345 b0 b1 b2 b3)) : jS)) rfl ?_
  refine jl_s (S' := ((136, [(5, .int (b1)), (4, .int 8), (3, .int 2), (2, .int 0), (0, .ref 66), (1, .int (xs 1))], [.ref 66, .ref 66], (jzv345 b0 b1 b2 b3)) : jS)) rfl ?_
  refine jl_s (S' := ((139, [(5, .int (b1)), (4, .int 8), (3, .int 2), (2, .int 0), (0, .ref 66), (1, .int (xs 1))], [.int 1, .ref 66], (jzv345 b0 b1 b2 b3)) : jS)) rfl ?_
  refine jl_s (S' := ((140, [(5, .int (b1)), (4, .int 8), (3, .int 2), (2, .int 0), (0, .ref 66), (1, .int (xs 1))], [.int 1, .int 1, .ref 66], (jzv345 b0 b1 b2 b3)) : jS)) rfl ?_
  refine jl_s (S' := ((141, [(5, .int (b1)), (4, .int 8), (3, .int 2), (2, .int 0), (0, .ref 66), (1, .int (xs 1))], [.int 2, .ref 66], (jzv345 b0 b1 b2 b3)) : jS)) rfl ?_
  refine jl_s (S' := ((144, [(5, .int (b1)), (4, .int 8), (3, .int 2), (2, .int 0), (0, .ref 66), (1, .int (xs 1))], [], (jzv346 b0 b1 b2 b3)) : jS)) rfl ?_
  refine jl_s (S' := ((147, [(4, .int 16), (5, .int (b1)), (3, .int 2), (2, .int 0), (0, .ref 66), (1, .int (xs 1))], [], (jzv346 b0 b1 b2 b3)) : jS)) rfl ?_
  refine jl_s (S' := ((101, [(4, .int 16), (5, .int (b1)), (3, .int 2), (2, .int 0), (0, .ref 66), (1, .int (xs 1))], [], (jzv346 b0 b1 b2 b3)) : jS)) rfl ?_
  exact hq
set_option maxHeartbeats 4000000 in
set_option maxRecDepth 100000 in
theorem jzq741 (xs : Nat → Int32) (b0 b1 b2 b3 : Int32) (e : ((xs 1) >>> (16 &&& 31)) &&& 255 = b2) (h : jbz b2) {f : Nat} {q : jO × jH} (hq : jLoop (jRun ((4, xs) : jX) 2000 38) ((4, xs) : jX) jm248 f ((101, [(4, .int 24), (5, .int (b2)), (3, .int 2), (2, .int 0), (0, .ref 66), (1, .int (xs 1))], [], (jzv346 b0 b1 b2 b3)) : jS) = some q) : jLoop (jRun ((4, xs) : jX) 2000 38) ((4, xs) : jX) jm248 (f + 13) ((101, [(4, .int 16), (5, .int (b1)), (3, .int 2), (2, .int 0), (0, .ref 66), (1, .int (xs 1))], [], (jzv346 b0 b1 b2 b3)) : jS) = some q := by
  refine jl_s (S' := ((103, [(4, .int 16), (5, .int (b1)), (3, .int 2), (2, .int 0), (0, .ref 66), (1, .int (xs 1))], [.int 16], (jzv346 b0 b1 b2 b3)) : jS)) rfl ?_
  refine jl_s (S' := ((105, [(4, .int 16), (5, .int (b1)), (3, .int 2), (2, .int 0), (0, .ref 66), (1, .int (xs 1))], [.int 32, .int 16], (jzv346 b0 b1 b2 b3)) : jS)) rfl ?_
  refine jl_s (S' := ((108, [(4, .int 16), (5, .int (b1)), (3, .int 2), (2, .int 0), (0, .ref 66), (1, .int (xs 1))], [], (jzv346 b0 b1 b2 b3)) : jS)) rfl ?_
  refine jl_s (S' := ((109, [(4, .int 16), (5, .int (b1)), (3, .int 2), (2, .int 0), (0, .ref 66), (1, .int (xs 1))], [.int (xs 1)], (jzv346 b0 b1 b2 b3)) : jS)) rfl ?_
  refine jl_s (S' := ((111, [(4, .int 16), (5, .int (b1)), (3, .int 2), (2, .int 0), (0, .ref 66), (1, .int (xs 1))], [.int 16, .int (xs 1)], (jzv346 b0 b1 b2 b3)) : jS)) rfl ?_
  refine jl_s (S' := ((112, [(4, .int 16), (5, .int (b1)), (3, .int 2), (2, .int 0), (0, .ref 66), (1, .int (xs 1))], [.int ((xs 1) >>> (16 &&& 31))], (jzv346 b0 b1 b2 b3)) : jS)) rfl ?_
  refine jl_s (S' := ((115, [(4, .int 16), (5, .int (b1)), (3, .int 2), (2, .int 0), (0, .ref 66), (1, .int (xs 1))], [.int 255, .int ((xs 1) >>> (16 &&& 31))], (jzv346 b0 b1 b2 b3)) : jS)) rfl ?_
  refine jl_s (S' := ((116, [(4, .int 16), (5, .int (b1)), (3, .int 2), (2, .int 0), (0, .ref 66), (1, .int (xs 1))], [.int (((xs 1) >>> (16 &&& 31)) &&& 255)], (jzv346 b0 b1 b2 b3)) : jS)) rfl ?_
  rw [e]
  refine jl_s (S' := ((118, [(5, .int (b2)), (4, .int 16), (3, .int 2), (2, .int 0), (0, .ref 66), (1, .int (xs 1))], [], (jzv346 b0 b1 b2 b3)) : jS)) rfl ?_
  refine jl_s (S' := ((120, [(5, .int (b2)), (4, .int 16), (3, .int 2), (2, .int 0), (0, .ref 66), (1, .int (xs 1))], [.int (b2)], (jzv346 b0 b1 b2 b3)) : jS)) rfl ?_
  refine jl_ift (e := jm248) (o := 24) rfl (h.1) (t := 144) rfl ?_
  refine jl_s (S' := ((147, [(4, .int 24), (5, .int (b2)), (3, .int 2), (2, .int 0), (0, .ref 66), (1, .int (xs 1))], [], (jzv346 b0 b1 b2 b3)) : jS)) rfl ?_
  refine jl_s (S' := ((101, [(4, .int 24), (5, .int (b2)), (3, .int 2), (2, .int 0), (0, .ref 66), (1, .int (xs 1))], [], (jzv346 b0 b1 b2 b3)) : jS)) rfl ?_
  exact hq
set_option maxHeartbeats 4000000 in
set_option maxRecDepth 100000 in
theorem jzq743 (xs : Nat → Int32) (b0 b1 b2 b3 : Int32) (e : ((xs 1) >>> (24 &&& 31)) &&& 255 = b3) (h : jbz b3) {f : Nat} {q : jO × jH} (hq : jLoop (jRun ((4, xs) : jX) 2000 38) ((4, xs) : jX) jm248 f ((101, [(4, .int 32), (5, .int (b3)), (3, .int 2), (2, .int 0), (0, .ref 66), (1, .int (xs 1))], [], (jzv346 b0 b1 b2 b3)) : jS) = some q) : jLoop (jRun ((4, xs) : jX) 2000 38) ((4, xs) : jX) jm248 (f + 13) ((101, [(4, .int 24), (5, .int (b2)), (3, .int 2), (2, .int 0), (0, .ref 66), (1, .int (xs 1))], [], (jzv346 b0 b1 b2 b3)) : jS) = some q := by
  refine jl_s (S' := ((103, [(4, .int 24), (5, .int (b2)), (3, .int 2), (2, .int 0), (0, .ref 66), (1, .int (xs 1))], [.int 24], (jzv346 b0 b1 b2 b3)) : jS)) rfl ?_
  refine jl_s (S' := ((105, [(4, .int 24), (5, .int (b2)), (3, .int 2), (2, .int 0), (0, .ref 66), (1, .int (xs 1))], [.int 32, .int 24], (jzv346 b0 b1 b2 b3)) : jS)) rfl ?_
  refine jl_s (S' := ((108, [(4, .int 24), (5, .int (b2)), (3, .int 2), (2, .int 0), (0, .ref 66), (1, .int (xs 1))], [], (jzv346 b0 b1 b2 b3)) : jS)) rfl ?_
  refine jl_s (S' := ((109, [(4, .int 24), (5, .int (b2)), (3, .int 2), (2, .int 0), (0, .ref 66), (1, .int (xs 1))], [.int (xs 1)], (jzv346 b0 b1 b2 b3)) : jS)) rfl ?_
  refine jl_s (S' := ((111, [(4, .int 24), (5, .int (b2)), (3, .int 2), (2, .int 0), (0, .ref 66), (1, .int (xs 1))], [.int 24, .int (xs 1)], (jzv346 b0 b1 b2 b3)) : jS)) rfl ?_
  refine jl_s (S' := ((112, [(4, .int 24), (5, .int (b2)), (3, .int 2), (2, .int 0), (0, .ref 66), (1, .int (xs 1))], [.int ((xs 1) >>> (24 &&& 31))], (jzv346 b0 b1 b2 b3)) : jS)) rfl ?_
  refine jl_s (S' := ((115, [(4, .int 24), (5, .int (b2)), (3, .int 2), (2, .int 0), (0, .ref 66), (1, .int (xs 1))], [.int 255, .int ((xs 1) >>> (24 &&& 31))], (jzv346 b0 b1 b2 b3)) : jS)) rfl ?_
  refine jl_s (S' := ((116, [(4, .int 24), (5, .int (b2)), (3, .int 2), (2, .int 0), (0, .ref 66), (1, .int (xs 1))], [.int (((xs 1) >>> (24 &&& 31)) &&& 255)], (jzv346 b0 b1 b2 b3)) : jS)) rfl ?_
  rw [e]
  refine jl_s (S' := ((118, [(5, .int (b3)), (4, .int 24), (3, .int 2), (2, .int 0), (0, .ref 66), (1, .int (xs 1))], [], (jzv346 b0 b1 b2 b3)) : jS)) rfl ?_
  refine jl_s (S' := ((120, [(5, .int (b3)), (4, .int 24), (3, .int 2), (2, .int 0), (0, .ref 66), (1, .int (xs 1))], [.int (b3)], (jzv346 b0 b1 b2 b3)) : jS)) rfl ?_
  refine jl_ift (e := jm248) (o := 24) rfl (h.1) (t := 144) rfl ?_
  refine jl_s (S' := ((147, [(4, .int 32), (5, .int (b3)), (3, .int 2), (2, .int 0), (0, .ref 66), (1, .int (xs 1))], [], (jzv346 b0 b1 b2 b3)) : jS)) rfl ?_
  refine jl_s (S' := ((101, [(4, .int 32), (5, .int (b3)), (3, .int 2), (2, .int 0), (0, .ref 66), (1, .int (xs 1))], [], (jzv346 b0 b1 b2 b3)) : jS)) rfl ?_
  exact hq
set_option maxHeartbeats 4000000 in
set_option maxRecDepth 100000 in
theorem jzq745 (xs : Nat → Int32) (b0 b1 b2 b3 : Int32) {f : Nat} : jLoop (jRun ((4, xs) : jX) 2000 38) ((4, xs) : jX) jm248 (f + 6) ((101, [(4, .int 32), (5, .int (b3)), (3, .int 2), (2, .int 0), (0, .ref 66), (1, .int (xs 1))], [], (jzv346 b0 b1 b2 b3)) : jS) = some (.inl (some (.int 2)), (jzv346 b0 b1 b2 b3)) := by
  refine jl_s (S' := ((103, [(4, .int 32), (5, .int (b3)), (3, .int 2), (2, .int 0), (0, .ref 66), (1, .int (xs 1))], [.int 32], (jzv346 b0 b1 b2 b3)) : jS)) rfl ?_
  refine jl_s (S' := ((105, [(4, .int 32), (5, .int (b3)), (3, .int 2), (2, .int 0), (0, .ref 66), (1, .int (xs 1))], [.int 32, .int 32], (jzv346 b0 b1 b2 b3)) : jS)) rfl ?_
  refine jl_s (S' := ((150, [(4, .int 32), (5, .int (b3)), (3, .int 2), (2, .int 0), (0, .ref 66), (1, .int (xs 1))], [], (jzv346 b0 b1 b2 b3)) : jS)) rfl ?_
  refine jl_s (S' := ((151, [(4, .int 32), (5, .int (b3)), (3, .int 2), (2, .int 0), (0, .ref 66), (1, .int (xs 1))], [.ref 66], (jzv346 b0 b1 b2 b3)) : jS)) rfl ?_
  refine jl_s (S' := ((154, [(4, .int 32), (5, .int (b3)), (3, .int 2), (2, .int 0), (0, .ref 66), (1, .int (xs 1))], [.int 2], (jzv346 b0 b1 b2 b3)) : jS)) rfl ?_
  exact jl_r (r := (.inl (some (.int 2)), (jzv346 b0 b1 b2 b3))) rfl
set_option maxHeartbeats 4000000 in
set_option maxRecDepth 100000 in
theorem jzrp_VVZZ (xs : Nat → Int32) (b0 b1 b2 b3 : Int32) (e0 : ((xs 1) >>> (0 &&& 31)) &&& 255 = b0) (e1 : ((xs 1) >>> (8 &&& 31)) &&& 255 = b1) (e2 : ((xs 1) >>> (16 &&& 31)) &&& 255 = b2) (e3 : ((xs 1) >>> (24 &&& 31)) &&& 255 = b3) (h0 : jbv b0) (h1 : jbv b1) (h2 : jbz b2) (h3 : jbz b3) : jRun ((4, xs) : jX) 2000 39 248 [.ref 66, .int (xs 1)] (jzv342 b0 b1 b2 b3) = some (.inl (some (.int 2)), (jzv346 b0 b1 b2 b3)) := by
  refine jr_run (e := jm248) rfl (Nat.le_of_ble_eq_true rfl) ?_
  refine jzq506 xs b0 b1 b2 b3 _ ?_
  refine jzq662 xs b0 b1 b2 b3 _ e0 h0 ?_
  refine jzq730 xs b0 b1 b2 b3 _ e1 h1 ?_
  refine jzq732 xs b0 b1 b2 b3 _ e2 h2 ?_
  refine jzq626 xs b0 b1 b2 b3 _ e3 h3 ?_
  refine jzq735 xs b0 b1 b2 b3 ?_
  refine jzq737 xs b0 b1 b2 b3 e0 h0.1 ?_
  refine jzq739 xs b0 b1 b2 b3 e1 h1.1 ?_
  refine jzq741 xs b0 b1 b2 b3 e2 h2 ?_
  refine jzq743 xs b0 b1 b2 b3 e3 h3 ?_
  exact jzq745 xs b0 b1 b2 b3
set_option maxHeartbeats 4000000 in
set_option maxRecDepth 100000 in
theorem jzl746 (xs : Nat → Int32) (hop : xs 0 &&& 31 = 0) (b0 b1 b2 b3 : Int32) (e0 : ((Int32.toUInt32 (xs 1) >>> (Int32.toUInt32 0 &&& Int32.toUInt32 31)).toInt32) &&& 255 = b0) (e1 : ((Int32.toUInt32 (xs 1) >>> (Int32.toUInt32 8 &&& Int32.toUInt32 31)).toInt32) &&& 255 = b1) (e2 : ((Int32.toUInt32 (xs 1) >>> (Int32.toUInt32 16 &&& Int32.toUInt32 31)).toInt32) &&& 255 = b2) (e3 : ((Int32.toUInt32 (xs 1) >>> (Int32.toUInt32 24 &&& Int32.toUInt32 31)).toInt32) &&& 255 = b3) (g0 : ((xs 1) >>> (0 &&& 31)) &&& 255 = b0) (g1 : ((xs 1) >>> (8 &&& 31)) &&& 255 = b1) (g2 : ((xs 1) >>> (16 &&& 31)) &&& 255 = b2) (g3 : ((xs 1) >>> (24 &&& 31)) &&& 255 = b3) (h0 : jbv b0) (h1 : jbv b1) (h2 : jbz b2) (h3 : jbz b3) : jRun ((4, xs) : jX) 2000 39 244 [.ref 66] (jzv346 b0 b1 b2 b3) = some (.inl (some (.int 0)), (jzv346 b0 b1 b2 b3)) := by
  refine jr_run (e := jm244) rfl (Nat.le_of_ble_eq_true rfl) ?_
  refine jl_s (S' := ((1, [(0, .ref 66)], [.ref 66], (jzv346 b0 b1 b2 b3)) : jS)) rfl ?_
  refine jl_s (S' := ((4, [(0, .ref 66)], [.int 0], (jzv346 b0 b1 b2 b3)) : jS)) rfl ?_
  exact jl_r (r := (.inl (some (.int 0)), (jzv346 b0 b1 b2 b3))) rfl
set_option maxHeartbeats 4000000 in
set_option maxRecDepth 100000 in
theorem jzl747 (xs : Nat → Int32) (hop : xs 0 &&& 31 = 0) (b0 b1 b2 b3 : Int32) (e0 : ((Int32.toUInt32 (xs 1) >>> (Int32.toUInt32 0 &&& Int32.toUInt32 31)).toInt32) &&& 255 = b0) (e1 : ((Int32.toUInt32 (xs 1) >>> (Int32.toUInt32 8 &&& Int32.toUInt32 31)).toInt32) &&& 255 = b1) (e2 : ((Int32.toUInt32 (xs 1) >>> (Int32.toUInt32 16 &&& Int32.toUInt32 31)).toInt32) &&& 255 = b2) (e3 : ((Int32.toUInt32 (xs 1) >>> (Int32.toUInt32 24 &&& Int32.toUInt32 31)).toInt32) &&& 255 = b3) (g0 : ((xs 1) >>> (0 &&& 31)) &&& 255 = b0) (g1 : ((xs 1) >>> (8 &&& 31)) &&& 255 = b1) (g2 : ((xs 1) >>> (16 &&& 31)) &&& 255 = b2) (g3 : ((xs 1) >>> (24 &&& 31)) &&& 255 = b3) (h0 : jbv b0) (h1 : jbv b1) (h2 : jbz b2) (h3 : jbz b3) : jLoop (jRun ((4, xs) : jX) 2000 39) ((4, xs) : jX) jm18 1000 ((23, [(4, .int 0), (3, .ref 153), (2, .ref 66), (1, .ref 64), (0, .ref 63)], [], jzv181) : jS) = some (.inl (some (.int 1)), (jzv346 b0 b1 b2 b3)) := by
  refine jl_s (S' := ((25, [(4, .int 0), (3, .ref 153), (2, .ref 66), (1, .ref 64), (0, .ref 63)], [.int 0], jzv181) : jS)) rfl ?_
  refine jl_s (S' := ((26, [(4, .int 0), (3, .ref 153), (2, .ref 66), (1, .ref 64), (0, .ref 63)], [.ref 63, .int 0], jzv181) : jS)) rfl ?_
  refine jl_s (S' := ((27, [(4, .int 0), (3, .ref 153), (2, .ref 66), (1, .ref 64), (0, .ref 63)], [.int 4, .int 0], jzv181) : jS)) rfl ?_
  refine jl_s (S' := ((28, [(4, .int 0), (3, .ref 153), (2, .ref 66), (1, .ref 64), (0, .ref 63)], [.int 4, .int 4, .int 0], jzv181) : jS)) rfl ?_
  refine jl_s (S' := ((29, [(4, .int 0), (3, .ref 153), (2, .ref 66), (1, .ref 64), (0, .ref 63)], [.int 0, .int 0], jzv181) : jS)) rfl ?_
  refine jl_s (S' := ((32, [(4, .int 0), (3, .ref 153), (2, .ref 66), (1, .ref 64), (0, .ref 63)], [], jzv181) : jS)) rfl ?_
  refine jl_s (S' := ((33, [(4, .int 0), (3, .ref 153), (2, .ref 66), (1, .ref 64), (0, .ref 63)], [.ref 63], jzv181) : jS)) rfl ?_
  refine jl_s (S' := ((35, [(4, .int 0), (3, .ref 153), (2, .ref 66), (1, .ref 64), (0, .ref 63)], [.int 0, .ref 63], jzv181) : jS)) rfl ?_
  refine jl_s (S' := ((36, [(4, .int 0), (3, .ref 153), (2, .ref 66), (1, .ref 64), (0, .ref 63)], [.int (xs 0)], jzv181) : jS)) rfl ?_
  refine jl_s (S' := ((38, [(4, .int 0), (3, .ref 153), (2, .ref 66), (1, .ref 64), (0, .ref 63)], [.int 31, .int (xs 0)], jzv181) : jS)) rfl ?_
  refine jl_s (S' := ((39, [(4, .int 0), (3, .ref 153), (2, .ref 66), (1, .ref 64), (0, .ref 63)], [.int ((xs 0) &&& 31)], jzv181) : jS)) rfl ?_
  rw [hop]
  refine jl_s (S' := ((128, [(4, .int 0), (3, .ref 153), (2, .ref 66), (1, .ref 64), (0, .ref 63)], [], jzv181) : jS)) rfl ?_
  refine jl_s (S' := ((129, [(4, .int 0), (3, .ref 153), (2, .ref 66), (1, .ref 64), (0, .ref 63)], [.ref 64], jzv181) : jS)) rfl ?_
  refine jl_s (S' := ((130, [(4, .int 0), (3, .ref 153), (2, .ref 66), (1, .ref 64), (0, .ref 63)], [.ref 63, .ref 64], jzv181) : jS)) rfl ?_
  refine jl_s (S' := ((132, [(4, .int 0), (3, .ref 153), (2, .ref 66), (1, .ref 64), (0, .ref 63)], [.int 0, .ref 63, .ref 64], jzv181) : jS)) rfl ?_
  refine jl_s (S' := ((133, [(4, .int 0), (3, .ref 153), (2, .ref 66), (1, .ref 64), (0, .ref 63)], [.int 1, .int 0, .ref 63, .ref 64], jzv181) : jS)) rfl ?_
  refine jl_s (S' := ((134, [(4, .int 0), (3, .ref 153), (2, .ref 66), (1, .ref 64), (0, .ref 63)], [.int 1, .ref 63, .ref 64], jzv181) : jS)) rfl ?_
  refine jl_s (S' := ((135, [(4, .int 0), (3, .ref 153), (2, .ref 66), (1, .ref 64), (0, .ref 63)], [.int (xs 1), .ref 64], jzv181) : jS)) rfl ?_
  refine jl_s (S' := ((136, [(4, .int 0), (3, .ref 153), (2, .ref 66), (1, .ref 64), (0, .ref 63)], [.ref 153, .int (xs 1), .ref 64], jzv181) : jS)) rfl ?_
  refine jl_c (t := 0) (as := [.ref 64, .int (xs 1), .ref 153]) (V := jzv181) (r := (.inl (some (.int 0)), (jzv342 b0 b1 b2 b3))) (S' := ((139, [(4, .int 0), (3, .ref 153), (2, .ref 66), (1, .ref 64), (0, .ref 63)], [.int 0], (jzv342 b0 b1 b2 b3)) : jS)) rfl (jzl728 xs hop b0 b1 b2 b3 e0 e1 e2 e3 g0 g1 g2 g3 h0 h1 h2 h3) rfl ?_
  refine jl_s (S' := ((141, [(5, .int 0), (4, .int 0), (3, .ref 153), (2, .ref 66), (1, .ref 64), (0, .ref 63)], [], (jzv342 b0 b1 b2 b3)) : jS)) rfl ?_
  refine jl_s (S' := ((142, [(5, .int 0), (4, .int 0), (3, .ref 153), (2, .ref 66), (1, .ref 64), (0, .ref 63)], [.ref 66], (jzv342 b0 b1 b2 b3)) : jS)) rfl ?_
  refine jl_s (S' := ((143, [(5, .int 0), (4, .int 0), (3, .ref 153), (2, .ref 66), (1, .ref 64), (0, .ref 63)], [.ref 63, .ref 66], (jzv342 b0 b1 b2 b3)) : jS)) rfl ?_
  refine jl_s (S' := ((145, [(5, .int 0), (4, .int 0), (3, .ref 153), (2, .ref 66), (1, .ref 64), (0, .ref 63)], [.int 0, .ref 63, .ref 66], (jzv342 b0 b1 b2 b3)) : jS)) rfl ?_
  refine jl_s (S' := ((146, [(5, .int 0), (4, .int 0), (3, .ref 153), (2, .ref 66), (1, .ref 64), (0, .ref 63)], [.int 1, .int 0, .ref 63, .ref 66], (jzv342 b0 b1 b2 b3)) : jS)) rfl ?_
  refine jl_s (S' := ((147, [(5, .int 0), (4, .int 0), (3, .ref 153), (2, .ref 66), (1, .ref 64), (0, .ref 63)], [.int 1, .ref 63, .ref 66], (jzv342 b0 b1 b2 b3)) : jS)) rfl ?_
  refine jl_s (S' := ((148, [(5, .int 0), (4, .int 0), (3, .ref 153), (2, .ref 66), (1, .ref 64), (0, .ref 63)], [.int (xs 1), .ref 66], (jzv342 b0 b1 b2 b3)) : jS)) rfl ?_
  refine jl_c (t := 248) (as := [.ref 66, .int (xs 1)]) (V := (jzv342 b0 b1 b2 b3)) (r := (.inl (some (.int 2)), (jzv346 b0 b1 b2 b3))) (S' := ((151, [(5, .int 0), (4, .int 0), (3, .ref 153), (2, .ref 66), (1, .ref 64), (0, .ref 63)], [.int 2], (jzv346 b0 b1 b2 b3)) : jS)) rfl (jzrp_VVZZ xs b0 b1 b2 b3 g0 g1 g2 g3 h0 h1 h2 h3 ) rfl ?_
  refine jl_s (S' := ((153, [(6, .int 2), (5, .int 0), (4, .int 0), (3, .ref 153), (2, .ref 66), (1, .ref 64), (0, .ref 63)], [], (jzv346 b0 b1 b2 b3)) : jS)) rfl ?_
  refine jl_s (S' := ((154, [(6, .int 2), (5, .int 0), (4, .int 0), (3, .ref 153), (2, .ref 66), (1, .ref 64), (0, .ref 63)], [.ref 66], (jzv346 b0 b1 b2 b3)) : jS)) rfl ?_
  refine jl_c (t := 244) (as := [.ref 66]) (V := (jzv346 b0 b1 b2 b3)) (r := (.inl (some (.int 0)), (jzv346 b0 b1 b2 b3))) (S' := ((157, [(6, .int 2), (5, .int 0), (4, .int 0), (3, .ref 153), (2, .ref 66), (1, .ref 64), (0, .ref 63)], [.int 0], (jzv346 b0 b1 b2 b3)) : jS)) rfl (jzl746 xs hop b0 b1 b2 b3 e0 e1 e2 e3 g0 g1 g2 g3 h0 h1 h2 h3) rfl ?_
  refine jl_s (S' := ((159, [(6, .int 2), (5, .int 0), (4, .int 0), (3, .ref 153), (2, .ref 66), (1, .ref 64), (0, .ref 63)], [.int 0, .int 0], (jzv346 b0 b1 b2 b3)) : jS)) rfl ?_
  refine jl_s (S' := ((164, [(6, .int 2), (5, .int 0), (4, .int 0), (3, .ref 153), (2, .ref 66), (1, .ref 64), (0, .ref 63)], [], (jzv346 b0 b1 b2 b3)) : jS)) rfl ?_
  refine jl_s (S' := ((166, [(6, .int 2), (5, .int 0), (4, .int 0), (3, .ref 153), (2, .ref 66), (1, .ref 64), (0, .ref 63)], [.int 0], (jzv346 b0 b1 b2 b3)) : jS)) rfl ?_
  refine jl_s (S' := ((169, [(6, .int 2), (5, .int 0), (4, .int 0), (3, .ref 153), (2, .ref 66), (1, .ref 64), (0, .ref 63)], [], (jzv346 b0 b1 b2 b3)) : jS)) rfl ?_
  refine jl_s (S' := ((170, [(6, .int 2), (5, .int 0), (4, .int 0), (3, .ref 153), (2, .ref 66), (1, .ref 64), (0, .ref 63)], [.ref 153], (jzv346 b0 b1 b2 b3)) : jS)) rfl ?_
  refine jl_s (S' := ((171, [(6, .int 2), (5, .int 0), (4, .int 0), (3, .ref 153), (2, .ref 66), (1, .ref 64), (0, .ref 63)], [.int 0, .ref 153], (jzv346 b0 b1 b2 b3)) : jS)) rfl ?_
  refine jl_s (S' := ((172, [(6, .int 2), (5, .int 0), (4, .int 0), (3, .ref 153), (2, .ref 66), (1, .ref 64), (0, .ref 63)], [.long 2], (jzv346 b0 b1 b2 b3)) : jS)) rfl ?_
  refine jl_s (S' := ((174, [(6, .int 2), (5, .int 0), (4, .int 0), (3, .ref 153), (2, .ref 66), (1, .ref 64), (0, .ref 63)], [.int 2, .long 2], (jzv346 b0 b1 b2 b3)) : jS)) rfl ?_
  refine jl_s (S' := ((175, [(6, .int 2), (5, .int 0), (4, .int 0), (3, .ref 153), (2, .ref 66), (1, .ref 64), (0, .ref 63)], [.long 2, .long 2], (jzv346 b0 b1 b2 b3)) : jS)) rfl ?_
  refine jl_s (S' := ((176, [(6, .int 2), (5, .int 0), (4, .int 0), (3, .ref 153), (2, .ref 66), (1, .ref 64), (0, .ref 63)], [.int 0], (jzv346 b0 b1 b2 b3)) : jS)) rfl ?_
  refine jl_s (S' := ((181, [(6, .int 2), (5, .int 0), (4, .int 0), (3, .ref 153), (2, .ref 66), (1, .ref 64), (0, .ref 63)], [], (jzv346 b0 b1 b2 b3)) : jS)) rfl ?_
  refine jl_s (S' := ((1193, [(6, .int 2), (5, .int 0), (4, .int 0), (3, .ref 153), (2, .ref 66), (1, .ref 64), (0, .ref 63)], [], (jzv346 b0 b1 b2 b3)) : jS)) rfl ?_
  refine jl_s (S' := ((1196, [(4, .int 4), (6, .int 2), (5, .int 0), (3, .ref 153), (2, .ref 66), (1, .ref 64), (0, .ref 63)], [], (jzv346 b0 b1 b2 b3)) : jS)) rfl ?_
  refine jl_s (S' := ((23, [(4, .int 4), (6, .int 2), (5, .int 0), (3, .ref 153), (2, .ref 66), (1, .ref 64), (0, .ref 63)], [], (jzv346 b0 b1 b2 b3)) : jS)) rfl ?_
  refine jl_s (S' := ((25, [(4, .int 4), (6, .int 2), (5, .int 0), (3, .ref 153), (2, .ref 66), (1, .ref 64), (0, .ref 63)], [.int 4], (jzv346 b0 b1 b2 b3)) : jS)) rfl ?_
  refine jl_s (S' := ((26, [(4, .int 4), (6, .int 2), (5, .int 0), (3, .ref 153), (2, .ref 66), (1, .ref 64), (0, .ref 63)], [.ref 63, .int 4], (jzv346 b0 b1 b2 b3)) : jS)) rfl ?_
  refine jl_s (S' := ((27, [(4, .int 4), (6, .int 2), (5, .int 0), (3, .ref 153), (2, .ref 66), (1, .ref 64), (0, .ref 63)], [.int 4, .int 4], (jzv346 b0 b1 b2 b3)) : jS)) rfl ?_
  refine jl_s (S' := ((28, [(4, .int 4), (6, .int 2), (5, .int 0), (3, .ref 153), (2, .ref 66), (1, .ref 64), (0, .ref 63)], [.int 4, .int 4, .int 4], (jzv346 b0 b1 b2 b3)) : jS)) rfl ?_
  refine jl_s (S' := ((29, [(4, .int 4), (6, .int 2), (5, .int 0), (3, .ref 153), (2, .ref 66), (1, .ref 64), (0, .ref 63)], [.int 0, .int 4], (jzv346 b0 b1 b2 b3)) : jS)) rfl ?_
  refine jl_s (S' := ((1199, [(4, .int 4), (6, .int 2), (5, .int 0), (3, .ref 153), (2, .ref 66), (1, .ref 64), (0, .ref 63)], [], (jzv346 b0 b1 b2 b3)) : jS)) rfl ?_
  refine jl_s (S' := ((1200, [(4, .int 4), (6, .int 2), (5, .int 0), (3, .ref 153), (2, .ref 66), (1, .ref 64), (0, .ref 63)], [.int 1], (jzv346 b0 b1 b2 b3)) : jS)) rfl ?_
  exact jl_r (r := (.inl (some (.int 1)), (jzv346 b0 b1 b2 b3))) rfl
-- op 0 VVZZ: jzl747
def jzv347 (b0 b1 b2 b3 : Int32) : jH := [jzc190, (jzc196 b0 b1 b2 b3), jzc117, jzc7, jzc9, jzc9, jzc9, jzc9, jzc9, jzc17, jzc19, jzc19, jzc19, jzc19, jzc19, jzc19, jzc19, jzc19, jzc28, jzc28, jzc28, jzc28, jzc28, jzc28, jzc28, jzc28, jzc28, jzc28, jzc28, jzc28, jzc28, jzc28, jzc43, jzc43, jzc43, jzc43, jzc43, jzc49, jzc49, jzc52, jzc52, jzc52, jzc56, jzc56, jzc59, jzc56, jzc62, jzc28, jzc28, jzc28, jzc28, jzc28, jzc69, jzc71, jzc73, jzc43, jzc76, jzc52, jzc52, jzc80, jzc80, jzc80, jzc84, jzc52, jzc52, jzc52, jzc52, jzc52, jzc52, jzc52, jzc93, jzc93, jzc52, jzc52, jzc98, jzc100, jzc93, jzc52, jzc52, jzc52, jzc52, jzc107, jzc109, jzc111, jzc100, jzc100, jzc100, jzc111, jzc111, jzc210]
set_option maxHeartbeats 4000000 in
set_option maxRecDepth 100000 in
theorem jzl748 (xs : Nat → Int32) (hop : xs 0 &&& 31 = 0) (b0 b1 b2 b3 : Int32) (e0 : ((Int32.toUInt32 (xs 1) >>> (Int32.toUInt32 0 &&& Int32.toUInt32 31)).toInt32) &&& 255 = b0) (e1 : ((Int32.toUInt32 (xs 1) >>> (Int32.toUInt32 8 &&& Int32.toUInt32 31)).toInt32) &&& 255 = b1) (e2 : ((Int32.toUInt32 (xs 1) >>> (Int32.toUInt32 16 &&& Int32.toUInt32 31)).toInt32) &&& 255 = b2) (e3 : ((Int32.toUInt32 (xs 1) >>> (Int32.toUInt32 24 &&& Int32.toUInt32 31)).toInt32) &&& 255 = b3) (g0 : ((xs 1) >>> (0 &&& 31)) &&& 255 = b0) (g1 : ((xs 1) >>> (8 &&& 31)) &&& 255 = b1) (g2 : ((xs 1) >>> (16 &&& 31)) &&& 255 = b2) (g3 : ((xs 1) >>> (24 &&& 31)) &&& 255 = b3) (h0 : jbv b0) (h1 : jbv b1) (h2 : jbz b2) (h3 : jbv b3) : jRun ((4, xs) : jX) 2000 39 0 [.ref 64, .int (xs 1), .ref 153] jzv181 = some (.inl (some (.int 0)), (jzv347 b0 b1 b2 b3)) := by
  refine jr_run (e := jm0) rfl (Nat.le_of_ble_eq_true rfl) ?_
  refine jl_s (S' := ((1, [(0, .ref 64), (1, .int (xs 1)), (2, .ref 153)], [.ref 153], jzv181) : jS)) rfl ?_
  refine jl_s (S' := ((2, [(0, .ref 64), (1, .int (xs 1)), (2, .ref 153)], [.int 0, .ref 153], jzv181) : jS)) rfl ?_
  refine jl_s (S' := ((3, [(0, .ref 64), (1, .int (xs 1)), (2, .ref 153)], [.ref 64, .int 0, .ref 153], jzv181) : jS)) rfl ?_
  refine jl_s (S' := ((4, [(0, .ref 64), (1, .int (xs 1)), (2, .ref 153)], [.int (xs 1), .ref 64, .int 0, .ref 153], jzv181) : jS)) rfl ?_
  refine jl_c (t := 20) (as := [.ref 64, .int (xs 1)]) (V := jzv181) (r := (.inl (some (.int 3)), (jzv286 b0 b1 b2 b3))) (S' := ((7, [(0, .ref 64), (1, .int (xs 1)), (2, .ref 153)], [.int 3, .int 0, .ref 153], (jzv286 b0 b1 b2 b3)) : jS)) rfl (jzcp_VVZV xs b0 b1 b2 b3 e0 e1 e2 e3 h0 h1 h2 h3 ) rfl ?_
  refine jl_s (S' := ((8, [(0, .ref 64), (1, .int (xs 1)), (2, .ref 153)], [.long 3, .int 0, .ref 153], (jzv286 b0 b1 b2 b3)) : jS)) rfl ?_
  refine jl_s (S' := ((9, [(0, .ref 64), (1, .int (xs 1)), (2, .ref 153)], [], (jzv347 b0 b1 b2 b3)) : jS)) rfl ?_
  refine jl_s (S' := ((18, [(0, .ref 64), (1, .int (xs 1)), (2, .ref 153)], [], (jzv347 b0 b1 b2 b3)) : jS)) rfl ?_
  refine jl_s (S' := ((19, [(0, .ref 64), (1, .int (xs 1)), (2, .ref 153)], [.int 0], (jzv347 b0 b1 b2 b3)) : jS)) rfl ?_
  exact jl_r (r := (.inl (some (.int 0)), (jzv347 b0 b1 b2 b3))) rfl
set_option maxHeartbeats 4000000 in
set_option maxRecDepth 100000 in
theorem jzl749 (xs : Nat → Int32) (b0 b1 b2 b3 : Int32) : jRun ((4, xs) : jX) 2000 38 245 [.ref 66, .int 0, .int 0, .int 0] (jzv347 b0 b1 b2 b3) = some (.inl (some (.int 0)), (jzv347 b0 b1 b2 b3)) := by
  refine jr_run (e := jm245) rfl (Nat.le_of_ble_eq_true rfl) ?_
  refine jl_s (S' := ((1, [(0, .ref 66), (1, .int 0), (2, .int 0), (3, .int 0)], [.ref 66], (jzv347 b0 b1 b2 b3)) : jS)) rfl ?_
  refine jl_s (S' := ((2, [(0, .ref 66), (1, .int 0), (2, .int 0), (3, .int 0)], [.int 0, .ref 66], (jzv347 b0 b1 b2 b3)) : jS)) rfl ?_
  refine jl_s (S' := ((9, [(0, .ref 66), (1, .int 0), (2, .int 0), (3, .int 0)], [.ref 66], (jzv347 b0 b1 b2 b3)) : jS)) rfl ?_
  refine jl_s (S' := ((10, [(0, .ref 66), (1, .int 0), (2, .int 0), (3, .int 0)], [.int 0, .ref 66], (jzv347 b0 b1 b2 b3)) : jS)) rfl ?_
  refine jl_s (S' := ((17, [(0, .ref 66), (1, .int 0), (2, .int 0), (3, .int 0)], [.ref 66], (jzv347 b0 b1 b2 b3)) : jS)) rfl ?_
  refine jl_s (S' := ((18, [(0, .ref 66), (1, .int 0), (2, .int 0), (3, .int 0)], [.int 0, .ref 66], (jzv347 b0 b1 b2 b3)) : jS)) rfl ?_
  refine jl_s (S' := ((25, [(0, .ref 66), (1, .int 0), (2, .int 0), (3, .int 0)], [.ref 66], (jzv347 b0 b1 b2 b3)) : jS)) rfl ?_
  refine jl_s (S' := ((26, [(0, .ref 66), (1, .int 0), (2, .int 0), (3, .int 0)], [.int 0, .ref 66], (jzv347 b0 b1 b2 b3)) : jS)) rfl ?_
  refine jl_s (S' := ((29, [(0, .ref 66), (1, .int 0), (2, .int 0), (3, .int 0)], [], (jzv347 b0 b1 b2 b3)) : jS)) rfl ?_
  refine jl_s (S' := ((30, [(0, .ref 66), (1, .int 0), (2, .int 0), (3, .int 0)], [.ref 66], (jzv347 b0 b1 b2 b3)) : jS)) rfl ?_
  refine jl_s (S' := ((33, [(0, .ref 66), (1, .int 0), (2, .int 0), (3, .int 0)], [.int 0], (jzv347 b0 b1 b2 b3)) : jS)) rfl ?_
  refine jl_s (S' := ((40, [(0, .ref 66), (1, .int 0), (2, .int 0), (3, .int 0)], [], (jzv347 b0 b1 b2 b3)) : jS)) rfl ?_
  refine jl_s (S' := ((41, [(0, .ref 66), (1, .int 0), (2, .int 0), (3, .int 0)], [.int 0], (jzv347 b0 b1 b2 b3)) : jS)) rfl ?_
  exact jl_r (r := (.inl (some (.int 0)), (jzv347 b0 b1 b2 b3))) rfl
set_option maxHeartbeats 4000000 in
set_option maxRecDepth 100000 in
theorem jzq751 (xs : Nat → Int32) (b0 b1 b2 b3 : Int32) {f : Nat} {q : jO × jH} (hq : jLoop (jRun ((4, xs) : jX) 2000 38) ((4, xs) : jX) jm248 f ((101, [(4, .int 0), (3, .int 3), (2, .int 0), (5, .int (b3)), (0, .ref 66), (1, .int (xs 1))], [], (jzv347 b0 b1 b2 b3)) : jS) = some q) : jLoop (jRun ((4, xs) : jX) 2000 38) ((4, xs) : jX) jm248 (f + 19) ((7, [(4, .int 32), (3, .int 3), (2, .int 0), (5, .int (b3)), (0, .ref 66), (1, .int (xs 1))], [], (jzv347 b0 b1 b2 b3)) : jS) = some q := by
  refine jl_s (S' := ((9, [(4, .int 32), (3, .int 3), (2, .int 0), (5, .int (b3)), (0, .ref 66), (1, .int (xs 1))], [.int 32], (jzv347 b0 b1 b2 b3)) : jS)) rfl ?_
  refine jl_s (S' := ((11, [(4, .int 32), (3, .int 3), (2, .int 0), (5, .int (b3)), (0, .ref 66), (1, .int (xs 1))], [.int 32, .int 32], (jzv347 b0 b1 b2 b3)) : jS)) rfl ?_
  refine jl_s (S' := ((66, [(4, .int 32), (3, .int 3), (2, .int 0), (5, .int (b3)), (0, .ref 66), (1, .int (xs 1))], [], (jzv347 b0 b1 b2 b3)) : jS)) rfl ?_
  refine jl_s (S' := ((67, [(4, .int 32), (3, .int 3), (2, .int 0), (5, .int (b3)), (0, .ref 66), (1, .int (xs 1))], [.ref 66], (jzv347 b0 b1 b2 b3)) : jS)) rfl ?_
  refine jl_s (S' := ((68, [(4, .int 32), (3, .int 3), (2, .int 0), (5, .int (b3)), (0, .ref 66), (1, .int (xs 1))], [.int 0, .ref 66], (jzv347 b0 b1 b2 b3)) : jS)) rfl ?_
  refine jl_s (S' := ((69, [(4, .int 32), (3, .int 3), (2, .int 0), (5, .int (b3)), (0, .ref 66), (1, .int (xs 1))], [.int 0, .int 0, .ref 66], (jzv347 b0 b1 b2 b3)) : jS)) rfl ?_
  refine jl_s (S' := ((72, [(4, .int 32), (3, .int 3), (2, .int 0), (5, .int (b3)), (0, .ref 66), (1, .int (xs 1))], [.int 0, .ref 66], (jzv347 b0 b1 b2 b3)) : jS)) rfl ?_
  refine jl_s (S' := ((73, [(4, .int 32), (3, .int 3), (2, .int 0), (5, .int (b3)), (0, .ref 66), (1, .int (xs 1))], [.ref 66, .int 0, .ref 66], (jzv347 b0 b1 b2 b3)) : jS)) rfl ?_
  refine jl_s (S' := ((76, [(4, .int 32), (3, .int 3), (2, .int 0), (5, .int (b3)), (0, .ref 66), (1, .int (xs 1))], [.int 0, .int 0, .ref 66], (jzv347 b0 b1 b2 b3)) : jS)) rfl ?_
  refine jl_s (S' := ((77, [(4, .int 32), (3, .int 3), (2, .int 0), (5, .int (b3)), (0, .ref 66), (1, .int (xs 1))], [.int 3, .int 0, .int 0, .ref 66], (jzv347 b0 b1 b2 b3)) : jS)) rfl ?_
  refine jl_s (S' := ((78, [(4, .int 32), (3, .int 3), (2, .int 0), (5, .int (b3)), (0, .ref 66), (1, .int (xs 1))], [.int 3, .int 0, .ref 66], (jzv347 b0 b1 b2 b3)) : jS)) rfl ?_
  refine jl_s (S' := ((81, [(4, .int 32), (3, .int 3), (2, .int 0), (5, .int (b3)), (0, .ref 66), (1, .int (xs 1))], [.int 3000, .int 3, .int 0, .ref 66], (jzv347 b0 b1 b2 b3)) : jS)) rfl ?_
  refine jl_s (S' := ((88, [(4, .int 32), (3, .int 3), (2, .int 0), (5, .int (b3)), (0, .ref 66), (1, .int (xs 1))], [.int 0, .ref 66], (jzv347 b0 b1 b2 b3)) : jS)) rfl ?_
  refine jl_s (S' := ((89, [(4, .int 32), (3, .int 3), (2, .int 0), (5, .int (b3)), (0, .ref 66), (1, .int (xs 1))], [.int 0, .int 0, .ref 66], (jzv347 b0 b1 b2 b3)) : jS)) rfl ?_
  refine jl_s (S' := ((90, [(4, .int 32), (3, .int 3), (2, .int 0), (5, .int (b3)), (0, .ref 66), (1, .int (xs 1))], [.int 0, .int 0, .int 0, .ref 66], (jzv347 b0 b1 b2 b3)) : jS)) rfl ?_
  refine jl_c (t := 245) (as := [.ref 66, .int 0, .int 0, .int 0]) (V := (jzv347 b0 b1 b2 b3)) (r := (.inl (some (.int 0)), (jzv347 b0 b1 b2 b3))) (S' := ((93, [(4, .int 32), (3, .int 3), (2, .int 0), (5, .int (b3)), (0, .ref 66), (1, .int (xs 1))], [.int 0], (jzv347 b0 b1 b2 b3)) : jS)) rfl (jzl749 xs b0 b1 b2 b3) rfl ?_
  refine jl_s (S' := ((98, [(4, .int 32), (3, .int 3), (2, .int 0), (5, .int (b3)), (0, .ref 66), (1, .int (xs 1))], [], (jzv347 b0 b1 b2 b3)) : jS)) rfl ?_
  refine jl_s (S' := ((99, [(4, .int 32), (3, .int 3), (2, .int 0), (5, .int (b3)), (0, .ref 66), (1, .int (xs 1))], [.int 0], (jzv347 b0 b1 b2 b3)) : jS)) rfl ?_
  refine jl_s (S' := ((101, [(4, .int 0), (3, .int 3), (2, .int 0), (5, .int (b3)), (0, .ref 66), (1, .int (xs 1))], [], (jzv347 b0 b1 b2 b3)) : jS)) rfl ?_
  exact hq
def jzv348 (b0 b1 b2 b3 : Int32) : jH := [jzc190, (jzc196 b0 b1 b2 b3), jzc117, (jzc213 b0 b1 b2 b3), jzc9, jzc9, jzc9, jzc9, jzc9, jzc17, jzc19, jzc19, jzc19, jzc19, jzc19, jzc19, jzc19, jzc19, jzc28, jzc28, jzc28, jzc28, jzc28, jzc28, jzc28, jzc28, jzc28, jzc28, jzc28, jzc28, jzc28, jzc28, jzc43, jzc43, jzc43, jzc43, jzc43, jzc49, jzc49, jzc52, jzc52, jzc52, jzc56, jzc56, jzc59, jzc56, jzc62, jzc28, jzc28, jzc28, jzc28, jzc28, jzc69, jzc71, jzc73, jzc43, jzc76, jzc52, jzc52, jzc80, jzc80, jzc80, jzc84, jzc52, jzc52, jzc52, jzc52, jzc52, jzc52, jzc52, jzc93, jzc93, jzc52, jzc52, jzc98, jzc100, jzc93, jzc52, jzc52, jzc52, jzc52, jzc107, jzc109, jzc111, jzc100, jzc100, jzc100, jzc111, jzc111, jzc210]
def jzv349 (b0 b1 b2 b3 : Int32) : jH := [jzc190, (jzc196 b0 b1 b2 b3), jzc202, (jzc213 b0 b1 b2 b3), jzc9, jzc9, jzc9, jzc9, jzc9, jzc17, jzc19, jzc19, jzc19, jzc19, jzc19, jzc19, jzc19, jzc19, jzc28, jzc28, jzc28, jzc28, jzc28, jzc28, jzc28, jzc28, jzc28, jzc28, jzc28, jzc28, jzc28, jzc28, jzc43, jzc43, jzc43, jzc43, jzc43, jzc49, jzc49, jzc52, jzc52, jzc52, jzc56, jzc56, jzc59, jzc56, jzc62, jzc28, jzc28, jzc28, jzc28, jzc28, jzc69, jzc71, jzc73, jzc43, jzc76, jzc52, jzc52, jzc80, jzc80, jzc80, jzc84, jzc52, jzc52, jzc52, jzc52, jzc52, jzc52, jzc52, jzc93, jzc93, jzc52, jzc52, jzc98, jzc100, jzc93, jzc52, jzc52, jzc52, jzc52, jzc107, jzc109, jzc111, jzc100, jzc100, jzc100, jzc111, jzc111, jzc210]
set_option maxHeartbeats 4000000 in
set_option maxRecDepth 100000 in
theorem jzq753 (xs : Nat → Int32) (b0 b1 b2 b3 : Int32) (e : ((xs 1) >>> (0 &&& 31)) &&& 255 = b0) (h : jbn b0) {f : Nat} {q : jO × jH} (hq : jLoop (jRun ((4, xs) : jX) 2000 38) ((4, xs) : jX) jm248 f ((101, [(4, .int 8), (5, .int (b0)), (3, .int 3), (2, .int 0), (0, .ref 66), (1, .int (xs 1))], [], (jzv349 b0 b1 b2 b3)) : jS) = some q) : jLoop (jRun ((4, xs) : jX) 2000 38) ((4, xs) : jX) jm248 (f + 25) ((101, [(4, .int 0), (3, .int 3), (2, .int 0), (5, .int (b3)), (0, .ref 66), (1, .int (xs 1))], [], (jzv347 b0 b1 b2 b3)) : jS) = some q := by
  refine jl_s (S' := ((103, [(4, .int 0), (3, .int 3), (2, .int 0), (5, .int (b3)), (0, .ref 66), (1, .int (xs 1))], [.int 0], (jzv347 b0 b1 b2 b3)) : jS)) rfl ?_
  refine jl_s (S' := ((105, [(4, .int 0), (3, .int 3), (2, .int 0), (5, .int (b3)), (0, .ref 66), (1, .int (xs 1))], [.int 32, .int 0], (jzv347 b0 b1 b2 b3)) : jS)) rfl ?_
  refine jl_s (S' := ((108, [(4, .int 0), (3, .int 3), (2, .int 0), (5, .int (b3)), (0, .ref 66), (1, .int (xs 1))], [], (jzv347 b0 b1 b2 b3)) : jS)) rfl ?_
  refine jl_s (S' := ((109, [(4, .int 0), (3, .int 3), (2, .int 0), (5, .int (b3)), (0, .ref 66), (1, .int (xs 1))], [.int (xs 1)], (jzv347 b0 b1 b2 b3)) : jS)) rfl ?_
  refine jl_s (S' := ((111, [(4, .int 0), (3, .int 3), (2, .int 0), (5, .int (b3)), (0, .ref 66), (1, .int (xs 1))], [.int 0, .int (xs 1)], (jzv347 b0 b1 b2 b3)) : jS)) rfl ?_
  refine jl_s (S' := ((112, [(4, .int 0), (3, .int 3), (2, .int 0), (5, .int (b3)), (0, .ref 66), (1, .int (xs 1))], [.int ((xs 1) >>> (0 &&& 31))], (jzv347 b0 b1 b2 b3)) : jS)) rfl ?_
  refine jl_s (S' := ((115, [(4, .int 0), (3, .int 3), (2, .int 0), (5, .int (b3)), (0, .ref 66), (1, .int (xs 1))], [.int 255, .int ((xs 1) >>> (0 &&& 31))], (jzv347 b0 b1 b2 b3)) : jS)) rfl ?_
  refine jl_s (S' := ((116, [(4, .int 0), (3, .int 3), (2, .int 0), (5, .int (b3)), (0, .ref 66), (1, .int (xs 1))], [.int (((xs 1) >>> (0 &&& 31)) &&& 255)], (jzv347 b0 b1 b2 b3)) : jS)) rfl ?_
  rw [e]
  refine jl_s (S' := ((118, [(5, .int (b0)), (4, .int 0), (3, .int 3), (2, .int 0), (0, .ref 66), (1, .int (xs 1))], [], (jzv347 b0 b1 b2 b3)) : jS)) rfl ?_
  refine jl_s (S' := ((120, [(5, .int (b0)), (4, .int 0), (3, .int 3), (2, .int 0), (0, .ref 66), (1, .int (xs 1))], [.int (b0)], (jzv347 b0 b1 b2 b3)) : jS)) rfl ?_
  refine jl_iff (e := jm248) (o := 24) rfl (h.1) ?_
  refine jl_s (S' := ((124, [(5, .int (b0)), (4, .int 0), (3, .int 3), (2, .int 0), (0, .ref 66), (1, .int (xs 1))], [.ref 66], (jzv347 b0 b1 b2 b3)) : jS)) rfl ?_
  refine jl_s (S' := ((127, [(5, .int (b0)), (4, .int 0), (3, .int 3), (2, .int 0), (0, .ref 66), (1, .int (xs 1))], [.ref 67], (jzv347 b0 b1 b2 b3)) : jS)) rfl ?_
  refine jl_s (S' := ((128, [(5, .int (b0)), (4, .int 0), (3, .int 3), (2, .int 0), (0, .ref 66), (1, .int (xs 1))], [.ref 66, .ref 67], (jzv347 b0 b1 b2 b3)) : jS)) rfl ?_
  refine jl_s (S' := ((131, [(5, .int (b0)), (4, .int 0), (3, .int 3), (2, .int 0), (0, .ref 66), (1, .int (xs 1))], [.int 0, .ref 67], (jzv347 b0 b1 b2 b3)) : jS)) rfl ?_
  refine jl_s (S' := ((133, [(5, .int (b0)), (4, .int 0), (3, .int 3), (2, .int 0), (0, .ref 66), (1, .int (xs 1))], [.int (b0), .int 0, .ref 67], (jzv347 b0 b1 b2 b3)) : jS)) rfl ?_
  refine jl_s (S' := ((134, [(5, .int (b0)), (4, .int 0), (3, .int 3), (2, .int 0), (0, .ref 66), (1, .int (xs 1))], [], (jzv348 b0 b1 b2 b3)) : jS)) rfl ?_
  refine jl_s (S' := ((135, [(5, .int (b0)), (4, .int 0), (3, .int 3), (2, .int 0), (0, .ref 66), (1, .int (xs 1))], [.ref 66], (jzv348 b0 b1 b2 b3)) : jS)) rfl ?_
  refine jl_s (S' := ((136, [(5, .int (b0)), (4, .int 0), (3, .int 3), (2, .int 0), (0, .ref 66), (1, .int (xs 1))], [.ref 66, .ref 66], (jzv348 b0 b1 b2 b3)) : jS)) rfl ?_
  refine jl_s (S' := ((139, [(5, .int (b0)), (4, .int 0), (3, .int 3), (2, .int 0), (0, .ref 66), (1, .int (xs 1))], [.int 0, .ref 66], (jzv348 b0 b1 b2 b3)) : jS)) rfl ?_
  refine jl_s (S' := ((140, [(5, .int (b0)), (4, .int 0), (3, .int 3), (2, .int 0), (0, .ref 66), (1, .int (xs 1))], [.int 1, .int 0, .ref 66], (jzv348 b0 b1 b2 b3)) : jS)) rfl ?_
  refine jl_s (S' := ((141, [(5, .int (b0)), (4, .int 0), (3, .int 3), (2, .int 0), (0, .ref 66), (1, .int (xs 1))], [.int 1, .ref 66], (jzv348 b0 b1 b2 b3)) : jS)) rfl ?_
  refine jl_s (S' := ((144, [(5, .int (b0)), (4, .int 0), (3, .int 3), (2, .int 0), (0, .ref 66), (1, .int (xs 1))], [], (jzv349 b0 b1 b2 b3)) : jS)) rfl ?_
  refine jl_s (S' := ((147, [(4, .int 8), (5, .int (b0)), (3, .int 3), (2, .int 0), (0, .ref 66), (1, .int (xs 1))], [], (jzv349 b0 b1 b2 b3)) : jS)) rfl ?_
  refine jl_s (S' := ((101, [(4, .int 8), (5, .int (b0)), (3, .int 3), (2, .int 0), (0, .ref 66), (1, .int (xs 1))], [], (jzv349 b0 b1 b2 b3)) : jS)) rfl ?_
  exact hq
def jzv350 (b0 b1 b2 b3 : Int32) : jH := [jzc190, (jzc196 b0 b1 b2 b3), jzc202, (jzc217 b0 b1 b2 b3), jzc9, jzc9, jzc9, jzc9, jzc9, jzc17, jzc19, jzc19, jzc19, jzc19, jzc19, jzc19, jzc19, jzc19, jzc28, jzc28, jzc28, jzc28, jzc28, jzc28, jzc28, jzc28, jzc28, jzc28, jzc28, jzc28, jzc28, jzc28, jzc43, jzc43, jzc43, jzc43, jzc43, jzc49, jzc49, jzc52, jzc52, jzc52, jzc56, jzc56, jzc59, jzc56, jzc62, jzc28, jzc28, jzc28, jzc28, jzc28, jzc69, jzc71, jzc73, jzc43, jzc76, jzc52, jzc52, jzc80, jzc80, jzc80, jzc84, jzc52, jzc52, jzc52, jzc52, jzc52, jzc52, jzc52, jzc93, jzc93, jzc52, jzc52, jzc98, jzc100, jzc93, jzc52, jzc52, jzc52, jzc52, jzc107, jzc109, jzc111, jzc100, jzc100, jzc100, jzc111, jzc111, jzc210]
def jzv351 (b0 b1 b2 b3 : Int32) : jH := [jzc190, (jzc196 b0 b1 b2 b3), jzc206, (jzc217 b0 b1 b2 b3), jzc9, jzc9, jzc9, jzc9, jzc9, jzc17, jzc19, jzc19, jzc19, jzc19, jzc19, jzc19, jzc19, jzc19, jzc28, jzc28, jzc28, jzc28, jzc28, jzc28, jzc28, jzc28, jzc28, jzc28, jzc28, jzc28, jzc28, jzc28, jzc43, jzc43, jzc43, jzc43, jzc43, jzc49, jzc49, jzc52, jzc52, jzc52, jzc56, jzc56, jzc59, jzc56, jzc62, jzc28, jzc28, jzc28, jzc28, jzc28, jzc69, jzc71, jzc73, jzc43, jzc76, jzc52, jzc52, jzc80, jzc80, jzc80, jzc84, jzc52, jzc52, jzc52, jzc52, jzc52, jzc52, jzc52, jzc93, jzc93, jzc52, jzc52, jzc98, jzc100, jzc93, jzc52, jzc52, jzc52, jzc52, jzc107, jzc109, jzc111, jzc100, jzc100, jzc100, jzc111, jzc111, jzc210]
set_option maxHeartbeats 4000000 in
set_option maxRecDepth 100000 in
theorem jzq755 (xs : Nat → Int32) (b0 b1 b2 b3 : Int32) (e : ((xs 1) >>> (8 &&& 31)) &&& 255 = b1) (h : jbn b1) {f : Nat} {q : jO × jH} (hq : jLoop (jRun ((4, xs) : jX) 2000 38) ((4, xs) : jX) jm248 f ((101, [(4, .int 16), (5, .int (b1)), (3, .int 3), (2, .int 0), (0, .ref 66), (1, .int (xs 1))], [], (jzv351 b0 b1 b2 b3)) : jS) = some q) : jLoop (jRun ((4, xs) : jX) 2000 38) ((4, xs) : jX) jm248 (f + 25) ((101, [(4, .int 8), (5, .int (b0)), (3, .int 3), (2, .int 0), (0, .ref 66), (1, .int (xs 1))], [], (jzv349 b0 b1 b2 b3)) : jS) = some q := by
  refine jl_s (S' := ((103, [(4, .int 8), (5, .int (b0)), (3, .int 3), (2, .int 0), (0, .ref 66), (1, .int (xs 1))], [.int 8], (jzv349 b0 b1 b2 b3)) : jS)) rfl ?_
  refine jl_s (S' := ((105, [(4, .int 8), (5, .int (b0)), (3, .int 3), (2, .int 0), (0, .ref 66), (1, .int (xs 1))], [.int 32, .int 8], (jzv349 b0 b1 b2 b3)) : jS)) rfl ?_
  refine jl_s (S' := ((108, [(4, .int 8), (5, .int (b0)), (3, .int 3), (2, .int 0), (0, .ref 66), (1, .int (xs 1))], [], (jzv349 b0 b1 b2 b3)) : jS)) rfl ?_
  refine jl_s (S' := ((109, [(4, .int 8), (5, .int (b0)), (3, .int 3), (2, .int 0), (0, .ref 66), (1, .int (xs 1))], [.int (xs 1)], (jzv349 b0 b1 b2 b3)) : jS)) rfl ?_
  refine jl_s (S' := ((111, [(4, .int 8), (5, .int (b0)), (3, .int 3), (2, .int 0), (0, .ref 66), (1, .int (xs 1))], [.int 8, .int (xs 1)], (jzv349 b0 b1 b2 b3)) : jS)) rfl ?_
  refine jl_s (S' := ((112, [(4, .int 8), (5, .int (b0)), (3, .int 3), (2, .int 0), (0, .ref 66), (1, .int (xs 1))], [.int ((xs 1) >>> (8 &&& 31))], (jzv349 b0 b1 b2 b3)) : jS)) rfl ?_
  refine jl_s (S' := ((115, [(4, .int 8), (5, .int (b0)), (3, .int 3), (2, .int 0), (0, .ref 66), (1, .int (xs 1))], [.int 255, .int ((xs 1) >>> (8 &&& 31))], (jzv349 b0 b1 b2 b3)) : jS)) rfl ?_
  refine jl_s (S' := ((116, [(4, .int 8), (5, .int (b0)), (3, .int 3), (2, .int 0), (0, .ref 66), (1, .int (xs 1))], [.int (((xs 1) >>> (8 &&& 31)) &&& 255)], (jzv349 b0 b1 b2 b3)) : jS)) rfl ?_
  rw [e]
  refine jl_s (S' := ((118, [(5, .int (b1)), (4, .int 8), (3, .int 3), (2, .int 0), (0, .ref 66), (1, .int (xs 1))], [], (jzv349 b0 b1 b2 b3)) : jS)) rfl ?_
  refine jl_s (S' := ((120, [(5, .int (b1)), (4, .int 8), (3, .int 3), (2, .int 0), (0, .ref 66), (1, .int (xs 1))], [.int (b1)], (jzv349 b0 b1 b2 b3)) : jS)) rfl ?_
  refine jl_iff (e := jm248) (o := 24) rfl (h.1) ?_
  refine jl_s (S' := ((124, [(5, .int (b1)), (4, .int 8), (3, .int 3), (2, .int 0), (0, .ref 66), (1, .int (xs 1))], [.ref 66], (jzv349 b0 b1 b2 b3)) : jS)) rfl ?_
  refine jl_s (S' := ((127, [(5, .int (b1)), (4, .int 8), (3, .int 3), (2, .int 0), (0, .ref 66), (1, .int (xs 1))], [.ref 67], (jzv349 b0 b1 b2 b3)) : jS)) rfl ?_
  refine jl_s (S' := ((128, [(5, .int (b1)), (4, .int 8), (3, .int 3), (2, .int 0), (0, .ref 66), (1, .int (xs 1))], [.ref 66, .ref 67], (jzv349 b0 b1 b2 b3)) : jS)) rfl ?_
  refine jl_s (S' := ((131, [(5, .int (b1)), (4, .int 8), (3, .int 3), (2, .int 0), (0, .ref 66), (1, .int (xs 1))], [.int 1, .ref 67], (jzv349 b0 b1 b2 b3)) : jS)) rfl ?_
  refine jl_s (S' := ((133, [(5, .int (b1)), (4, .int 8), (3, .int 3), (2, .int 0), (0, .ref 66), (1, .int (xs 1))], [.int (b1), .int 1, .ref 67], (jzv349 b0 b1 b2 b3)) : jS)) rfl ?_
  refine jl_s (S' := ((134, [(5, .int (b1)), (4, .int 8), (3, .int 3), (2, .int 0), (0, .ref 66), (1, .int (xs 1))], [], (jzv350 b0 b1 b2 b3)) : jS)) rfl ?_
  refine jl_s (S' := ((135, [(5, .int (b1)), (4, .int 8), (3, .int 3), (2, .int 0), (0, .ref 66), (1, .int (xs 1))], [.ref 66], (jzv350 b0 b1 b2 b3)) : jS)) rfl ?_
  refine jl_s (S' := ((136, [(5, .int (b1)), (4, .int 8), (3, .int 3), (2, .int 0), (0, .ref 66), (1, .int (xs 1))], [.ref 66, .ref 66], (jzv350 b0 b1 b2 b3)) : jS)) rfl ?_
  refine jl_s (S' := ((139, [(5, .int (b1)), (4, .int 8), (3, .int 3), (2, .int 0), (0, .ref 66), (1, .int (xs 1))], [.int 1, .ref 66], (jzv350 b0 b1 b2 b3)) : jS)) rfl ?_
  refine jl_s (S' := ((140, [(5, .int (b1)), (4, .int 8), (3, .int 3), (2, .int 0), (0, .ref 66), (1, .int (xs 1))], [.int 1, .int 1, .ref 66], (jzv350 b0 b1 b2 b3)) : jS)) rfl ?_
  refine jl_s (S' := ((141, [(5, .int (b1)), (4, .int 8), (3, .int 3), (2, .int 0), (0, .ref 66), (1, .int (xs 1))], [.int 2, .ref 66], (jzv350 b0 b1 b2 b3)) : jS)) rfl ?_
  refine jl_s (S' := ((144, [(5, .int (b1)), (4, .int 8), (3, .int 3), (2, .int 0), (0, .ref 66), (1, .int (xs 1))], [], (jzv351 b0 b1 b2 b3)) : jS)) rfl ?_
  refine jl_s (S' := ((147, [(4, .int 16), (5, .int (b1)), (3, .int 3), (2, .int 0), (0, .ref 66), (1, .int (xs 1))], [], (jzv351 b0 b1 b2 b3)) : jS)) rfl ?_
  refine jl_s (S' := ((101, [(4, .int 16), (5, .int (b1)), (3, .int 3), (2, .int 0), (0, .ref 66), (1, .int (xs 1))], [], (jzv351 b0 b1 b2 b3)) : jS)) rfl ?_
  exact hq
set_option maxHeartbeats 4000000 in
set_option maxRecDepth 100000 in
theorem jzq757 (xs : Nat → Int32) (b0 b1 b2 b3 : Int32) (e : ((xs 1) >>> (16 &&& 31)) &&& 255 = b2) (h : jbz b2) {f : Nat} {q : jO × jH} (hq : jLoop (jRun ((4, xs) : jX) 2000 38) ((4, xs) : jX) jm248 f ((101, [(4, .int 24), (5, .int (b2)), (3, .int 3), (2, .int 0), (0, .ref 66), (1, .int (xs 1))], [], (jzv351 b0 b1 b2 b3)) : jS) = some q) : jLoop (jRun ((4, xs) : jX) 2000 38) ((4, xs) : jX) jm248 (f + 13) ((101, [(4, .int 16), (5, .int (b1)), (3, .int 3), (2, .int 0), (0, .ref 66), (1, .int (xs 1))], [], (jzv351 b0 b1 b2 b3)) : jS) = some q := by
  refine jl_s (S' := ((103, [(4, .int 16), (5, .int (b1)), (3, .int 3), (2, .int 0), (0, .ref 66), (1, .int (xs 1))], [.int 16], (jzv351 b0 b1 b2 b3)) : jS)) rfl ?_
  refine jl_s (S' := ((105, [(4, .int 16), (5, .int (b1)), (3, .int 3), (2, .int 0), (0, .ref 66), (1, .int (xs 1))], [.int 32, .int 16], (jzv351 b0 b1 b2 b3)) : jS)) rfl ?_
  refine jl_s (S' := ((108, [(4, .int 16), (5, .int (b1)), (3, .int 3), (2, .int 0), (0, .ref 66), (1, .int (xs 1))], [], (jzv351 b0 b1 b2 b3)) : jS)) rfl ?_
  refine jl_s (S' := ((109, [(4, .int 16), (5, .int (b1)), (3, .int 3), (2, .int 0), (0, .ref 66), (1, .int (xs 1))], [.int (xs 1)], (jzv351 b0 b1 b2 b3)) : jS)) rfl ?_
  refine jl_s (S' := ((111, [(4, .int 16), (5, .int (b1)), (3, .int 3), (2, .int 0), (0, .ref 66), (1, .int (xs 1))], [.int 16, .int (xs 1)], (jzv351 b0 b1 b2 b3)) : jS)) rfl ?_
  refine jl_s (S' := ((112, [(4, .int 16), (5, .int (b1)), (3, .int 3), (2, .int 0), (0, .ref 66), (1, .int (xs 1))], [.int ((xs 1) >>> (16 &&& 31))], (jzv351 b0 b1 b2 b3)) : jS)) rfl ?_
  refine jl_s (S' := ((115, [(4, .int 16), (5, .int (b1)), (3, .int 3), (2, .int 0), (0, .ref 66), (1, .int (xs 1))], [.int 255, .int ((xs 1) >>> (16 &&& 31))], (jzv351 b0 b1 b2 b3)) : jS)) rfl ?_
  refine jl_s (S' := ((116, [(4, .int 16), (5, .int (b1)), (3, .int 3), (2, .int 0), (0, .ref 66), (1, .int (xs 1))], [.int (((xs 1) >>> (16 &&& 31)) &&& 255)], (jzv351 b0 b1 b2 b3)) : jS)) rfl ?_
  rw [e]
  refine jl_s (S' := ((118, [(5, .int (b2)), (4, .int 16), (3, .int 3), (2, .int 0), (0, .ref 66), (1, .int (xs 1))], [], (jzv351 b0 b1 b2 b3)) : jS)) rfl ?_
  refine jl_s (S' := ((120, [(5, .int (b2)), (4, .int 16), (3, .int 3), (2, .int 0), (0, .ref 66), (1, .int (xs 1))], [.int (b2)], (jzv351 b0 b1 b2 b3)) : jS)) rfl ?_
  refine jl_ift (e := jm248) (o := 24) rfl (h.1) (t := 144) rfl ?_
  refine jl_s (S' := ((147, [(4, .int 24), (5, .int (b2)), (3, .int 3), (2, .int 0), (0, .ref 66), (1, .int (xs 1))], [], (jzv351 b0 b1 b2 b3)) : jS)) rfl ?_
  refine jl_s (S' := ((101, [(4, .int 24), (5, .int (b2)), (3, .int 3), (2, .int 0), (0, .ref 66), (1, .int (xs 1))], [], (jzv351 b0 b1 b2 b3)) : jS)) rfl ?_
  exact hq
def jzc218 (b0 b1 b2 b3 : Int32) : jC := .inl (1, 3000, .inl (upd (upd (upd (fun _ => 0) 0 (b0)) 1 (b1)) 2 (b3)))
def jzv352 (b0 b1 b2 b3 : Int32) : jH := [jzc190, (jzc196 b0 b1 b2 b3), jzc206, (jzc218 b0 b1 b2 b3), jzc9, jzc9, jzc9, jzc9, jzc9, jzc17, jzc19, jzc19, jzc19, jzc19, jzc19, jzc19, jzc19, jzc19, jzc28, jzc28, jzc28, jzc28, jzc28, jzc28, jzc28, jzc28, jzc28, jzc28, jzc28, jzc28, jzc28, jzc28, jzc43, jzc43, jzc43, jzc43, jzc43, jzc49, jzc49, jzc52, jzc52, jzc52, jzc56, jzc56, jzc59, jzc56, jzc62, jzc28, jzc28, jzc28, jzc28, jzc28, jzc69, jzc71, jzc73, jzc43, jzc76, jzc52, jzc52, jzc80, jzc80, jzc80, jzc84, jzc52, jzc52, jzc52, jzc52, jzc52, jzc52, jzc52, jzc93, jzc93, jzc52, jzc52, jzc98, jzc100, jzc93, jzc52, jzc52, jzc52, jzc52, jzc107, jzc109, jzc111, jzc100, jzc100, jzc100, jzc111, jzc111, jzc210]
def jzv353 (b0 b1 b2 b3 : Int32) : jH := [jzc190, (jzc196 b0 b1 b2 b3), jzc212, (jzc218 b0 b1 b2 b3), jzc9, jzc9, jzc9, jzc9, jzc9, jzc17, jzc19, jzc19, jzc19, jzc19, jzc19, jzc19, jzc19, jzc19, jzc28, jzc28, jzc28, jzc28, jzc28, jzc28, jzc28, jzc28, jzc28, jzc28, jzc28, jzc28, jzc28, jzc28, jzc43, jzc43, jzc43, jzc43, jzc43, jzc49, jzc49, jzc52, jzc52, jzc52, jzc56, jzc56, jzc59, jzc56, jzc62, jzc28, jzc28, jzc28, jzc28, jzc28, jzc69, jzc71, jzc73, jzc43, jzc76, jzc52, jzc52, jzc80, jzc80, jzc80, jzc84, jzc52, jzc52, jzc52, jzc52, jzc52, jzc52, jzc52, jzc93, jzc93, jzc52, jzc52, jzc98, jzc100, jzc93, jzc52, jzc52, jzc52, jzc52, jzc107, jzc109, jzc111, jzc100, jzc100, jzc100, jzc111, jzc111, jzc210]
set_option maxHeartbeats 4000000 in
set_option maxRecDepth 100000 in
theorem jzq759 (xs : Nat → Int32) (b0 b1 b2 b3 : Int32) (e : ((xs 1) >>> (24 &&& 31)) &&& 255 = b3) (h : jbn b3) {f : Nat} {q : jO × jH} (hq : jLoop (jRun ((4, xs) : jX) 2000 38) ((4, xs) : jX) jm248 f ((101, [(4, .int 32), (5, .int (b3)), (3, .int 3), (2, .int 0), (0, .ref 66), (1, .int (xs 1))], [], (jzv353 b0 b1 b2 b3)) : jS) = some q) : jLoop (jRun ((4, xs) : jX) 2000 38) ((4, xs) : jX) jm248 (f + 25) ((101, [(4, .int 24), (5, .int (b2)), (3, .int 3), (2, .int 0), (0, .ref 66), (1, .int (xs 1))], [], (jzv351 b0 b1 b2 b3)) : jS) = some q := by
  refine jl_s (S' := ((103, [(4, .int 24), (5, .int (b2)), (3, .int 3), (2, .int 0), (0, .ref 66), (1, .int (xs 1))], [.int 24], (jzv351 b0 b1 b2 b3)) : jS)) rfl ?_
  refine jl_s (S' := ((105, [(4, .int 24), (5, .int (b2)), (3, .int 3), (2, .int 0), (0, .ref 66), (1, .int (xs 1))], [.int 32, .int 24], (jzv351 b0 b1 b2 b3)) : jS)) rfl ?_
  refine jl_s (S' := ((108, [(4, .int 24), (5, .int (b2)), (3, .int 3), (2, .int 0), (0, .ref 66), (1, .int (xs 1))], [], (jzv351 b0 b1 b2 b3)) : jS)) rfl ?_
  refine jl_s (S' := ((109, [(4, .int 24), (5, .int (b2)), (3, .int 3), (2, .int 0), (0, .ref 66), (1, .int (xs 1))], [.int (xs 1)], (jzv351 b0 b1 b2 b3)) : jS)) rfl ?_
  refine jl_s (S' := ((111, [(4, .int 24), (5, .int (b2)), (3, .int 3), (2, .int 0), (0, .ref 66), (1, .int (xs 1))], [.int 24, .int (xs 1)], (jzv351 b0 b1 b2 b3)) : jS)) rfl ?_
  refine jl_s (S' := ((112, [(4, .int 24), (5, .int (b2)), (3, .int 3), (2, .int 0), (0, .ref 66), (1, .int (xs 1))], [.int ((xs 1) >>> (24 &&& 31))], (jzv351 b0 b1 b2 b3)) : jS)) rfl ?_
  refine jl_s (S' := ((115, [(4, .int 24), (5, .int (b2)), (3, .int 3), (2, .int 0), (0, .ref 66), (1, .int (xs 1))], [.int 255, .int ((xs 1) >>> (24 &&& 31))], (jzv351 b0 b1 b2 b3)) : jS)) rfl ?_
  refine jl_s (S' := ((116, [(4, .int 24), (5, .int (b2)), (3, .int 3), (2, .int 0), (0, .ref 66), (1, .int (xs 1))], [.int (((xs 1) >>> (24 &&& 31)) &&& 255)], (jzv351 b0 b1 b2 b3)) : jS)) rfl ?_
  rw [e]
  refine jl_s (S' := ((118, [(5, .int (b3)), (4, .int 24), (3, .int 3), (2, .int 0), (0, .ref 66), (1, .int (xs 1))], [], (jzv351 b0 b1 b2 b3)) : jS)) rfl ?_
  refine jl_s (S' := ((120, [(5, .int (b3)), (4, .int 24), (3, .int 3), (2, .int 0), (0, .ref 66), (1, .int (xs 1))], [.int (b3)], (jzv351 b0 b1 b2 b3)) : jS)) rfl ?_
  refine jl_iff (e := jm248) (o := 24) rfl (h.1) ?_
  refine jl_s (S' := ((124, [(5, .int (b3)), (4, .int 24), (3, .int 3), (2, .int 0), (0, .ref 66), (1, .int (xs 1))], [.ref 66], (jzv351 b0 b1 b2 b3)) : jS)) rfl ?_
  refine jl_s (S' := ((127, [(5, .int (b3)), (4, .int 24), (3, .int 3), (2, .int 0), (0, .ref 66), (1, .int (xs 1))], [.ref 67], (jzv351 b0 b1 b2 b3)) : jS)) rfl ?_
  refine jl_s (S' := ((128, [(5, .int (b3)), (4, .int 24), (3, .int 3), (2, .int 0), (0, .ref 66), (1, .int (xs 1))], [.ref 66, .ref 67], (jzv351 b0 b1 b2 b3)) : jS)) rfl ?_
  refine jl_s (S' := ((131, [(5, .int (b3)), (4, .int 24), (3, .int 3), (2, .int 0), (0, .ref 66), (1, .int (xs 1))], [.int 2, .ref 67], (jzv351 b0 b1 b2 b3)) : jS)) rfl ?_
  refine jl_s (S' := ((133, [(5, .int (b3)), (4, .int 24), (3, .int 3), (2, .int 0), (0, .ref 66), (1, .int (xs 1))], [.int (b3), .int 2, .ref 67], (jzv351 b0 b1 b2 b3)) : jS)) rfl ?_
  refine jl_s (S' := ((134, [(5, .int (b3)), (4, .int 24), (3, .int 3), (2, .int 0), (0, .ref 66), (1, .int (xs 1))], [], (jzv352 b0 b1 b2 b3)) : jS)) rfl ?_
  refine jl_s (S' := ((135, [(5, .int (b3)), (4, .int 24), (3, .int 3), (2, .int 0), (0, .ref 66), (1, .int (xs 1))], [.ref 66], (jzv352 b0 b1 b2 b3)) : jS)) rfl ?_
  refine jl_s (S' := ((136, [(5, .int (b3)), (4, .int 24), (3, .int 3), (2, .int 0), (0, .ref 66), (1, .int (xs 1))], [.ref 66, .ref 66], (jzv352 b0 b1 b2 b3)) : jS)) rfl ?_
  refine jl_s (S' := ((139, [(5, .int (b3)), (4, .int 24), (3, .int 3), (2, .int 0), (0, .ref 66), (1, .int (xs 1))], [.int 2, .ref 66], (jzv352 b0 b1 b2 b3)) : jS)) rfl ?_
  refine jl_s (S' := ((140, [(5, .int (b3)), (4, .int 24), (3, .int 3), (2, .int 0), (0, .ref 66), (1, .int (xs 1))], [.int 1, .int 2, .ref 66], (jzv352 b0 b1 b2 b3)) : jS)) rfl ?_
  refine jl_s (S' := ((141, [(5, .int (b3)), (4, .int 24), (3, .int 3), (2, .int 0), (0, .ref 66), (1, .int (xs 1))], [.int 3, .ref 66], (jzv352 b0 b1 b2 b3)) : jS)) rfl ?_
  refine jl_s (S' := ((144, [(5, .int (b3)), (4, .int 24), (3, .int 3), (2, .int 0), (0, .ref 66), (1, .int (xs 1))], [], (jzv353 b0 b1 b2 b3)) : jS)) rfl ?_
  refine jl_s (S' := ((147, [(4, .int 32), (5, .int (b3)), (3, .int 3), (2, .int 0), (0, .ref 66), (1, .int (xs 1))], [], (jzv353 b0 b1 b2 b3)) : jS)) rfl ?_
  refine jl_s (S' := ((101, [(4, .int 32), (5, .int (b3)), (3, .int 3), (2, .int 0), (0, .ref 66), (1, .int (xs 1))], [], (jzv353 b0 b1 b2 b3)) : jS)) rfl ?_
  exact hq
set_option maxHeartbeats 4000000 in
set_option maxRecDepth 100000 in
theorem jzq761 (xs : Nat → Int32) (b0 b1 b2 b3 : Int32) {f : Nat} : jLoop (jRun ((4, xs) : jX) 2000 38) ((4, xs) : jX) jm248 (f + 6) ((101, [(4, .int 32), (5, .int (b3)), (3, .int 3), (2, .int 0), (0, .ref 66), (1, .int (xs 1))], [], (jzv353 b0 b1 b2 b3)) : jS) = some (.inl (some (.int 3)), (jzv353 b0 b1 b2 b3)) := by
  refine jl_s (S' := ((103, [(4, .int 32), (5, .int (b3)), (3, .int 3), (2, .int 0), (0, .ref 66), (1, .int (xs 1))], [.int 32], (jzv353 b0 b1 b2 b3)) : jS)) rfl ?_
  refine jl_s (S' := ((105, [(4, .int 32), (5, .int (b3)), (3, .int 3), (2, .int 0), (0, .ref 66), (1, .int (xs 1))], [.int 32, .int 32], (jzv353 b0 b1 b2 b3)) : jS)) rfl ?_
  refine jl_s (S' := ((150, [(4, .int 32), (5, .int (b3)), (3, .int 3), (2, .int 0), (0, .ref 66), (1, .int (xs 1))], [], (jzv353 b0 b1 b2 b3)) : jS)) rfl ?_
  refine jl_s (S' := ((151, [(4, .int 32), (5, .int (b3)), (3, .int 3), (2, .int 0), (0, .ref 66), (1, .int (xs 1))], [.ref 66], (jzv353 b0 b1 b2 b3)) : jS)) rfl ?_
  refine jl_s (S' := ((154, [(4, .int 32), (5, .int (b3)), (3, .int 3), (2, .int 0), (0, .ref 66), (1, .int (xs 1))], [.int 3], (jzv353 b0 b1 b2 b3)) : jS)) rfl ?_
  exact jl_r (r := (.inl (some (.int 3)), (jzv353 b0 b1 b2 b3))) rfl
set_option maxHeartbeats 4000000 in
set_option maxRecDepth 100000 in
theorem jzrp_VVZV (xs : Nat → Int32) (b0 b1 b2 b3 : Int32) (e0 : ((xs 1) >>> (0 &&& 31)) &&& 255 = b0) (e1 : ((xs 1) >>> (8 &&& 31)) &&& 255 = b1) (e2 : ((xs 1) >>> (16 &&& 31)) &&& 255 = b2) (e3 : ((xs 1) >>> (24 &&& 31)) &&& 255 = b3) (h0 : jbv b0) (h1 : jbv b1) (h2 : jbz b2) (h3 : jbv b3) : jRun ((4, xs) : jX) 2000 39 248 [.ref 66, .int (xs 1)] (jzv347 b0 b1 b2 b3) = some (.inl (some (.int 3)), (jzv353 b0 b1 b2 b3)) := by
  refine jr_run (e := jm248) rfl (Nat.le_of_ble_eq_true rfl) ?_
  refine jzq506 xs b0 b1 b2 b3 _ ?_
  refine jzq662 xs b0 b1 b2 b3 _ e0 h0 ?_
  refine jzq730 xs b0 b1 b2 b3 _ e1 h1 ?_
  refine jzq732 xs b0 b1 b2 b3 _ e2 h2 ?_
  refine jzq644 xs b0 b1 b2 b3 _ e3 h3 ?_
  refine jzq751 xs b0 b1 b2 b3 ?_
  refine jzq753 xs b0 b1 b2 b3 e0 h0.1 ?_
  refine jzq755 xs b0 b1 b2 b3 e1 h1.1 ?_
  refine jzq757 xs b0 b1 b2 b3 e2 h2 ?_
  refine jzq759 xs b0 b1 b2 b3 e3 h3.1 ?_
  exact jzq761 xs b0 b1 b2 b3
set_option maxHeartbeats 4000000 in
set_option maxRecDepth 100000 in
theorem jzl762 (xs : Nat → Int32) (hop : xs 0 &&& 31 = 0) (b0 b1 b2 b3 : Int32) (e0 : ((Int32.toUInt32 (xs 1) >>> (Int32.toUInt32 0 &&& Int32.toUInt32 31)).toInt32) &&& 255 = b0) (e1 : ((Int32.toUInt32 (xs 1) >>> (Int32.toUInt32 8 &&& Int32.toUInt32 31)).toInt32) &&& 255 = b1) (e2 : ((Int32.toUInt32 (xs 1) >>> (Int32.toUInt32 16 &&& Int32.toUInt32 31)).toInt32) &&& 255 = b2) (e3 : ((Int32.toUInt32 (xs 1) >>> (Int32.toUInt32 24 &&& Int32.toUInt32 31)).toInt32) &&& 255 = b3) (g0 : ((xs 1) >>> (0 &&& 31)) &&& 255 = b0) (g1 : ((xs 1) >>> (8 &&& 31)) &&& 255 = b1) (g2 : ((xs 1) >>> (16 &&& 31)) &&& 255 = b2) (g3 : ((xs 1) >>> (24 &&& 31)) &&& 255 = b3) (h0 : jbv b0) (h1 : jbv b1) (h2 : jbz b2) (h3 : jbv b3) : jRun ((4, xs) : jX) 2000 39 244 [.ref 66] (jzv353 b0 b1 b2 b3) = some (.inl (some (.int 0)), (jzv353 b0 b1 b2 b3)) := by
  refine jr_run (e := jm244) rfl (Nat.le_of_ble_eq_true rfl) ?_
  refine jl_s (S' := ((1, [(0, .ref 66)], [.ref 66], (jzv353 b0 b1 b2 b3)) : jS)) rfl ?_
  refine jl_s (S' := ((4, [(0, .ref 66)], [.int 0], (jzv353 b0 b1 b2 b3)) : jS)) rfl ?_
  exact jl_r (r := (.inl (some (.int 0)), (jzv353 b0 b1 b2 b3))) rfl
set_option maxHeartbeats 4000000 in
set_option maxRecDepth 100000 in
theorem jzl763 (xs : Nat → Int32) (hop : xs 0 &&& 31 = 0) (b0 b1 b2 b3 : Int32) (e0 : ((Int32.toUInt32 (xs 1) >>> (Int32.toUInt32 0 &&& Int32.toUInt32 31)).toInt32) &&& 255 = b0) (e1 : ((Int32.toUInt32 (xs 1) >>> (Int32.toUInt32 8 &&& Int32.toUInt32 31)).toInt32) &&& 255 = b1) (e2 : ((Int32.toUInt32 (xs 1) >>> (Int32.toUInt32 16 &&& Int32.toUInt32 31)).toInt32) &&& 255 = b2) (e3 : ((Int32.toUInt32 (xs 1) >>> (Int32.toUInt32 24 &&& Int32.toUInt32 31)).toInt32) &&& 255 = b3) (g0 : ((xs 1) >>> (0 &&& 31)) &&& 255 = b0) (g1 : ((xs 1) >>> (8 &&& 31)) &&& 255 = b1) (g2 : ((xs 1) >>> (16 &&& 31)) &&& 255 = b2) (g3 : ((xs 1) >>> (24 &&& 31)) &&& 255 = b3) (h0 : jbv b0) (h1 : jbv b1) (h2 : jbz b2) (h3 : jbv b3) : jLoop (jRun ((4, xs) : jX) 2000 39) ((4, xs) : jX) jm18 1000 ((23, [(4, .int 0), (3, .ref 153), (2, .ref 66), (1, .ref 64), (0, .ref 63)], [], jzv181) : jS) = some (.inl (some (.int 1)), (jzv353 b0 b1 b2 b3)) := by
  refine jl_s (S' := ((25, [(4, .int 0), (3, .ref 153), (2, .ref 66), (1, .ref 64), (0, .ref 63)], [.int 0], jzv181) : jS)) rfl ?_
  refine jl_s (S' := ((26, [(4, .int 0), (3, .ref 153), (2, .ref 66), (1, .ref 64), (0, .ref 63)], [.ref 63, .int 0], jzv181) : jS)) rfl ?_
  refine jl_s (S' := ((27, [(4, .int 0), (3, .ref 153), (2, .ref 66), (1, .ref 64), (0, .ref 63)], [.int 4, .int 0], jzv181) : jS)) rfl ?_
  refine jl_s (S' := ((28, [(4, .int 0), (3, .ref 153), (2, .ref 66), (1, .ref 64), (0, .ref 63)], [.int 4, .int 4, .int 0], jzv181) : jS)) rfl ?_
  refine jl_s (S' := ((29, [(4, .int 0), (3, .ref 153), (2, .ref 66), (1, .ref 64), (0, .ref 63)], [.int 0, .int 0], jzv181) : jS)) rfl ?_
  refine jl_s (S' := ((32, [(4, .int 0), (3, .ref 153), (2, .ref 66), (1, .ref 64), (0, .ref 63)], [], jzv181) : jS)) rfl ?_
  refine jl_s (S' := ((33, [(4, .int 0), (3, .ref 153), (2, .ref 66), (1, .ref 64), (0, .ref 63)], [.ref 63], jzv181) : jS)) rfl ?_
  refine jl_s (S' := ((35, [(4, .int 0), (3, .ref 153), (2, .ref 66), (1, .ref 64), (0, .ref 63)], [.int 0, .ref 63], jzv181) : jS)) rfl ?_
  refine jl_s (S' := ((36, [(4, .int 0), (3, .ref 153), (2, .ref 66), (1, .ref 64), (0, .ref 63)], [.int (xs 0)], jzv181) : jS)) rfl ?_
  refine jl_s (S' := ((38, [(4, .int 0), (3, .ref 153), (2, .ref 66), (1, .ref 64), (0, .ref 63)], [.int 31, .int (xs 0)], jzv181) : jS)) rfl ?_
  refine jl_s (S' := ((39, [(4, .int 0), (3, .ref 153), (2, .ref 66), (1, .ref 64), (0, .ref 63)], [.int ((xs 0) &&& 31)], jzv181) : jS)) rfl ?_
  rw [hop]
  refine jl_s (S' := ((128, [(4, .int 0), (3, .ref 153), (2, .ref 66), (1, .ref 64), (0, .ref 63)], [], jzv181) : jS)) rfl ?_
  refine jl_s (S' := ((129, [(4, .int 0), (3, .ref 153), (2, .ref 66), (1, .ref 64), (0, .ref 63)], [.ref 64], jzv181) : jS)) rfl ?_
  refine jl_s (S' := ((130, [(4, .int 0), (3, .ref 153), (2, .ref 66), (1, .ref 64), (0, .ref 63)], [.ref 63, .ref 64], jzv181) : jS)) rfl ?_
  refine jl_s (S' := ((132, [(4, .int 0), (3, .ref 153), (2, .ref 66), (1, .ref 64), (0, .ref 63)], [.int 0, .ref 63, .ref 64], jzv181) : jS)) rfl ?_
  refine jl_s (S' := ((133, [(4, .int 0), (3, .ref 153), (2, .ref 66), (1, .ref 64), (0, .ref 63)], [.int 1, .int 0, .ref 63, .ref 64], jzv181) : jS)) rfl ?_
  refine jl_s (S' := ((134, [(4, .int 0), (3, .ref 153), (2, .ref 66), (1, .ref 64), (0, .ref 63)], [.int 1, .ref 63, .ref 64], jzv181) : jS)) rfl ?_
  refine jl_s (S' := ((135, [(4, .int 0), (3, .ref 153), (2, .ref 66), (1, .ref 64), (0, .ref 63)], [.int (xs 1), .ref 64], jzv181) : jS)) rfl ?_
  refine jl_s (S' := ((136, [(4, .int 0), (3, .ref 153), (2, .ref 66), (1, .ref 64), (0, .ref 63)], [.ref 153, .int (xs 1), .ref 64], jzv181) : jS)) rfl ?_
  refine jl_c (t := 0) (as := [.ref 64, .int (xs 1), .ref 153]) (V := jzv181) (r := (.inl (some (.int 0)), (jzv347 b0 b1 b2 b3))) (S' := ((139, [(4, .int 0), (3, .ref 153), (2, .ref 66), (1, .ref 64), (0, .ref 63)], [.int 0], (jzv347 b0 b1 b2 b3)) : jS)) rfl (jzl748 xs hop b0 b1 b2 b3 e0 e1 e2 e3 g0 g1 g2 g3 h0 h1 h2 h3) rfl ?_
  refine jl_s (S' := ((141, [(5, .int 0), (4, .int 0), (3, .ref 153), (2, .ref 66), (1, .ref 64), (0, .ref 63)], [], (jzv347 b0 b1 b2 b3)) : jS)) rfl ?_
  refine jl_s (S' := ((142, [(5, .int 0), (4, .int 0), (3, .ref 153), (2, .ref 66), (1, .ref 64), (0, .ref 63)], [.ref 66], (jzv347 b0 b1 b2 b3)) : jS)) rfl ?_
  refine jl_s (S' := ((143, [(5, .int 0), (4, .int 0), (3, .ref 153), (2, .ref 66), (1, .ref 64), (0, .ref 63)], [.ref 63, .ref 66], (jzv347 b0 b1 b2 b3)) : jS)) rfl ?_
  refine jl_s (S' := ((145, [(5, .int 0), (4, .int 0), (3, .ref 153), (2, .ref 66), (1, .ref 64), (0, .ref 63)], [.int 0, .ref 63, .ref 66], (jzv347 b0 b1 b2 b3)) : jS)) rfl ?_
  refine jl_s (S' := ((146, [(5, .int 0), (4, .int 0), (3, .ref 153), (2, .ref 66), (1, .ref 64), (0, .ref 63)], [.int 1, .int 0, .ref 63, .ref 66], (jzv347 b0 b1 b2 b3)) : jS)) rfl ?_
  refine jl_s (S' := ((147, [(5, .int 0), (4, .int 0), (3, .ref 153), (2, .ref 66), (1, .ref 64), (0, .ref 63)], [.int 1, .ref 63, .ref 66], (jzv347 b0 b1 b2 b3)) : jS)) rfl ?_
  refine jl_s (S' := ((148, [(5, .int 0), (4, .int 0), (3, .ref 153), (2, .ref 66), (1, .ref 64), (0, .ref 63)], [.int (xs 1), .ref 66], (jzv347 b0 b1 b2 b3)) : jS)) rfl ?_
  refine jl_c (t := 248) (as := [.ref 66, .int (xs 1)]) (V := (jzv347 b0 b1 b2 b3)) (r := (.inl (some (.int 3)), (jzv353 b0 b1 b2 b3))) (S' := ((151, [(5, .int 0), (4, .int 0), (3, .ref 153), (2, .ref 66), (1, .ref 64), (0, .ref 63)], [.int 3], (jzv353 b0 b1 b2 b3)) : jS)) rfl (jzrp_VVZV xs b0 b1 b2 b3 g0 g1 g2 g3 h0 h1 h2 h3 ) rfl ?_
  refine jl_s (S' := ((153, [(6, .int 3), (5, .int 0), (4, .int 0), (3, .ref 153), (2, .ref 66), (1, .ref 64), (0, .ref 63)], [], (jzv353 b0 b1 b2 b3)) : jS)) rfl ?_
  refine jl_s (S' := ((154, [(6, .int 3), (5, .int 0), (4, .int 0), (3, .ref 153), (2, .ref 66), (1, .ref 64), (0, .ref 63)], [.ref 66], (jzv353 b0 b1 b2 b3)) : jS)) rfl ?_
  refine jl_c (t := 244) (as := [.ref 66]) (V := (jzv353 b0 b1 b2 b3)) (r := (.inl (some (.int 0)), (jzv353 b0 b1 b2 b3))) (S' := ((157, [(6, .int 3), (5, .int 0), (4, .int 0), (3, .ref 153), (2, .ref 66), (1, .ref 64), (0, .ref 63)], [.int 0], (jzv353 b0 b1 b2 b3)) : jS)) rfl (jzl762 xs hop b0 b1 b2 b3 e0 e1 e2 e3 g0 g1 g2 g3 h0 h1 h2 h3) rfl ?_
  refine jl_s (S' := ((159, [(6, .int 3), (5, .int 0), (4, .int 0), (3, .ref 153), (2, .ref 66), (1, .ref 64), (0, .ref 63)], [.int 0, .int 0], (jzv353 b0 b1 b2 b3)) : jS)) rfl ?_
  refine jl_s (S' := ((164, [(6, .int 3), (5, .int 0), (4, .int 0), (3, .ref 153), (2, .ref 66), (1, .ref 64), (0, .ref 63)], [], (jzv353 b0 b1 b2 b3)) : jS)) rfl ?_
  refine jl_s (S' := ((166, [(6, .int 3), (5, .int 0), (4, .int 0), (3, .ref 153), (2, .ref 66), (1, .ref 64), (0, .ref 63)], [.int 0], (jzv353 b0 b1 b2 b3)) : jS)) rfl ?_
  refine jl_s (S' := ((169, [(6, .int 3), (5, .int 0), (4, .int 0), (3, .ref 153), (2, .ref 66), (1, .ref 64), (0, .ref 63)], [], (jzv353 b0 b1 b2 b3)) : jS)) rfl ?_
  refine jl_s (S' := ((170, [(6, .int 3), (5, .int 0), (4, .int 0), (3, .ref 153), (2, .ref 66), (1, .ref 64), (0, .ref 63)], [.ref 153], (jzv353 b0 b1 b2 b3)) : jS)) rfl ?_
  refine jl_s (S' := ((171, [(6, .int 3), (5, .int 0), (4, .int 0), (3, .ref 153), (2, .ref 66), (1, .ref 64), (0, .ref 63)], [.int 0, .ref 153], (jzv353 b0 b1 b2 b3)) : jS)) rfl ?_
  refine jl_s (S' := ((172, [(6, .int 3), (5, .int 0), (4, .int 0), (3, .ref 153), (2, .ref 66), (1, .ref 64), (0, .ref 63)], [.long 3], (jzv353 b0 b1 b2 b3)) : jS)) rfl ?_
  refine jl_s (S' := ((174, [(6, .int 3), (5, .int 0), (4, .int 0), (3, .ref 153), (2, .ref 66), (1, .ref 64), (0, .ref 63)], [.int 3, .long 3], (jzv353 b0 b1 b2 b3)) : jS)) rfl ?_
  refine jl_s (S' := ((175, [(6, .int 3), (5, .int 0), (4, .int 0), (3, .ref 153), (2, .ref 66), (1, .ref 64), (0, .ref 63)], [.long 3, .long 3], (jzv353 b0 b1 b2 b3)) : jS)) rfl ?_
  refine jl_s (S' := ((176, [(6, .int 3), (5, .int 0), (4, .int 0), (3, .ref 153), (2, .ref 66), (1, .ref 64), (0, .ref 63)], [.int 0], (jzv353 b0 b1 b2 b3)) : jS)) rfl ?_
  refine jl_s (S' := ((181, [(6, .int 3), (5, .int 0), (4, .int 0), (3, .ref 153), (2, .ref 66), (1, .ref 64), (0, .ref 63)], [], (jzv353 b0 b1 b2 b3)) : jS)) rfl ?_
  refine jl_s (S' := ((1193, [(6, .int 3), (5, .int 0), (4, .int 0), (3, .ref 153), (2, .ref 66), (1, .ref 64), (0, .ref 63)], [], (jzv353 b0 b1 b2 b3)) : jS)) rfl ?_
  refine jl_s (S' := ((1196, [(4, .int 4), (6, .int 3), (5, .int 0), (3, .ref 153), (2, .ref 66), (1, .ref 64), (0, .ref 63)], [], (jzv353 b0 b1 b2 b3)) : jS)) rfl ?_
  refine jl_s (S' := ((23, [(4, .int 4), (6, .int 3), (5, .int 0), (3, .ref 153), (2, .ref 66), (1, .ref 64), (0, .ref 63)], [], (jzv353 b0 b1 b2 b3)) : jS)) rfl ?_
  refine jl_s (S' := ((25, [(4, .int 4), (6, .int 3), (5, .int 0), (3, .ref 153), (2, .ref 66), (1, .ref 64), (0, .ref 63)], [.int 4], (jzv353 b0 b1 b2 b3)) : jS)) rfl ?_
  refine jl_s (S' := ((26, [(4, .int 4), (6, .int 3), (5, .int 0), (3, .ref 153), (2, .ref 66), (1, .ref 64), (0, .ref 63)], [.ref 63, .int 4], (jzv353 b0 b1 b2 b3)) : jS)) rfl ?_
  refine jl_s (S' := ((27, [(4, .int 4), (6, .int 3), (5, .int 0), (3, .ref 153), (2, .ref 66), (1, .ref 64), (0, .ref 63)], [.int 4, .int 4], (jzv353 b0 b1 b2 b3)) : jS)) rfl ?_
  refine jl_s (S' := ((28, [(4, .int 4), (6, .int 3), (5, .int 0), (3, .ref 153), (2, .ref 66), (1, .ref 64), (0, .ref 63)], [.int 4, .int 4, .int 4], (jzv353 b0 b1 b2 b3)) : jS)) rfl ?_
  refine jl_s (S' := ((29, [(4, .int 4), (6, .int 3), (5, .int 0), (3, .ref 153), (2, .ref 66), (1, .ref 64), (0, .ref 63)], [.int 0, .int 4], (jzv353 b0 b1 b2 b3)) : jS)) rfl ?_
  refine jl_s (S' := ((1199, [(4, .int 4), (6, .int 3), (5, .int 0), (3, .ref 153), (2, .ref 66), (1, .ref 64), (0, .ref 63)], [], (jzv353 b0 b1 b2 b3)) : jS)) rfl ?_
  refine jl_s (S' := ((1200, [(4, .int 4), (6, .int 3), (5, .int 0), (3, .ref 153), (2, .ref 66), (1, .ref 64), (0, .ref 63)], [.int 1], (jzv353 b0 b1 b2 b3)) : jS)) rfl ?_
  exact jl_r (r := (.inl (some (.int 1)), (jzv353 b0 b1 b2 b3))) rfl
-- op 0 VVZV: jzl763
def jzv354 (b0 b1 b2 b3 : Int32) : jH := [jzc190, (jzc197 b0 b1 b2 b3), jzc117, jzc7, jzc9, jzc9, jzc9, jzc9, jzc9, jzc17, jzc19, jzc19, jzc19, jzc19, jzc19, jzc19, jzc19, jzc19, jzc28, jzc28, jzc28, jzc28, jzc28, jzc28, jzc28, jzc28, jzc28, jzc28, jzc28, jzc28, jzc28, jzc28, jzc43, jzc43, jzc43, jzc43, jzc43, jzc49, jzc49, jzc52, jzc52, jzc52, jzc56, jzc56, jzc59, jzc56, jzc62, jzc28, jzc28, jzc28, jzc28, jzc28, jzc69, jzc71, jzc73, jzc43, jzc76, jzc52, jzc52, jzc80, jzc80, jzc80, jzc84, jzc52, jzc52, jzc52, jzc52, jzc52, jzc52, jzc52, jzc93, jzc93, jzc52, jzc52, jzc98, jzc100, jzc93, jzc52, jzc52, jzc52, jzc52, jzc107, jzc109, jzc111, jzc100, jzc100, jzc100, jzc111, jzc111, jzc210]
set_option maxHeartbeats 4000000 in
set_option maxRecDepth 100000 in
theorem jzl764 (xs : Nat → Int32) (hop : xs 0 &&& 31 = 0) (b0 b1 b2 b3 : Int32) (e0 : ((Int32.toUInt32 (xs 1) >>> (Int32.toUInt32 0 &&& Int32.toUInt32 31)).toInt32) &&& 255 = b0) (e1 : ((Int32.toUInt32 (xs 1) >>> (Int32.toUInt32 8 &&& Int32.toUInt32 31)).toInt32) &&& 255 = b1) (e2 : ((Int32.toUInt32 (xs 1) >>> (Int32.toUInt32 16 &&& Int32.toUInt32 31)).toInt32) &&& 255 = b2) (e3 : ((Int32.toUInt32 (xs 1) >>> (Int32.toUInt32 24 &&& Int32.toUInt32 31)).toInt32) &&& 255 = b3) (g0 : ((xs 1) >>> (0 &&& 31)) &&& 255 = b0) (g1 : ((xs 1) >>> (8 &&& 31)) &&& 255 = b1) (g2 : ((xs 1) >>> (16 &&& 31)) &&& 255 = b2) (g3 : ((xs 1) >>> (24 &&& 31)) &&& 255 = b3) (h0 : jbv b0) (h1 : jbv b1) (h2 : jbv b2) (h3 : jbz b3) : jRun ((4, xs) : jX) 2000 39 0 [.ref 64, .int (xs 1), .ref 153] jzv181 = some (.inl (some (.int 0)), (jzv354 b0 b1 b2 b3)) := by
  refine jr_run (e := jm0) rfl (Nat.le_of_ble_eq_true rfl) ?_
  refine jl_s (S' := ((1, [(0, .ref 64), (1, .int (xs 1)), (2, .ref 153)], [.ref 153], jzv181) : jS)) rfl ?_
  refine jl_s (S' := ((2, [(0, .ref 64), (1, .int (xs 1)), (2, .ref 153)], [.int 0, .ref 153], jzv181) : jS)) rfl ?_
  refine jl_s (S' := ((3, [(0, .ref 64), (1, .int (xs 1)), (2, .ref 153)], [.ref 64, .int 0, .ref 153], jzv181) : jS)) rfl ?_
  refine jl_s (S' := ((4, [(0, .ref 64), (1, .int (xs 1)), (2, .ref 153)], [.int (xs 1), .ref 64, .int 0, .ref 153], jzv181) : jS)) rfl ?_
  refine jl_c (t := 20) (as := [.ref 64, .int (xs 1)]) (V := jzv181) (r := (.inl (some (.int 3)), (jzv288 b0 b1 b2 b3))) (S' := ((7, [(0, .ref 64), (1, .int (xs 1)), (2, .ref 153)], [.int 3, .int 0, .ref 153], (jzv288 b0 b1 b2 b3)) : jS)) rfl (jzcp_VVVZ xs b0 b1 b2 b3 e0 e1 e2 e3 h0 h1 h2 h3 ) rfl ?_
  refine jl_s (S' := ((8, [(0, .ref 64), (1, .int (xs 1)), (2, .ref 153)], [.long 3, .int 0, .ref 153], (jzv288 b0 b1 b2 b3)) : jS)) rfl ?_
  refine jl_s (S' := ((9, [(0, .ref 64), (1, .int (xs 1)), (2, .ref 153)], [], (jzv354 b0 b1 b2 b3)) : jS)) rfl ?_
  refine jl_s (S' := ((18, [(0, .ref 64), (1, .int (xs 1)), (2, .ref 153)], [], (jzv354 b0 b1 b2 b3)) : jS)) rfl ?_
  refine jl_s (S' := ((19, [(0, .ref 64), (1, .int (xs 1)), (2, .ref 153)], [.int 0], (jzv354 b0 b1 b2 b3)) : jS)) rfl ?_
  exact jl_r (r := (.inl (some (.int 0)), (jzv354 b0 b1 b2 b3))) rfl
set_option maxHeartbeats 4000000 in
set_option maxRecDepth 100000 in
theorem jzq766 (xs : Nat → Int32) (b0 b1 b2 b3 : Int32) (V : jH) (e : ((xs 1) >>> (16 &&& 31)) &&& 255 = b2) (h : jbv b2) {f : Nat} {q : jO × jH} (hq : jLoop (jRun ((4, xs) : jX) 2000 38) ((4, xs) : jX) jm248 f ((7, [(4, .int 24), (3, .int 3), (2, .int 0), (5, .int (b2)), (0, .ref 66), (1, .int (xs 1))], [], V) : jS) = some q) : jLoop (jRun ((4, xs) : jX) 2000 38) ((4, xs) : jX) jm248 (f + 27) ((7, [(4, .int 16), (3, .int 2), (2, .int 0), (5, .int (b1)), (0, .ref 66), (1, .int (xs 1))], [], V) : jS) = some q := by
  refine jl_s (S' := ((9, [(4, .int 16), (3, .int 2), (2, .int 0), (5, .int (b1)), (0, .ref 66), (1, .int (xs 1))], [.int 16], V) : jS)) rfl ?_
  refine jl_s (S' := ((11, [(4, .int 16), (3, .int 2), (2, .int 0), (5, .int (b1)), (0, .ref 66), (1, .int (xs 1))], [.int 32, .int 16], V) : jS)) rfl ?_
  refine jl_s (S' := ((14, [(4, .int 16), (3, .int 2), (2, .int 0), (5, .int (b1)), (0, .ref 66), (1, .int (xs 1))], [], V) : jS)) rfl ?_
  refine jl_s (S' := ((15, [(4, .int 16), (3, .int 2), (2, .int 0), (5, .int (b1)), (0, .ref 66), (1, .int (xs 1))], [.int (xs 1)], V) : jS)) rfl ?_
  refine jl_s (S' := ((17, [(4, .int 16), (3, .int 2), (2, .int 0), (5, .int (b1)), (0, .ref 66), (1, .int (xs 1))], [.int 16, .int (xs 1)], V) : jS)) rfl ?_
  refine jl_s (S' := ((18, [(4, .int 16), (3, .int 2), (2, .int 0), (5, .int (b1)), (0, .ref 66), (1, .int (xs 1))], [.int ((xs 1) >>> (16 &&& 31))], V) : jS)) rfl ?_
  refine jl_s (S' := ((21, [(4, .int 16), (3, .int 2), (2, .int 0), (5, .int (b1)), (0, .ref 66), (1, .int (xs 1))], [.int 255, .int ((xs 1) >>> (16 &&& 31))], V) : jS)) rfl ?_
  refine jl_s (S' := ((22, [(4, .int 16), (3, .int 2), (2, .int 0), (5, .int (b1)), (0, .ref 66), (1, .int (xs 1))], [.int (((xs 1) >>> (16 &&& 31)) &&& 255)], V) : jS)) rfl ?_
  rw [e]
  refine jl_s (S' := ((24, [(5, .int (b2)), (4, .int 16), (3, .int 2), (2, .int 0), (0, .ref 66), (1, .int (xs 1))], [], V) : jS)) rfl ?_
  refine jl_s (S' := ((25, [(5, .int (b2)), (4, .int 16), (3, .int 2), (2, .int 0), (0, .ref 66), (1, .int (xs 1))], [.int 0], V) : jS)) rfl ?_
  refine jl_s (S' := ((28, [(5, .int (b2)), (4, .int 16), (3, .int 2), (2, .int 0), (0, .ref 66), (1, .int (xs 1))], [], V) : jS)) rfl ?_
  refine jl_s (S' := ((30, [(5, .int (b2)), (4, .int 16), (3, .int 2), (2, .int 0), (0, .ref 66), (1, .int (xs 1))], [.int (b2)], V) : jS)) rfl ?_
  refine jl_iff (e := jm248) (o := 15) rfl (h.1.1) ?_
  refine jl_s (S' := ((35, [(5, .int (b2)), (4, .int 16), (3, .int 2), (2, .int 0), (0, .ref 66), (1, .int (xs 1))], [.int (b2)], V) : jS)) rfl ?_
  refine jl_c (t := 247) (as := [.int (b2)]) (V := V) (r := (.inl (some (.int 1)), V)) (S' := ((38, [(5, .int (b2)), (4, .int 16), (3, .int 2), (2, .int 0), (0, .ref 66), (1, .int (xs 1))], [.int 1], V) : jS)) rfl (jz_sv ((4, xs) : jX) V b2 h ) rfl ?_
  refine jl_s (S' := ((45, [(5, .int (b2)), (4, .int 16), (3, .int 2), (2, .int 0), (0, .ref 66), (1, .int (xs 1))], [], V) : jS)) rfl ?_
  refine jl_s (S' := ((46, [(5, .int (b2)), (4, .int 16), (3, .int 2), (2, .int 0), (0, .ref 66), (1, .int (xs 1))], [.int 0], V) : jS)) rfl ?_
  refine jl_s (S' := ((47, [(2, .int 0), (5, .int (b2)), (4, .int 16), (3, .int 2), (0, .ref 66), (1, .int (xs 1))], [], V) : jS)) rfl ?_
  refine jl_s (S' := ((49, [(2, .int 0), (5, .int (b2)), (4, .int 16), (3, .int 2), (0, .ref 66), (1, .int (xs 1))], [.int (b2)], V) : jS)) rfl ?_
  refine jl_iff (e := jm248) (o := 9) rfl (h.1.1) ?_
  refine jl_s (S' := ((53, [(2, .int 0), (5, .int (b2)), (4, .int 16), (3, .int 2), (0, .ref 66), (1, .int (xs 1))], [.int 2], V) : jS)) rfl ?_
  refine jl_s (S' := ((54, [(2, .int 0), (5, .int (b2)), (4, .int 16), (3, .int 2), (0, .ref 66), (1, .int (xs 1))], [.int 1, .int 2], V) : jS)) rfl ?_
  refine jl_s (S' := ((55, [(2, .int 0), (5, .int (b2)), (4, .int 16), (3, .int 2), (0, .ref 66), (1, .int (xs 1))], [.int 3], V) : jS)) rfl ?_
  refine jl_s (S' := ((59, [(2, .int 0), (5, .int (b2)), (4, .int 16), (3, .int 2), (0, .ref 66), (1, .int (xs 1))], [.int 3], V) : jS)) rfl ?_
  refine jl_s (S' := ((60, [(3, .int 3), (2, .int 0), (5, .int (b2)), (4, .int 16), (0, .ref 66), (1, .int (xs 1))], [], V) : jS)) rfl ?_
  refine jl_s (S' := ((63, [(4, .int 24), (3, .int 3), (2, .int 0), (5, .int (b2)), (0, .ref 66), (1, .int (xs 1))], [], V) : jS)) rfl ?_
  refine jl_s (S' := ((7, [(4, .int 24), (3, .int 3), (2, .int 0), (5, .int (b2)), (0, .ref 66), (1, .int (xs 1))], [], V) : jS)) rfl ?_
  exact hq
set_option maxHeartbeats 4000000 in
set_option maxRecDepth 100000 in
theorem jzq768 (xs : Nat → Int32) (b0 b1 b2 b3 : Int32) (V : jH) (e : ((xs 1) >>> (24 &&& 31)) &&& 255 = b3) (h : jbz b3) {f : Nat} {q : jO × jH} (hq : jLoop (jRun ((4, xs) : jX) 2000 38) ((4, xs) : jX) jm248 f ((7, [(4, .int 32), (3, .int 3), (2, .int 0), (5, .int (b3)), (0, .ref 66), (1, .int (xs 1))], [], V) : jS) = some q) : jLoop (jRun ((4, xs) : jX) 2000 38) ((4, xs) : jX) jm248 (f + 21) ((7, [(4, .int 24), (3, .int 3), (2, .int 0), (5, .int (b2)), (0, .ref 66), (1, .int (xs 1))], [], V) : jS) = some q := by
  refine jl_s (S' := ((9, [(4, .int 24), (3, .int 3), (2, .int 0), (5, .int (b2)), (0, .ref 66), (1, .int (xs 1))], [.int 24], V) : jS)) rfl ?_
  refine jl_s (S' := ((11, [(4, .int 24), (3, .int 3), (2, .int 0), (5, .int (b2)), (0, .ref 66), (1, .int (xs 1))], [.int 32, .int 24], V) : jS)) rfl ?_
  refine jl_s (S' := ((14, [(4, .int 24), (3, .int 3), (2, .int 0), (5, .int (b2)), (0, .ref 66), (1, .int (xs 1))], [], V) : jS)) rfl ?_
  refine jl_s (S' := ((15, [(4, .int 24), (3, .int 3), (2, .int 0), (5, .int (b2)), (0, .ref 66), (1, .int (xs 1))], [.int (xs 1)], V) : jS)) rfl ?_
  refine jl_s (S' := ((17, [(4, .int 24), (3, .int 3), (2, .int 0), (5, .int (b2)), (0, .ref 66), (1, .int (xs 1))], [.int 24, .int (xs 1)], V) : jS)) rfl ?_
  refine jl_s (S' := ((18, [(4, .int 24), (3, .int 3), (2, .int 0), (5, .int (b2)), (0, .ref 66), (1, .int (xs 1))], [.int ((xs 1) >>> (24 &&& 31))], V) : jS)) rfl ?_
  refine jl_s (S' := ((21, [(4, .int 24), (3, .int 3), (2, .int 0), (5, .int (b2)), (0, .ref 66), (1, .int (xs 1))], [.int 255, .int ((xs 1) >>> (24 &&& 31))], V) : jS)) rfl ?_
  refine jl_s (S' := ((22, [(4, .int 24), (3, .int 3), (2, .int 0), (5, .int (b2)), (0, .ref 66), (1, .int (xs 1))], [.int (((xs 1) >>> (24 &&& 31)) &&& 255)], V) : jS)) rfl ?_
  rw [e]
  refine jl_s (S' := ((24, [(5, .int (b3)), (4, .int 24), (3, .int 3), (2, .int 0), (0, .ref 66), (1, .int (xs 1))], [], V) : jS)) rfl ?_
  refine jl_s (S' := ((25, [(5, .int (b3)), (4, .int 24), (3, .int 3), (2, .int 0), (0, .ref 66), (1, .int (xs 1))], [.int 0], V) : jS)) rfl ?_
  refine jl_s (S' := ((28, [(5, .int (b3)), (4, .int 24), (3, .int 3), (2, .int 0), (0, .ref 66), (1, .int (xs 1))], [], V) : jS)) rfl ?_
  refine jl_s (S' := ((30, [(5, .int (b3)), (4, .int 24), (3, .int 3), (2, .int 0), (0, .ref 66), (1, .int (xs 1))], [.int (b3)], V) : jS)) rfl ?_
  refine jl_ift (e := jm248) (o := 15) rfl (h.1) (t := 45) rfl ?_
  refine jl_s (S' := ((46, [(5, .int (b3)), (4, .int 24), (3, .int 3), (2, .int 0), (0, .ref 66), (1, .int (xs 1))], [.int 0], V) : jS)) rfl ?_
  refine jl_s (S' := ((47, [(2, .int 0), (5, .int (b3)), (4, .int 24), (3, .int 3), (0, .ref 66), (1, .int (xs 1))], [], V) : jS)) rfl ?_
  refine jl_s (S' := ((49, [(2, .int 0), (5, .int (b3)), (4, .int 24), (3, .int 3), (0, .ref 66), (1, .int (xs 1))], [.int (b3)], V) : jS)) rfl ?_
  refine jl_ift (e := jm248) (o := 9) rfl (h.1) (t := 58) rfl ?_
  refine jl_s (S' := ((59, [(2, .int 0), (5, .int (b3)), (4, .int 24), (3, .int 3), (0, .ref 66), (1, .int (xs 1))], [.int 3], V) : jS)) rfl ?_
  refine jl_s (S' := ((60, [(3, .int 3), (2, .int 0), (5, .int (b3)), (4, .int 24), (0, .ref 66), (1, .int (xs 1))], [], V) : jS)) rfl ?_
  refine jl_s (S' := ((63, [(4, .int 32), (3, .int 3), (2, .int 0), (5, .int (b3)), (0, .ref 66), (1, .int (xs 1))], [], V) : jS)) rfl ?_
  refine jl_s (S' := ((7, [(4, .int 32), (3, .int 3), (2, .int 0), (5, .int (b3)), (0, .ref 66), (1, .int (xs 1))], [], V) : jS)) rfl ?_
  exact hq
set_option maxHeartbeats 4000000 in
set_option maxRecDepth 100000 in
theorem jzl769 (xs : Nat → Int32) (b0 b1 b2 b3 : Int32) : jRun ((4, xs) : jX) 2000 38 245 [.ref 66, .int 0, .int 0, .int 0] (jzv354 b0 b1 b2 b3) = some (.inl (some (.int 0)), (jzv354 b0 b1 b2 b3)) := by
  refine jr_run (e := jm245) rfl (Nat.le_of_ble_eq_true rfl) ?_
  refine jl_s (S' := ((1, [(0, .ref 66), (1, .int 0), (2, .int 0), (3, .int 0)], [.ref 66], (jzv354 b0 b1 b2 b3)) : jS)) rfl ?_
  refine jl_s (S' := ((2, [(0, .ref 66), (1, .int 0), (2, .int 0), (3, .int 0)], [.int 0, .ref 66], (jzv354 b0 b1 b2 b3)) : jS)) rfl ?_
  refine jl_s (S' := ((9, [(0, .ref 66), (1, .int 0), (2, .int 0), (3, .int 0)], [.ref 66], (jzv354 b0 b1 b2 b3)) : jS)) rfl ?_
  refine jl_s (S' := ((10, [(0, .ref 66), (1, .int 0), (2, .int 0), (3, .int 0)], [.int 0, .ref 66], (jzv354 b0 b1 b2 b3)) : jS)) rfl ?_
  refine jl_s (S' := ((17, [(0, .ref 66), (1, .int 0), (2, .int 0), (3, .int 0)], [.ref 66], (jzv354 b0 b1 b2 b3)) : jS)) rfl ?_
  refine jl_s (S' := ((18, [(0, .ref 66), (1, .int 0), (2, .int 0), (3, .int 0)], [.int 0, .ref 66], (jzv354 b0 b1 b2 b3)) : jS)) rfl ?_
  refine jl_s (S' := ((25, [(0, .ref 66), (1, .int 0), (2, .int 0), (3, .int 0)], [.ref 66], (jzv354 b0 b1 b2 b3)) : jS)) rfl ?_
  refine jl_s (S' := ((26, [(0, .ref 66), (1, .int 0), (2, .int 0), (3, .int 0)], [.int 0, .ref 66], (jzv354 b0 b1 b2 b3)) : jS)) rfl ?_
  refine jl_s (S' := ((29, [(0, .ref 66), (1, .int 0), (2, .int 0), (3, .int 0)], [], (jzv354 b0 b1 b2 b3)) : jS)) rfl ?_
  refine jl_s (S' := ((30, [(0, .ref 66), (1, .int 0), (2, .int 0), (3, .int 0)], [.ref 66], (jzv354 b0 b1 b2 b3)) : jS)) rfl ?_
  refine jl_s (S' := ((33, [(0, .ref 66), (1, .int 0), (2, .int 0), (3, .int 0)], [.int 0], (jzv354 b0 b1 b2 b3)) : jS)) rfl ?_
  refine jl_s (S' := ((40, [(0, .ref 66), (1, .int 0), (2, .int 0), (3, .int 0)], [], (jzv354 b0 b1 b2 b3)) : jS)) rfl ?_
  refine jl_s (S' := ((41, [(0, .ref 66), (1, .int 0), (2, .int 0), (3, .int 0)], [.int 0], (jzv354 b0 b1 b2 b3)) : jS)) rfl ?_
  exact jl_r (r := (.inl (some (.int 0)), (jzv354 b0 b1 b2 b3))) rfl
set_option maxHeartbeats 4000000 in
set_option maxRecDepth 100000 in
theorem jzq771 (xs : Nat → Int32) (b0 b1 b2 b3 : Int32) {f : Nat} {q : jO × jH} (hq : jLoop (jRun ((4, xs) : jX) 2000 38) ((4, xs) : jX) jm248 f ((101, [(4, .int 0), (3, .int 3), (2, .int 0), (5, .int (b3)), (0, .ref 66), (1, .int (xs 1))], [], (jzv354 b0 b1 b2 b3)) : jS) = some q) : jLoop (jRun ((4, xs) : jX) 2000 38) ((4, xs) : jX) jm248 (f + 19) ((7, [(4, .int 32), (3, .int 3), (2, .int 0), (5, .int (b3)), (0, .ref 66), (1, .int (xs 1))], [], (jzv354 b0 b1 b2 b3)) : jS) = some q := by
  refine jl_s (S' := ((9, [(4, .int 32), (3, .int 3), (2, .int 0), (5, .int (b3)), (0, .ref 66), (1, .int (xs 1))], [.int 32], (jzv354 b0 b1 b2 b3)) : jS)) rfl ?_
  refine jl_s (S' := ((11, [(4, .int 32), (3, .int 3), (2, .int 0), (5, .int (b3)), (0, .ref 66), (1, .int (xs 1))], [.int 32, .int 32], (jzv354 b0 b1 b2 b3)) : jS)) rfl ?_
  refine jl_s (S' := ((66, [(4, .int 32), (3, .int 3), (2, .int 0), (5, .int (b3)), (0, .ref 66), (1, .int (xs 1))], [], (jzv354 b0 b1 b2 b3)) : jS)) rfl ?_
  refine jl_s (S' := ((67, [(4, .int 32), (3, .int 3), (2, .int 0), (5, .int (b3)), (0, .ref 66), (1, .int (xs 1))], [.ref 66], (jzv354 b0 b1 b2 b3)) : jS)) rfl ?_
  refine jl_s (S' := ((68, [(4, .int 32), (3, .int 3), (2, .int 0), (5, .int (b3)), (0, .ref 66), (1, .int (xs 1))], [.int 0, .ref 66], (jzv354 b0 b1 b2 b3)) : jS)) rfl ?_
  refine jl_s (S' := ((69, [(4, .int 32), (3, .int 3), (2, .int 0), (5, .int (b3)), (0, .ref 66), (1, .int (xs 1))], [.int 0, .int 0, .ref 66], (jzv354 b0 b1 b2 b3)) : jS)) rfl ?_
  refine jl_s (S' := ((72, [(4, .int 32), (3, .int 3), (2, .int 0), (5, .int (b3)), (0, .ref 66), (1, .int (xs 1))], [.int 0, .ref 66], (jzv354 b0 b1 b2 b3)) : jS)) rfl ?_
  refine jl_s (S' := ((73, [(4, .int 32), (3, .int 3), (2, .int 0), (5, .int (b3)), (0, .ref 66), (1, .int (xs 1))], [.ref 66, .int 0, .ref 66], (jzv354 b0 b1 b2 b3)) : jS)) rfl ?_
  refine jl_s (S' := ((76, [(4, .int 32), (3, .int 3), (2, .int 0), (5, .int (b3)), (0, .ref 66), (1, .int (xs 1))], [.int 0, .int 0, .ref 66], (jzv354 b0 b1 b2 b3)) : jS)) rfl ?_
  refine jl_s (S' := ((77, [(4, .int 32), (3, .int 3), (2, .int 0), (5, .int (b3)), (0, .ref 66), (1, .int (xs 1))], [.int 3, .int 0, .int 0, .ref 66], (jzv354 b0 b1 b2 b3)) : jS)) rfl ?_
  refine jl_s (S' := ((78, [(4, .int 32), (3, .int 3), (2, .int 0), (5, .int (b3)), (0, .ref 66), (1, .int (xs 1))], [.int 3, .int 0, .ref 66], (jzv354 b0 b1 b2 b3)) : jS)) rfl ?_
  refine jl_s (S' := ((81, [(4, .int 32), (3, .int 3), (2, .int 0), (5, .int (b3)), (0, .ref 66), (1, .int (xs 1))], [.int 3000, .int 3, .int 0, .ref 66], (jzv354 b0 b1 b2 b3)) : jS)) rfl ?_
  refine jl_s (S' := ((88, [(4, .int 32), (3, .int 3), (2, .int 0), (5, .int (b3)), (0, .ref 66), (1, .int (xs 1))], [.int 0, .ref 66], (jzv354 b0 b1 b2 b3)) : jS)) rfl ?_
  refine jl_s (S' := ((89, [(4, .int 32), (3, .int 3), (2, .int 0), (5, .int (b3)), (0, .ref 66), (1, .int (xs 1))], [.int 0, .int 0, .ref 66], (jzv354 b0 b1 b2 b3)) : jS)) rfl ?_
  refine jl_s (S' := ((90, [(4, .int 32), (3, .int 3), (2, .int 0), (5, .int (b3)), (0, .ref 66), (1, .int (xs 1))], [.int 0, .int 0, .int 0, .ref 66], (jzv354 b0 b1 b2 b3)) : jS)) rfl ?_
  refine jl_c (t := 245) (as := [.ref 66, .int 0, .int 0, .int 0]) (V := (jzv354 b0 b1 b2 b3)) (r := (.inl (some (.int 0)), (jzv354 b0 b1 b2 b3))) (S' := ((93, [(4, .int 32), (3, .int 3), (2, .int 0), (5, .int (b3)), (0, .ref 66), (1, .int (xs 1))], [.int 0], (jzv354 b0 b1 b2 b3)) : jS)) rfl (jzl769 xs b0 b1 b2 b3) rfl ?_
  refine jl_s (S' := ((98, [(4, .int 32), (3, .int 3), (2, .int 0), (5, .int (b3)), (0, .ref 66), (1, .int (xs 1))], [], (jzv354 b0 b1 b2 b3)) : jS)) rfl ?_
  refine jl_s (S' := ((99, [(4, .int 32), (3, .int 3), (2, .int 0), (5, .int (b3)), (0, .ref 66), (1, .int (xs 1))], [.int 0], (jzv354 b0 b1 b2 b3)) : jS)) rfl ?_
  refine jl_s (S' := ((101, [(4, .int 0), (3, .int 3), (2, .int 0), (5, .int (b3)), (0, .ref 66), (1, .int (xs 1))], [], (jzv354 b0 b1 b2 b3)) : jS)) rfl ?_
  exact hq
def jzv355 (b0 b1 b2 b3 : Int32) : jH := [jzc190, (jzc197 b0 b1 b2 b3), jzc117, (jzc213 b0 b1 b2 b3), jzc9, jzc9, jzc9, jzc9, jzc9, jzc17, jzc19, jzc19, jzc19, jzc19, jzc19, jzc19, jzc19, jzc19, jzc28, jzc28, jzc28, jzc28, jzc28, jzc28, jzc28, jzc28, jzc28, jzc28, jzc28, jzc28, jzc28, jzc28, jzc43, jzc43, jzc43, jzc43, jzc43, jzc49, jzc49, jzc52, jzc52, jzc52, jzc56, jzc56, jzc59, jzc56, jzc62, jzc28, jzc28, jzc28, jzc28, jzc28, jzc69, jzc71, jzc73, jzc43, jzc76, jzc52, jzc52, jzc80, jzc80, jzc80, jzc84, jzc52, jzc52, jzc52, jzc52, jzc52, jzc52, jzc52, jzc93, jzc93, jzc52, jzc52, jzc98, jzc100, jzc93, jzc52, jzc52, jzc52, jzc52, jzc107, jzc109, jzc111, jzc100, jzc100, jzc100, jzc111, jzc111, jzc210]
def jzv356 (b0 b1 b2 b3 : Int32) : jH := [jzc190, (jzc197 b0 b1 b2 b3), jzc202, (jzc213 b0 b1 b2 b3), jzc9, jzc9, jzc9, jzc9, jzc9, jzc17, jzc19, jzc19, jzc19, jzc19, jzc19, jzc19, jzc19, jzc19, jzc28, jzc28, jzc28, jzc28, jzc28, jzc28, jzc28, jzc28, jzc28, jzc28, jzc28, jzc28, jzc28, jzc28, jzc43, jzc43, jzc43, jzc43, jzc43, jzc49, jzc49, jzc52, jzc52, jzc52, jzc56, jzc56, jzc59, jzc56, jzc62, jzc28, jzc28, jzc28, jzc28, jzc28, jzc69, jzc71, jzc73, jzc43, jzc76, jzc52, jzc52, jzc80, jzc80, jzc80, jzc84, jzc52, jzc52, jzc52, jzc52, jzc52, jzc52, jzc52, jzc93, jzc93, jzc52, jzc52, jzc98, jzc100, jzc93, jzc52, jzc52, jzc52, jzc52, jzc107, jzc109, jzc111, jzc100, jzc100, jzc100, jzc111, jzc111, jzc210]
set_option maxHeartbeats 4000000 in
set_option maxRecDepth 100000 in
theorem jzq773 (xs : Nat → Int32) (b0 b1 b2 b3 : Int32) (e : ((xs 1) >>> (0 &&& 31)) &&& 255 = b0) (h : jbn b0) {f : Nat} {q : jO × jH} (hq : jLoop (jRun ((4, xs) : jX) 2000 38) ((4, xs) : jX) jm248 f ((101, [(4, .int 8), (5, .int (b0)), (3, .int 3), (2, .int 0), (0, .ref 66), (1, .int (xs 1))], [], (jzv356 b0 b1 b2 b3)) : jS) = some q) : jLoop (jRun ((4, xs) : jX) 2000 38) ((4, xs) : jX) jm248 (f + 25) ((101, [(4, .int 0), (3, .int 3), (2, .int 0), (5, .int (b3)), (0, .ref 66), (1, .int (xs 1))], [], (jzv354 b0 b1 b2 b3)) : jS) = some q := by
  refine jl_s (S' := ((103, [(4, .int 0), (3, .int 3), (2, .int 0), (5, .int (b3)), (0, .ref 66), (1, .int (xs 1))], [.int 0], (jzv354 b0 b1 b2 b3)) : jS)) rfl ?_
  refine jl_s (S' := ((105, [(4, .int 0), (3, .int 3), (2, .int 0), (5, .int (b3)), (0, .ref 66), (1, .int (xs 1))], [.int 32, .int 0], (jzv354 b0 b1 b2 b3)) : jS)) rfl ?_
  refine jl_s (S' := ((108, [(4, .int 0), (3, .int 3), (2, .int 0), (5, .int (b3)), (0, .ref 66), (1, .int (xs 1))], [], (jzv354 b0 b1 b2 b3)) : jS)) rfl ?_
  refine jl_s (S' := ((109, [(4, .int 0), (3, .int 3), (2, .int 0), (5, .int (b3)), (0, .ref 66), (1, .int (xs 1))], [.int (xs 1)], (jzv354 b0 b1 b2 b3)) : jS)) rfl ?_
  refine jl_s (S' := ((111, [(4, .int 0), (3, .int 3), (2, .int 0), (5, .int (b3)), (0, .ref 66), (1, .int (xs 1))], [.int 0, .int (xs 1)], (jzv354 b0 b1 b2 b3)) : jS)) rfl ?_
  refine jl_s (S' := ((112, [(4, .int 0), (3, .int 3), (2, .int 0), (5, .int (b3)), (0, .ref 66), (1, .int (xs 1))], [.int ((xs 1) >>> (0 &&& 31))], (jzv354 b0 b1 b2 b3)) : jS)) rfl ?_
  refine jl_s (S' := ((115, [(4, .int 0), (3, .int 3), (2, .int 0), (5, .int (b3)), (0, .ref 66), (1, .int (xs 1))], [.int 255, .int ((xs 1) >>> (0 &&& 31))], (jzv354 b0 b1 b2 b3)) : jS)) rfl ?_
  refine jl_s (S' := ((116, [(4, .int 0), (3, .int 3), (2, .int 0), (5, .int (b3)), (0, .ref 66), (1, .int (xs 1))], [.int (((xs 1) >>> (0 &&& 31)) &&& 255)], (jzv354 b0 b1 b2 b3)) : jS)) rfl ?_
  rw [e]
  refine jl_s (S' := ((118, [(5, .int (b0)), (4, .int 0), (3, .int 3), (2, .int 0), (0, .ref 66), (1, .int (xs 1))], [], (jzv354 b0 b1 b2 b3)) : jS)) rfl ?_
  refine jl_s (S' := ((120, [(5, .int (b0)), (4, .int 0), (3, .int 3), (2, .int 0), (0, .ref 66), (1, .int (xs 1))], [.int (b0)], (jzv354 b0 b1 b2 b3)) : jS)) rfl ?_
  refine jl_iff (e := jm248) (o := 24) rfl (h.1) ?_
  refine jl_s (S' := ((124, [(5, .int (b0)), (4, .int 0), (3, .int 3), (2, .int 0), (0, .ref 66), (1, .int (xs 1))], [.ref 66], (jzv354 b0 b1 b2 b3)) : jS)) rfl ?_
  refine jl_s (S' := ((127, [(5, .int (b0)), (4, .int 0), (3, .int 3), (2, .int 0), (0, .ref 66), (1, .int (xs 1))], [.ref 67], (jzv354 b0 b1 b2 b3)) : jS)) rfl ?_
  refine jl_s (S' := ((128, [(5, .int (b0)), (4, .int 0), (3, .int 3), (2, .int 0), (0, .ref 66), (1, .int (xs 1))], [.ref 66, .ref 67], (jzv354 b0 b1 b2 b3)) : jS)) rfl ?_
  refine jl_s (S' := ((131, [(5, .int (b0)), (4, .int 0), (3, .int 3), (2, .int 0), (0, .ref 66), (1, .int (xs 1))], [.int 0, .ref 67], (jzv354 b0 b1 b2 b3)) : jS)) rfl ?_
  refine jl_s (S' := ((133, [(5, .int (b0)), (4, .int 0), (3, .int 3), (2, .int 0), (0, .ref 66), (1, .int (xs 1))], [.int (b0), .int 0, .ref 67], (jzv354 b0 b1 b2 b3)) : jS)) rfl ?_
  refine jl_s (S' := ((134, [(5, .int (b0)), (4, .int 0), (3, .int 3), (2, .int 0), (0, .ref 66), (1, .int (xs 1))], [], (jzv355 b0 b1 b2 b3)) : jS)) rfl ?_
  refine jl_s (S' := ((135, [(5, .int (b0)), (4, .int 0), (3, .int 3), (2, .int 0), (0, .ref 66), (1, .int (xs 1))], [.ref 66], (jzv355 b0 b1 b2 b3)) : jS)) rfl ?_
  refine jl_s (S' := ((136, [(5, .int (b0)), (4, .int 0), (3, .int 3), (2, .int 0), (0, .ref 66), (1, .int (xs 1))], [.ref 66, .ref 66], (jzv355 b0 b1 b2 b3)) : jS)) rfl ?_
  refine jl_s (S' := ((139, [(5, .int (b0)), (4, .int 0), (3, .int 3), (2, .int 0), (0, .ref 66), (1, .int (xs 1))], [.int 0, .ref 66], (jzv355 b0 b1 b2 b3)) : jS)) rfl ?_
  refine jl_s (S' := ((140, [(5, .int (b0)), (4, .int 0), (3, .int 3), (2, .int 0), (0, .ref 66), (1, .int (xs 1))], [.int 1, .int 0, .ref 66], (jzv355 b0 b1 b2 b3)) : jS)) rfl ?_
  refine jl_s (S' := ((141, [(5, .int (b0)), (4, .int 0), (3, .int 3), (2, .int 0), (0, .ref 66), (1, .int (xs 1))], [.int 1, .ref 66], (jzv355 b0 b1 b2 b3)) : jS)) rfl ?_
  refine jl_s (S' := ((144, [(5, .int (b0)), (4, .int 0), (3, .int 3), (2, .int 0), (0, .ref 66), (1, .int (xs 1))], [], (jzv356 b0 b1 b2 b3)) : jS)) rfl ?_
  refine jl_s (S' := ((147, [(4, .int 8), (5, .int (b0)), (3, .int 3), (2, .int 0), (0, .ref 66), (1, .int (xs 1))], [], (jzv356 b0 b1 b2 b3)) : jS)) rfl ?_
  refine jl_s (S' := ((101, [(4, .int 8), (5, .int (b0)), (3, .int 3), (2, .int 0), (0, .ref 66), (1, .int (xs 1))], [], (jzv356 b0 b1 b2 b3)) : jS)) rfl ?_
  exact hq
def jzv357 (b0 b1 b2 b3 : Int32) : jH := [jzc190, (jzc197 b0 b1 b2 b3), jzc202, (jzc217 b0 b1 b2 b3), jzc9, jzc9, jzc9, jzc9, jzc9, jzc17, jzc19, jzc19, jzc19, jzc19, jzc19, jzc19, jzc19, jzc19, jzc28, jzc28, jzc28, jzc28, jzc28, jzc28, jzc28, jzc28, jzc28, jzc28, jzc28, jzc28, jzc28, jzc28, jzc43, jzc43, jzc43, jzc43, jzc43, jzc49, jzc49, jzc52, jzc52, jzc52, jzc56, jzc56, jzc59, jzc56, jzc62, jzc28, jzc28, jzc28, jzc28, jzc28, jzc69, jzc71, jzc73, jzc43, jzc76, jzc52, jzc52, jzc80, jzc80, jzc80, jzc84, jzc52, jzc52, jzc52, jzc52, jzc52, jzc52, jzc52, jzc93, jzc93, jzc52, jzc52, jzc98, jzc100, jzc93, jzc52, jzc52, jzc52, jzc52, jzc107, jzc109, jzc111, jzc100, jzc100, jzc100, jzc111, jzc111, jzc210]
def jzv358 (b0 b1 b2 b3 : Int32) : jH := [jzc190, (jzc197 b0 b1 b2 b3), jzc206, (jzc217 b0 b1 b2 b3), jzc9, jzc9, jzc9, jzc9, jzc9, jzc17, jzc19, jzc19, jzc19, jzc19, jzc19, jzc19, jzc19, jzc19, jzc28, jzc28, jzc28, jzc28, jzc28, jzc28, jzc28, jzc28, jzc28, jzc28, jzc28, jzc28, jzc28, jzc28, jzc43, jzc43, jzc43, jzc43, jzc43, jzc49, jzc49, jzc52, jzc52, jzc52, jzc56, jzc56, jzc59, jzc56, jzc62, jzc28, jzc28, jzc28, jzc28, jzc28, jzc69, jzc71, jzc73, jzc43, jzc76, jzc52, jzc52, jzc80, jzc80, jzc80, jzc84, jzc52, jzc52, jzc52, jzc52, jzc52, jzc52, jzc52, jzc93, jzc93, jzc52, jzc52, jzc98, jzc100, jzc93, jzc52, jzc52, jzc52, jzc52, jzc107, jzc109, jzc111, jzc100, jzc100, jzc100, jzc111, jzc111, jzc210]
set_option maxHeartbeats 4000000 in
set_option maxRecDepth 100000 in
theorem jzq775 (xs : Nat → Int32) (b0 b1 b2 b3 : Int32) (e : ((xs 1) >>> (8 &&& 31)) &&& 255 = b1) (h : jbn b1) {f : Nat} {q : jO × jH} (hq : jLoop (jRun ((4, xs) : jX) 2000 38) ((4, xs) : jX) jm248 f ((101, [(4, .int 16), (5, .int (b1)), (3, .int 3), (2, .int 0), (0, .ref 66), (1, .int (xs 1))], [], (jzv358 b0 b1 b2 b3)) : jS) = some q) : jLoop (jRun ((4, xs) : jX) 2000 38) ((4, xs) : jX) jm248 (f + 25) ((101, [(4, .int 8), (5, .int (b0)), (3, .int 3), (2, .int 0), (0, .ref 66), (1, .int (xs 1))], [], (jzv356 b0 b1 b2 b3)) : jS) = some q := by
  refine jl_s (S' := ((103, [(4, .int 8), (5, .int (b0)), (3, .int 3), (2, .int 0), (0, .ref 66), (1, .int (xs 1))], [.int 8], (jzv356 b0 b1 b2 b3)) : jS)) rfl ?_
  refine jl_s (S' := ((105, [(4, .int 8), (5, .int (b0)), (3, .int 3), (2, .int 0), (0, .ref 66), (1, .int (xs 1))], [.int 32, .int 8], (jzv356 b0 b1 b2 b3)) : jS)) rfl ?_
  refine jl_s (S' := ((108, [(4, .int 8), (5, .int (b0)), (3, .int 3), (2, .int 0), (0, .ref 66), (1, .int (xs 1))], [], (jzv356 b0 b1 b2 b3)) : jS)) rfl ?_
  refine jl_s (S' := ((109, [(4, .int 8), (5, .int (b0)), (3, .int 3), (2, .int 0), (0, .ref 66), (1, .int (xs 1))], [.int (xs 1)], (jzv356 b0 b1 b2 b3)) : jS)) rfl ?_
  refine jl_s (S' := ((111, [(4, .int 8), (5, .int (b0)), (3, .int 3), (2, .int 0), (0, .ref 66), (1, .int (xs 1))], [.int 8, .int (xs 1)], (jzv356 b0 b1 b2 b3)) : jS)) rfl ?_
  refine jl_s (S' := ((112, [(4, .int 8), (5, .int (b0)), (3, .int 3), (2, .int 0), (0, .ref 66), (1, .int (xs 1))], [.int ((xs 1) >>> (8 &&& 31))], (jzv356 b0 b1 b2 b3)) : jS)) rfl ?_
  refine jl_s (S' := ((115, [(4, .int 8), (5, .int (b0)), (3, .int 3), (2, .int 0), (0, .ref 66), (1, .int (xs 1))], [.int 255, .int ((xs 1) >>> (8 &&& 31))], (jzv356 b0 b1 b2 b3)) : jS)) rfl ?_
  refine jl_s (S' := ((116, [(4, .int 8), (5, .int (b0)), (3, .int 3), (2, .int 0), (0, .ref 66), (1, .int (xs 1))], [.int (((xs 1) >>> (8 &&& 31)) &&& 255)], (jzv356 b0 b1 b2 b3)) : jS)) rfl ?_
  rw [e]
  refine jl_s (S' := ((118, [(5, .int (b1)), (4, .int 8), (3, .int 3), (2, .int 0), (0, .ref 66), (1, .int (xs 1))], [], (jzv356 b0 b1 b2 b3)) : jS)) rfl ?_
  refine jl_s (S' := ((120, [(5, .int (b1)), (4, .int 8), (3, .int 3), (2, .int 0), (0, .ref 66), (1, .int (xs 1))], [.int (b1)], (jzv356 b0 b1 b2 b3)) : jS)) rfl ?_
  refine jl_iff (e := jm248) (o := 24) rfl (h.1) ?_
  refine jl_s (S' := ((124, [(5, .int (b1)), (4, .int 8), (3, .int 3), (2, .int 0), (0, .ref 66), (1, .int (xs 1))], [.ref 66], (jzv356 b0 b1 b2 b3)) : jS)) rfl ?_
  refine jl_s (S' := ((127, [(5, .int (b1)), (4, .int 8), (3, .int 3), (2, .int 0), (0, .ref 66), (1, .int (xs 1))], [.ref 67], (jzv356 b0 b1 b2 b3)) : jS)) rfl ?_
  refine jl_s (S' := ((128, [(5, .int (b1)), (4, .int 8), (3, .int 3), (2, .int 0), (0, .ref 66), (1, .int (xs 1))], [.ref 66, .ref 67], (jzv356 b0 b1 b2 b3)) : jS)) rfl ?_
  refine jl_s (S' := ((131, [(5, .int (b1)), (4, .int 8), (3, .int 3), (2, .int 0), (0, .ref 66), (1, .int (xs 1))], [.int 1, .ref 67], (jzv356 b0 b1 b2 b3)) : jS)) rfl ?_
  refine jl_s (S' := ((133, [(5, .int (b1)), (4, .int 8), (3, .int 3), (2, .int 0), (0, .ref 66), (1, .int (xs 1))], [.int (b1), .int 1, .ref 67], (jzv356 b0 b1 b2 b3)) : jS)) rfl ?_
  refine jl_s (S' := ((134, [(5, .int (b1)), (4, .int 8), (3, .int 3), (2, .int 0), (0, .ref 66), (1, .int (xs 1))], [], (jzv357 b0 b1 b2 b3)) : jS)) rfl ?_
  refine jl_s (S' := ((135, [(5, .int (b1)), (4, .int 8), (3, .int 3), (2, .int 0), (0, .ref 66), (1, .int (xs 1))], [.ref 66], (jzv357 b0 b1 b2 b3)) : jS)) rfl ?_
  refine jl_s (S' := ((136, [(5, .int (b1)), (4, .int 8), (3, .int 3), (2, .int 0), (0, .ref 66), (1, .int (xs 1))], [.ref 66, .ref 66], (jzv357 b0 b1 b2 b3)) : jS)) rfl ?_
  refine jl_s (S' := ((139, [(5, .int (b1)), (4, .int 8), (3, .int 3), (2, .int 0), (0, .ref 66), (1, .int (xs 1))], [.int 1, .ref 66], (jzv357 b0 b1 b2 b3)) : jS)) rfl ?_
  refine jl_s (S' := ((140, [(5, .int (b1)), (4, .int 8), (3, .int 3), (2, .int 0), (0, .ref 66), (1, .int (xs 1))], [.int 1, .int 1, .ref 66], (jzv357 b0 b1 b2 b3)) : jS)) rfl ?_
  refine jl_s (S' := ((141, [(5, .int (b1)), (4, .int 8), (3, .int 3), (2, .int 0), (0, .ref 66), (1, .int (xs 1))], [.int 2, .ref 66], (jzv357 b0 b1 b2 b3)) : jS)) rfl ?_
  refine jl_s (S' := ((144, [(5, .int (b1)), (4, .int 8), (3, .int 3), (2, .int 0), (0, .ref 66), (1, .int (xs 1))], [], (jzv358 b0 b1 b2 b3)) : jS)) rfl ?_
  refine jl_s (S' := ((147, [(4, .int 16), (5, .int (b1)), (3, .int 3), (2, .int 0), (0, .ref 66), (1, .int (xs 1))], [], (jzv358 b0 b1 b2 b3)) : jS)) rfl ?_
  refine jl_s (S' := ((101, [(4, .int 16), (5, .int (b1)), (3, .int 3), (2, .int 0), (0, .ref 66), (1, .int (xs 1))], [], (jzv358 b0 b1 b2 b3)) : jS)) rfl ?_
  exact hq
def jzc219 (b0 b1 b2 b3 : Int32) : jC := .inl (1, 3000, .inl (upd (upd (upd (fun _ => 0) 0 (b0)) 1 (b1)) 2 (b2)))
def jzv359 (b0 b1 b2 b3 : Int32) : jH := [jzc190, (jzc197 b0 b1 b2 b3), jzc206, (jzc219 b0 b1 b2 b3), jzc9, jzc9, jzc9, jzc9, jzc9, jzc17, jzc19, jzc19, jzc19, jzc19, jzc19, jzc19, jzc19, jzc19, jzc28, jzc28, jzc28, jzc28, jzc28, jzc28, jzc28, jzc28, jzc28, jzc28, jzc28, jzc28, jzc28, jzc28, jzc43, jzc43, jzc43, jzc43, jzc43, jzc49, jzc49, jzc52, jzc52, jzc52, jzc56, jzc56, jzc59, jzc56, jzc62, jzc28, jzc28, jzc28, jzc28, jzc28, jzc69, jzc71, jzc73, jzc43, jzc76, jzc52, jzc52, jzc80, jzc80, jzc80, jzc84, jzc52, jzc52, jzc52, jzc52, jzc52, jzc52, jzc52, jzc93, jzc93, jzc52, jzc52, jzc98, jzc100, jzc93, jzc52, jzc52, jzc52, jzc52, jzc107, jzc109, jzc111, jzc100, jzc100, jzc100, jzc111, jzc111, jzc210]
def jzv360 (b0 b1 b2 b3 : Int32) : jH := [jzc190, (jzc197 b0 b1 b2 b3), jzc212, (jzc219 b0 b1 b2 b3), jzc9, jzc9, jzc9, jzc9, jzc9, jzc17, jzc19, jzc19, jzc19, jzc19, jzc19, jzc19, jzc19, jzc19, jzc28, jzc28, jzc28, jzc28, jzc28, jzc28, jzc28, jzc28, jzc28, jzc28, jzc28, jzc28, jzc28, jzc28, jzc43, jzc43, jzc43, jzc43, jzc43, jzc49, jzc49, jzc52, jzc52, jzc52, jzc56, jzc56, jzc59, jzc56, jzc62, jzc28, jzc28, jzc28, jzc28, jzc28, jzc69, jzc71, jzc73, jzc43, jzc76, jzc52, jzc52, jzc80, jzc80, jzc80, jzc84, jzc52, jzc52, jzc52, jzc52, jzc52, jzc52, jzc52, jzc93, jzc93, jzc52, jzc52, jzc98, jzc100, jzc93, jzc52, jzc52, jzc52, jzc52, jzc107, jzc109, jzc111, jzc100, jzc100, jzc100, jzc111, jzc111, jzc210]
set_option maxHeartbeats 4000000 in
set_option maxRecDepth 100000 in
theorem jzq777 (xs : Nat → Int32) (b0 b1 b2 b3 : Int32) (e : ((xs 1) >>> (16 &&& 31)) &&& 255 = b2) (h : jbn b2) {f : Nat} {q : jO × jH} (hq : jLoop (jRun ((4, xs) : jX) 2000 38) ((4, xs) : jX) jm248 f ((101, [(4, .int 24), (5, .int (b2)), (3, .int 3), (2, .int 0), (0, .ref 66), (1, .int (xs 1))], [], (jzv360 b0 b1 b2 b3)) : jS) = some q) : jLoop (jRun ((4, xs) : jX) 2000 38) ((4, xs) : jX) jm248 (f + 25) ((101, [(4, .int 16), (5, .int (b1)), (3, .int 3), (2, .int 0), (0, .ref 66), (1, .int (xs 1))], [], (jzv358 b0 b1 b2 b3)) : jS) = some q := by
  refine jl_s (S' := ((103, [(4, .int 16), (5, .int (b1)), (3, .int 3), (2, .int 0), (0, .ref 66), (1, .int (xs 1))], [.int 16], (jzv358 b0 b1 b2 b3)) : jS)) rfl ?_
  refine jl_s (S' := ((105, [(4, .int 16), (5, .int (b1)), (3, .int 3), (2, .int 0), (0, .ref 66), (1, .int (xs 1))], [.int 32, .int 16], (jzv358 b0 b1 b2 b3)) : jS)) rfl ?_
  refine jl_s (S' := ((108, [(4, .int 16), (5, .int (b1)), (3, .int 3), (2, .int 0), (0, .ref 66), (1, .int (xs 1))], [], (jzv358 b0 b1 b2 b3)) : jS)) rfl ?_
  refine jl_s (S' := ((109, [(4, .int 16), (5, .int (b1)), (3, .int 3), (2, .int 0), (0, .ref 66), (1, .int (xs 1))], [.int (xs 1)], (jzv358 b0 b1 b2 b3)) : jS)) rfl ?_
  refine jl_s (S' := ((111, [(4, .int 16), (5, .int (b1)), (3, .int 3), (2, .int 0), (0, .ref 66), (1, .int (xs 1))], [.int 16, .int (xs 1)], (jzv358 b0 b1 b2 b3)) : jS)) rfl ?_
  refine jl_s (S' := ((112, [(4, .int 16), (5, .int (b1)), (3, .int 3), (2, .int 0), (0, .ref 66), (1, .int (xs 1))], [.int ((xs 1) >>> (16 &&& 31))], (jzv358 b0 b1 b2 b3)) : jS)) rfl ?_
  refine jl_s (S' := ((115, [(4, .int 16), (5, .int (b1)), (3, .int 3), (2, .int 0), (0, .ref 66), (1, .int (xs 1))], [.int 255, .int ((xs 1) >>> (16 &&& 31))], (jzv358 b0 b1 b2 b3)) : jS)) rfl ?_
  refine jl_s (S' := ((116, [(4, .int 16), (5, .int (b1)), (3, .int 3), (2, .int 0), (0, .ref 66), (1, .int (xs 1))], [.int (((xs 1) >>> (16 &&& 31)) &&& 255)], (jzv358 b0 b1 b2 b3)) : jS)) rfl ?_
  rw [e]
  refine jl_s (S' := ((118, [(5, .int (b2)), (4, .int 16), (3, .int 3), (2, .int 0), (0, .ref 66), (1, .int (xs 1))], [], (jzv358 b0 b1 b2 b3)) : jS)) rfl ?_
  refine jl_s (S' := ((120, [(5, .int (b2)), (4, .int 16), (3, .int 3), (2, .int 0), (0, .ref 66), (1, .int (xs 1))], [.int (b2)], (jzv358 b0 b1 b2 b3)) : jS)) rfl ?_
  refine jl_iff (e := jm248) (o := 24) rfl (h.1) ?_
  refine jl_s (S' := ((124, [(5, .int (b2)), (4, .int 16), (3, .int 3), (2, .int 0), (0, .ref 66), (1, .int (xs 1))], [.ref 66], (jzv358 b0 b1 b2 b3)) : jS)) rfl ?_
  refine jl_s (S' := ((127, [(5, .int (b2)), (4, .int 16), (3, .int 3), (2, .int 0), (0, .ref 66), (1, .int (xs 1))], [.ref 67], (jzv358 b0 b1 b2 b3)) : jS)) rfl ?_
  refine jl_s (S' := ((128, [(5, .int (b2)), (4, .int 16), (3, .int 3), (2, .int 0), (0, .ref 66), (1, .int (xs 1))], [.ref 66, .ref 67], (jzv358 b0 b1 b2 b3)) : jS)) rfl ?_
  refine jl_s (S' := ((131, [(5, .int (b2)), (4, .int 16), (3, .int 3), (2, .int 0), (0, .ref 66), (1, .int (xs 1))], [.int 2, .ref 67], (jzv358 b0 b1 b2 b3)) : jS)) rfl ?_
  refine jl_s (S' := ((133, [(5, .int (b2)), (4, .int 16), (3, .int 3), (2, .int 0), (0, .ref 66), (1, .int (xs 1))], [.int (b2), .int 2, .ref 67], (jzv358 b0 b1 b2 b3)) : jS)) rfl ?_
  refine jl_s (S' := ((134, [(5, .int (b2)), (4, .int 16), (3, .int 3), (2, .int 0), (0, .ref 66), (1, .int (xs 1))], [], (jzv359 b0 b1 b2 b3)) : jS)) rfl ?_
  refine jl_s (S' := ((135, [(5, .int (b2)), (4, .int 16), (3, .int 3), (2, .int 0), (0, .ref 66), (1, .int (xs 1))], [.ref 66], (jzv359 b0 b1 b2 b3)) : jS)) rfl ?_
  refine jl_s (S' := ((136, [(5, .int (b2)), (4, .int 16), (3, .int 3), (2, .int 0), (0, .ref 66), (1, .int (xs 1))], [.ref 66, .ref 66], (jzv359 b0 b1 b2 b3)) : jS)) rfl ?_
  refine jl_s (S' := ((139, [(5, .int (b2)), (4, .int 16), (3, .int 3), (2, .int 0), (0, .ref 66), (1, .int (xs 1))], [.int 2, .ref 66], (jzv359 b0 b1 b2 b3)) : jS)) rfl ?_
  refine jl_s (S' := ((140, [(5, .int (b2)), (4, .int 16), (3, .int 3), (2, .int 0), (0, .ref 66), (1, .int (xs 1))], [.int 1, .int 2, .ref 66], (jzv359 b0 b1 b2 b3)) : jS)) rfl ?_
  refine jl_s (S' := ((141, [(5, .int (b2)), (4, .int 16), (3, .int 3), (2, .int 0), (0, .ref 66), (1, .int (xs 1))], [.int 3, .ref 66], (jzv359 b0 b1 b2 b3)) : jS)) rfl ?_
  refine jl_s (S' := ((144, [(5, .int (b2)), (4, .int 16), (3, .int 3), (2, .int 0), (0, .ref 66), (1, .int (xs 1))], [], (jzv360 b0 b1 b2 b3)) : jS)) rfl ?_
  refine jl_s (S' := ((147, [(4, .int 24), (5, .int (b2)), (3, .int 3), (2, .int 0), (0, .ref 66), (1, .int (xs 1))], [], (jzv360 b0 b1 b2 b3)) : jS)) rfl ?_
  refine jl_s (S' := ((101, [(4, .int 24), (5, .int (b2)), (3, .int 3), (2, .int 0), (0, .ref 66), (1, .int (xs 1))], [], (jzv360 b0 b1 b2 b3)) : jS)) rfl ?_
  exact hq
set_option maxHeartbeats 4000000 in
set_option maxRecDepth 100000 in
theorem jzq779 (xs : Nat → Int32) (b0 b1 b2 b3 : Int32) (e : ((xs 1) >>> (24 &&& 31)) &&& 255 = b3) (h : jbz b3) {f : Nat} {q : jO × jH} (hq : jLoop (jRun ((4, xs) : jX) 2000 38) ((4, xs) : jX) jm248 f ((101, [(4, .int 32), (5, .int (b3)), (3, .int 3), (2, .int 0), (0, .ref 66), (1, .int (xs 1))], [], (jzv360 b0 b1 b2 b3)) : jS) = some q) : jLoop (jRun ((4, xs) : jX) 2000 38) ((4, xs) : jX) jm248 (f + 13) ((101, [(4, .int 24), (5, .int (b2)), (3, .int 3), (2, .int 0), (0, .ref 66), (1, .int (xs 1))], [], (jzv360 b0 b1 b2 b3)) : jS) = some q := by
  refine jl_s (S' := ((103, [(4, .int 24), (5, .int (b2)), (3, .int 3), (2, .int 0), (0, .ref 66), (1, .int (xs 1))], [.int 24], (jzv360 b0 b1 b2 b3)) : jS)) rfl ?_
  refine jl_s (S' := ((105, [(4, .int 24), (5, .int (b2)), (3, .int 3), (2, .int 0), (0, .ref 66), (1, .int (xs 1))], [.int 32, .int 24], (jzv360 b0 b1 b2 b3)) : jS)) rfl ?_
  refine jl_s (S' := ((108, [(4, .int 24), (5, .int (b2)), (3, .int 3), (2, .int 0), (0, .ref 66), (1, .int (xs 1))], [], (jzv360 b0 b1 b2 b3)) : jS)) rfl ?_
  refine jl_s (S' := ((109, [(4, .int 24), (5, .int (b2)), (3, .int 3), (2, .int 0), (0, .ref 66), (1, .int (xs 1))], [.int (xs 1)], (jzv360 b0 b1 b2 b3)) : jS)) rfl ?_
  refine jl_s (S' := ((111, [(4, .int 24), (5, .int (b2)), (3, .int 3), (2, .int 0), (0, .ref 66), (1, .int (xs 1))], [.int 24, .int (xs 1)], (jzv360 b0 b1 b2 b3)) : jS)) rfl ?_
  refine jl_s (S' := ((112, [(4, .int 24), (5, .int (b2)), (3, .int 3), (2, .int 0), (0, .ref 66), (1, .int (xs 1))], [.int ((xs 1) >>> (24 &&& 31))], (jzv360 b0 b1 b2 b3)) : jS)) rfl ?_
  refine jl_s (S' := ((115, [(4, .int 24), (5, .int (b2)), (3, .int 3), (2, .int 0), (0, .ref 66), (1, .int (xs 1))], [.int 255, .int ((xs 1) >>> (24 &&& 31))], (jzv360 b0 b1 b2 b3)) : jS)) rfl ?_
  refine jl_s (S' := ((116, [(4, .int 24), (5, .int (b2)), (3, .int 3), (2, .int 0), (0, .ref 66), (1, .int (xs 1))], [.int (((xs 1) >>> (24 &&& 31)) &&& 255)], (jzv360 b0 b1 b2 b3)) : jS)) rfl ?_
  rw [e]
  refine jl_s (S' := ((118, [(5, .int (b3)), (4, .int 24), (3, .int 3), (2, .int 0), (0, .ref 66), (1, .int (xs 1))], [], (jzv360 b0 b1 b2 b3)) : jS)) rfl ?_
  refine jl_s (S' := ((120, [(5, .int (b3)), (4, .int 24), (3, .int 3), (2, .int 0), (0, .ref 66), (1, .int (xs 1))], [.int (b3)], (jzv360 b0 b1 b2 b3)) : jS)) rfl ?_
  refine jl_ift (e := jm248) (o := 24) rfl (h.1) (t := 144) rfl ?_
  refine jl_s (S' := ((147, [(4, .int 32), (5, .int (b3)), (3, .int 3), (2, .int 0), (0, .ref 66), (1, .int (xs 1))], [], (jzv360 b0 b1 b2 b3)) : jS)) rfl ?_
  refine jl_s (S' := ((101, [(4, .int 32), (5, .int (b3)), (3, .int 3), (2, .int 0), (0, .ref 66), (1, .int (xs 1))], [], (jzv360 b0 b1 b2 b3)) : jS)) rfl ?_
  exact hq
set_option maxHeartbeats 4000000 in
set_option maxRecDepth 100000 in
theorem jzq781 (xs : Nat → Int32) (b0 b1 b2 b3 : Int32) {f : Nat} : jLoop (jRun ((4, xs) : jX) 2000 38) ((4, xs) : jX) jm248 (f + 6) ((101, [(4, .int 32), (5, .int (b3)), (3, .int 3), (2, .int 0), (0, .ref 66), (1, .int (xs 1))], [], (jzv360 b0 b1 b2 b3)) : jS) = some (.inl (some (.int 3)), (jzv360 b0 b1 b2 b3)) := by
  refine jl_s (S' := ((103, [(4, .int 32), (5, .int (b3)), (3, .int 3), (2, .int 0), (0, .ref 66), (1, .int (xs 1))], [.int 32], (jzv360 b0 b1 b2 b3)) : jS)) rfl ?_
  refine jl_s (S' := ((105, [(4, .int 32), (5, .int (b3)), (3, .int 3), (2, .int 0), (0, .ref 66), (1, .int (xs 1))], [.int 32, .int 32], (jzv360 b0 b1 b2 b3)) : jS)) rfl ?_
  refine jl_s (S' := ((150, [(4, .int 32), (5, .int (b3)), (3, .int 3), (2, .int 0), (0, .ref 66), (1, .int (xs 1))], [], (jzv360 b0 b1 b2 b3)) : jS)) rfl ?_
  refine jl_s (S' := ((151, [(4, .int 32), (5, .int (b3)), (3, .int 3), (2, .int 0), (0, .ref 66), (1, .int (xs 1))], [.ref 66], (jzv360 b0 b1 b2 b3)) : jS)) rfl ?_
  refine jl_s (S' := ((154, [(4, .int 32), (5, .int (b3)), (3, .int 3), (2, .int 0), (0, .ref 66), (1, .int (xs 1))], [.int 3], (jzv360 b0 b1 b2 b3)) : jS)) rfl ?_
  exact jl_r (r := (.inl (some (.int 3)), (jzv360 b0 b1 b2 b3))) rfl
set_option maxHeartbeats 4000000 in
set_option maxRecDepth 100000 in
theorem jzrp_VVVZ (xs : Nat → Int32) (b0 b1 b2 b3 : Int32) (e0 : ((xs 1) >>> (0 &&& 31)) &&& 255 = b0) (e1 : ((xs 1) >>> (8 &&& 31)) &&& 255 = b1) (e2 : ((xs 1) >>> (16 &&& 31)) &&& 255 = b2) (e3 : ((xs 1) >>> (24 &&& 31)) &&& 255 = b3) (h0 : jbv b0) (h1 : jbv b1) (h2 : jbv b2) (h3 : jbz b3) : jRun ((4, xs) : jX) 2000 39 248 [.ref 66, .int (xs 1)] (jzv354 b0 b1 b2 b3) = some (.inl (some (.int 3)), (jzv360 b0 b1 b2 b3)) := by
  refine jr_run (e := jm248) rfl (Nat.le_of_ble_eq_true rfl) ?_
  refine jzq506 xs b0 b1 b2 b3 _ ?_
  refine jzq662 xs b0 b1 b2 b3 _ e0 h0 ?_
  refine jzq730 xs b0 b1 b2 b3 _ e1 h1 ?_
  refine jzq766 xs b0 b1 b2 b3 _ e2 h2 ?_
  refine jzq768 xs b0 b1 b2 b3 _ e3 h3 ?_
  refine jzq771 xs b0 b1 b2 b3 ?_
  refine jzq773 xs b0 b1 b2 b3 e0 h0.1 ?_
  refine jzq775 xs b0 b1 b2 b3 e1 h1.1 ?_
  refine jzq777 xs b0 b1 b2 b3 e2 h2.1 ?_
  refine jzq779 xs b0 b1 b2 b3 e3 h3 ?_
  exact jzq781 xs b0 b1 b2 b3
set_option maxHeartbeats 4000000 in
set_option maxRecDepth 100000 in
theorem jzl782 (xs : Nat → Int32) (hop : xs 0 &&& 31 = 0) (b0 b1 b2 b3 : Int32) (e0 : ((Int32.toUInt32 (xs 1) >>> (Int32.toUInt32 0 &&& Int32.toUInt32 31)).toInt32) &&& 255 = b0) (e1 : ((Int32.toUInt32 (xs 1) >>> (Int32.toUInt32 8 &&& Int32.toUInt32 31)).toInt32) &&& 255 = b1) (e2 : ((Int32.toUInt32 (xs 1) >>> (Int32.toUInt32 16 &&& Int32.toUInt32 31)).toInt32) &&& 255 = b2) (e3 : ((Int32.toUInt32 (xs 1) >>> (Int32.toUInt32 24 &&& Int32.toUInt32 31)).toInt32) &&& 255 = b3) (g0 : ((xs 1) >>> (0 &&& 31)) &&& 255 = b0) (g1 : ((xs 1) >>> (8 &&& 31)) &&& 255 = b1) (g2 : ((xs 1) >>> (16 &&& 31)) &&& 255 = b2) (g3 : ((xs 1) >>> (24 &&& 31)) &&& 255 = b3) (h0 : jbv b0) (h1 : jbv b1) (h2 : jbv b2) (h3 : jbz b3) : jRun ((4, xs) : jX) 2000 39 244 [.ref 66] (jzv360 b0 b1 b2 b3) = some (.inl (some (.int 0)), (jzv360 b0 b1 b2 b3)) := by
  refine jr_run (e := jm244) rfl (Nat.le_of_ble_eq_true rfl) ?_
  refine jl_s (S' := ((1, [(0, .ref 66)], [.ref 66], (jzv360 b0 b1 b2 b3)) : jS)) rfl ?_
  refine jl_s (S' := ((4, [(0, .ref 66)], [.int 0], (jzv360 b0 b1 b2 b3)) : jS)) rfl ?_
  exact jl_r (r := (.inl (some (.int 0)), (jzv360 b0 b1 b2 b3))) rfl
set_option maxHeartbeats 4000000 in
set_option maxRecDepth 100000 in
theorem jzl783 (xs : Nat → Int32) (hop : xs 0 &&& 31 = 0) (b0 b1 b2 b3 : Int32) (e0 : ((Int32.toUInt32 (xs 1) >>> (Int32.toUInt32 0 &&& Int32.toUInt32 31)).toInt32) &&& 255 = b0) (e1 : ((Int32.toUInt32 (xs 1) >>> (Int32.toUInt32 8 &&& Int32.toUInt32 31)).toInt32) &&& 255 = b1) (e2 : ((Int32.toUInt32 (xs 1) >>> (Int32.toUInt32 16 &&& Int32.toUInt32 31)).toInt32) &&& 255 = b2) (e3 : ((Int32.toUInt32 (xs 1) >>> (Int32.toUInt32 24 &&& Int32.toUInt32 31)).toInt32) &&& 255 = b3) (g0 : ((xs 1) >>> (0 &&& 31)) &&& 255 = b0) (g1 : ((xs 1) >>> (8 &&& 31)) &&& 255 = b1) (g2 : ((xs 1) >>> (16 &&& 31)) &&& 255 = b2) (g3 : ((xs 1) >>> (24 &&& 31)) &&& 255 = b3) (h0 : jbv b0) (h1 : jbv b1) (h2 : jbv b2) (h3 : jbz b3) : jLoop (jRun ((4, xs) : jX) 2000 39) ((4, xs) : jX) jm18 1000 ((23, [(4, .int 0), (3, .ref 153), (2, .ref 66), (1, .ref 64), (0, .ref 63)], [], jzv181) : jS) = some (.inl (some (.int 1)), (jzv360 b0 b1 b2 b3)) := by
  refine jl_s (S' := ((25, [(4, .int 0), (3, .ref 153), (2, .ref 66), (1, .ref 64), (0, .ref 63)], [.int 0], jzv181) : jS)) rfl ?_
  refine jl_s (S' := ((26, [(4, .int 0), (3, .ref 153), (2, .ref 66), (1, .ref 64), (0, .ref 63)], [.ref 63, .int 0], jzv181) : jS)) rfl ?_
  refine jl_s (S' := ((27, [(4, .int 0), (3, .ref 153), (2, .ref 66), (1, .ref 64), (0, .ref 63)], [.int 4, .int 0], jzv181) : jS)) rfl ?_
  refine jl_s (S' := ((28, [(4, .int 0), (3, .ref 153), (2, .ref 66), (1, .ref 64), (0, .ref 63)], [.int 4, .int 4, .int 0], jzv181) : jS)) rfl ?_
  refine jl_s (S' := ((29, [(4, .int 0), (3, .ref 153), (2, .ref 66), (1, .ref 64), (0, .ref 63)], [.int 0, .int 0], jzv181) : jS)) rfl ?_
  refine jl_s (S' := ((32, [(4, .int 0), (3, .ref 153), (2, .ref 66), (1, .ref 64), (0, .ref 63)], [], jzv181) : jS)) rfl ?_
  refine jl_s (S' := ((33, [(4, .int 0), (3, .ref 153), (2, .ref 66), (1, .ref 64), (0, .ref 63)], [.ref 63], jzv181) : jS)) rfl ?_
  refine jl_s (S' := ((35, [(4, .int 0), (3, .ref 153), (2, .ref 66), (1, .ref 64), (0, .ref 63)], [.int 0, .ref 63], jzv181) : jS)) rfl ?_
  refine jl_s (S' := ((36, [(4, .int 0), (3, .ref 153), (2, .ref 66), (1, .ref 64), (0, .ref 63)], [.int (xs 0)], jzv181) : jS)) rfl ?_
  refine jl_s (S' := ((38, [(4, .int 0), (3, .ref 153), (2, .ref 66), (1, .ref 64), (0, .ref 63)], [.int 31, .int (xs 0)], jzv181) : jS)) rfl ?_
  refine jl_s (S' := ((39, [(4, .int 0), (3, .ref 153), (2, .ref 66), (1, .ref 64), (0, .ref 63)], [.int ((xs 0) &&& 31)], jzv181) : jS)) rfl ?_
  rw [hop]
  refine jl_s (S' := ((128, [(4, .int 0), (3, .ref 153), (2, .ref 66), (1, .ref 64), (0, .ref 63)], [], jzv181) : jS)) rfl ?_
  refine jl_s (S' := ((129, [(4, .int 0), (3, .ref 153), (2, .ref 66), (1, .ref 64), (0, .ref 63)], [.ref 64], jzv181) : jS)) rfl ?_
  refine jl_s (S' := ((130, [(4, .int 0), (3, .ref 153), (2, .ref 66), (1, .ref 64), (0, .ref 63)], [.ref 63, .ref 64], jzv181) : jS)) rfl ?_
  refine jl_s (S' := ((132, [(4, .int 0), (3, .ref 153), (2, .ref 66), (1, .ref 64), (0, .ref 63)], [.int 0, .ref 63, .ref 64], jzv181) : jS)) rfl ?_
  refine jl_s (S' := ((133, [(4, .int 0), (3, .ref 153), (2, .ref 66), (1, .ref 64), (0, .ref 63)], [.int 1, .int 0, .ref 63, .ref 64], jzv181) : jS)) rfl ?_
  refine jl_s (S' := ((134, [(4, .int 0), (3, .ref 153), (2, .ref 66), (1, .ref 64), (0, .ref 63)], [.int 1, .ref 63, .ref 64], jzv181) : jS)) rfl ?_
  refine jl_s (S' := ((135, [(4, .int 0), (3, .ref 153), (2, .ref 66), (1, .ref 64), (0, .ref 63)], [.int (xs 1), .ref 64], jzv181) : jS)) rfl ?_
  refine jl_s (S' := ((136, [(4, .int 0), (3, .ref 153), (2, .ref 66), (1, .ref 64), (0, .ref 63)], [.ref 153, .int (xs 1), .ref 64], jzv181) : jS)) rfl ?_
  refine jl_c (t := 0) (as := [.ref 64, .int (xs 1), .ref 153]) (V := jzv181) (r := (.inl (some (.int 0)), (jzv354 b0 b1 b2 b3))) (S' := ((139, [(4, .int 0), (3, .ref 153), (2, .ref 66), (1, .ref 64), (0, .ref 63)], [.int 0], (jzv354 b0 b1 b2 b3)) : jS)) rfl (jzl764 xs hop b0 b1 b2 b3 e0 e1 e2 e3 g0 g1 g2 g3 h0 h1 h2 h3) rfl ?_
  refine jl_s (S' := ((141, [(5, .int 0), (4, .int 0), (3, .ref 153), (2, .ref 66), (1, .ref 64), (0, .ref 63)], [], (jzv354 b0 b1 b2 b3)) : jS)) rfl ?_
  refine jl_s (S' := ((142, [(5, .int 0), (4, .int 0), (3, .ref 153), (2, .ref 66), (1, .ref 64), (0, .ref 63)], [.ref 66], (jzv354 b0 b1 b2 b3)) : jS)) rfl ?_
  refine jl_s (S' := ((143, [(5, .int 0), (4, .int 0), (3, .ref 153), (2, .ref 66), (1, .ref 64), (0, .ref 63)], [.ref 63, .ref 66], (jzv354 b0 b1 b2 b3)) : jS)) rfl ?_
  refine jl_s (S' := ((145, [(5, .int 0), (4, .int 0), (3, .ref 153), (2, .ref 66), (1, .ref 64), (0, .ref 63)], [.int 0, .ref 63, .ref 66], (jzv354 b0 b1 b2 b3)) : jS)) rfl ?_
  refine jl_s (S' := ((146, [(5, .int 0), (4, .int 0), (3, .ref 153), (2, .ref 66), (1, .ref 64), (0, .ref 63)], [.int 1, .int 0, .ref 63, .ref 66], (jzv354 b0 b1 b2 b3)) : jS)) rfl ?_
  refine jl_s (S' := ((147, [(5, .int 0), (4, .int 0), (3, .ref 153), (2, .ref 66), (1, .ref 64), (0, .ref 63)], [.int 1, .ref 63, .ref 66], (jzv354 b0 b1 b2 b3)) : jS)) rfl ?_
  refine jl_s (S' := ((148, [(5, .int 0), (4, .int 0), (3, .ref 153), (2, .ref 66), (1, .ref 64), (0, .ref 63)], [.int (xs 1), .ref 66], (jzv354 b0 b1 b2 b3)) : jS)) rfl ?_
  refine jl_c (t := 248) (as := [.ref 66, .int (xs 1)]) (V := (jzv354 b0 b1 b2 b3)) (r := (.inl (some (.int 3)), (jzv360 b0 b1 b2 b3))) (S' := ((151, [(5, .int 0), (4, .int 0), (3, .ref 153), (2, .ref 66), (1, .ref 64), (0, .ref 63)], [.int 3], (jzv360 b0 b1 b2 b3)) : jS)) rfl (jzrp_VVVZ xs b0 b1 b2 b3 g0 g1 g2 g3 h0 h1 h2 h3 ) rfl ?_
  refine jl_s (S' := ((153, [(6, .int 3), (5, .int 0), (4, .int 0), (3, .ref 153), (2, .ref 66), (1, .ref 64), (0, .ref 63)], [], (jzv360 b0 b1 b2 b3)) : jS)) rfl ?_
  refine jl_s (S' := ((154, [(6, .int 3), (5, .int 0), (4, .int 0), (3, .ref 153), (2, .ref 66), (1, .ref 64), (0, .ref 63)], [.ref 66], (jzv360 b0 b1 b2 b3)) : jS)) rfl ?_
  refine jl_c (t := 244) (as := [.ref 66]) (V := (jzv360 b0 b1 b2 b3)) (r := (.inl (some (.int 0)), (jzv360 b0 b1 b2 b3))) (S' := ((157, [(6, .int 3), (5, .int 0), (4, .int 0), (3, .ref 153), (2, .ref 66), (1, .ref 64), (0, .ref 63)], [.int 0], (jzv360 b0 b1 b2 b3)) : jS)) rfl (jzl782 xs hop b0 b1 b2 b3 e0 e1 e2 e3 g0 g1 g2 g3 h0 h1 h2 h3) rfl ?_
  refine jl_s (S' := ((159, [(6, .int 3), (5, .int 0), (4, .int 0), (3, .ref 153), (2, .ref 66), (1, .ref 64), (0, .ref 63)], [.int 0, .int 0], (jzv360 b0 b1 b2 b3)) : jS)) rfl ?_
  refine jl_s (S' := ((164, [(6, .int 3), (5, .int 0), (4, .int 0), (3, .ref 153), (2, .ref 66), (1, .ref 64), (0, .ref 63)], [], (jzv360 b0 b1 b2 b3)) : jS)) rfl ?_
  refine jl_s (S' := ((166, [(6, .int 3), (5, .int 0), (4, .int 0), (3, .ref 153), (2, .ref 66), (1, .ref 64), (0, .ref 63)], [.int 0], (jzv360 b0 b1 b2 b3)) : jS)) rfl ?_
  refine jl_s (S' := ((169, [(6, .int 3), (5, .int 0), (4, .int 0), (3, .ref 153), (2, .ref 66), (1, .ref 64), (0, .ref 63)], [], (jzv360 b0 b1 b2 b3)) : jS)) rfl ?_
  refine jl_s (S' := ((170, [(6, .int 3), (5, .int 0), (4, .int 0), (3, .ref 153), (2, .ref 66), (1, .ref 64), (0, .ref 63)], [.ref 153], (jzv360 b0 b1 b2 b3)) : jS)) rfl ?_
  refine jl_s (S' := ((171, [(6, .int 3), (5, .int 0), (4, .int 0), (3, .ref 153), (2, .ref 66), (1, .ref 64), (0, .ref 63)], [.int 0, .ref 153], (jzv360 b0 b1 b2 b3)) : jS)) rfl ?_
  refine jl_s (S' := ((172, [(6, .int 3), (5, .int 0), (4, .int 0), (3, .ref 153), (2, .ref 66), (1, .ref 64), (0, .ref 63)], [.long 3], (jzv360 b0 b1 b2 b3)) : jS)) rfl ?_
  refine jl_s (S' := ((174, [(6, .int 3), (5, .int 0), (4, .int 0), (3, .ref 153), (2, .ref 66), (1, .ref 64), (0, .ref 63)], [.int 3, .long 3], (jzv360 b0 b1 b2 b3)) : jS)) rfl ?_
  refine jl_s (S' := ((175, [(6, .int 3), (5, .int 0), (4, .int 0), (3, .ref 153), (2, .ref 66), (1, .ref 64), (0, .ref 63)], [.long 3, .long 3], (jzv360 b0 b1 b2 b3)) : jS)) rfl ?_
  refine jl_s (S' := ((176, [(6, .int 3), (5, .int 0), (4, .int 0), (3, .ref 153), (2, .ref 66), (1, .ref 64), (0, .ref 63)], [.int 0], (jzv360 b0 b1 b2 b3)) : jS)) rfl ?_
  refine jl_s (S' := ((181, [(6, .int 3), (5, .int 0), (4, .int 0), (3, .ref 153), (2, .ref 66), (1, .ref 64), (0, .ref 63)], [], (jzv360 b0 b1 b2 b3)) : jS)) rfl ?_
  refine jl_s (S' := ((1193, [(6, .int 3), (5, .int 0), (4, .int 0), (3, .ref 153), (2, .ref 66), (1, .ref 64), (0, .ref 63)], [], (jzv360 b0 b1 b2 b3)) : jS)) rfl ?_
  refine jl_s (S' := ((1196, [(4, .int 4), (6, .int 3), (5, .int 0), (3, .ref 153), (2, .ref 66), (1, .ref 64), (0, .ref 63)], [], (jzv360 b0 b1 b2 b3)) : jS)) rfl ?_
  refine jl_s (S' := ((23, [(4, .int 4), (6, .int 3), (5, .int 0), (3, .ref 153), (2, .ref 66), (1, .ref 64), (0, .ref 63)], [], (jzv360 b0 b1 b2 b3)) : jS)) rfl ?_
  refine jl_s (S' := ((25, [(4, .int 4), (6, .int 3), (5, .int 0), (3, .ref 153), (2, .ref 66), (1, .ref 64), (0, .ref 63)], [.int 4], (jzv360 b0 b1 b2 b3)) : jS)) rfl ?_
  refine jl_s (S' := ((26, [(4, .int 4), (6, .int 3), (5, .int 0), (3, .ref 153), (2, .ref 66), (1, .ref 64), (0, .ref 63)], [.ref 63, .int 4], (jzv360 b0 b1 b2 b3)) : jS)) rfl ?_
  refine jl_s (S' := ((27, [(4, .int 4), (6, .int 3), (5, .int 0), (3, .ref 153), (2, .ref 66), (1, .ref 64), (0, .ref 63)], [.int 4, .int 4], (jzv360 b0 b1 b2 b3)) : jS)) rfl ?_
  refine jl_s (S' := ((28, [(4, .int 4), (6, .int 3), (5, .int 0), (3, .ref 153), (2, .ref 66), (1, .ref 64), (0, .ref 63)], [.int 4, .int 4, .int 4], (jzv360 b0 b1 b2 b3)) : jS)) rfl ?_
  refine jl_s (S' := ((29, [(4, .int 4), (6, .int 3), (5, .int 0), (3, .ref 153), (2, .ref 66), (1, .ref 64), (0, .ref 63)], [.int 0, .int 4], (jzv360 b0 b1 b2 b3)) : jS)) rfl ?_
  refine jl_s (S' := ((1199, [(4, .int 4), (6, .int 3), (5, .int 0), (3, .ref 153), (2, .ref 66), (1, .ref 64), (0, .ref 63)], [], (jzv360 b0 b1 b2 b3)) : jS)) rfl ?_
  refine jl_s (S' := ((1200, [(4, .int 4), (6, .int 3), (5, .int 0), (3, .ref 153), (2, .ref 66), (1, .ref 64), (0, .ref 63)], [.int 1], (jzv360 b0 b1 b2 b3)) : jS)) rfl ?_
  exact jl_r (r := (.inl (some (.int 1)), (jzv360 b0 b1 b2 b3))) rfl
-- op 0 VVVZ: jzl783
def jzc220 : jC := .inl (2, 1, .inr (.inl (vp_updL (fun _ => 0) 0 4)))
def jzv361 (b0 b1 b2 b3 : Int32) : jH := [jzc199, (jzc198 b0 b1 b2 b3), jzc117, jzc7, jzc9, jzc9, jzc9, jzc9, jzc9, jzc17, jzc19, jzc19, jzc19, jzc19, jzc19, jzc19, jzc19, jzc19, jzc28, jzc28, jzc28, jzc28, jzc28, jzc28, jzc28, jzc28, jzc28, jzc28, jzc28, jzc28, jzc28, jzc28, jzc43, jzc43, jzc43, jzc43, jzc43, jzc49, jzc49, jzc52, jzc52, jzc52, jzc56, jzc56, jzc59, jzc56, jzc62, jzc28, jzc28, jzc28, jzc28, jzc28, jzc69, jzc71, jzc73, jzc43, jzc76, jzc52, jzc52, jzc80, jzc80, jzc80, jzc84, jzc52, jzc52, jzc52, jzc52, jzc52, jzc52, jzc52, jzc93, jzc93, jzc52, jzc52, jzc98, jzc100, jzc93, jzc52, jzc52, jzc52, jzc52, jzc107, jzc109, jzc111, jzc100, jzc100, jzc100, jzc111, jzc111, jzc220]
set_option maxHeartbeats 4000000 in
set_option maxRecDepth 100000 in
theorem jzl784 (xs : Nat → Int32) (hop : xs 0 &&& 31 = 0) (b0 b1 b2 b3 : Int32) (e0 : ((Int32.toUInt32 (xs 1) >>> (Int32.toUInt32 0 &&& Int32.toUInt32 31)).toInt32) &&& 255 = b0) (e1 : ((Int32.toUInt32 (xs 1) >>> (Int32.toUInt32 8 &&& Int32.toUInt32 31)).toInt32) &&& 255 = b1) (e2 : ((Int32.toUInt32 (xs 1) >>> (Int32.toUInt32 16 &&& Int32.toUInt32 31)).toInt32) &&& 255 = b2) (e3 : ((Int32.toUInt32 (xs 1) >>> (Int32.toUInt32 24 &&& Int32.toUInt32 31)).toInt32) &&& 255 = b3) (g0 : ((xs 1) >>> (0 &&& 31)) &&& 255 = b0) (g1 : ((xs 1) >>> (8 &&& 31)) &&& 255 = b1) (g2 : ((xs 1) >>> (16 &&& 31)) &&& 255 = b2) (g3 : ((xs 1) >>> (24 &&& 31)) &&& 255 = b3) (h0 : jbv b0) (h1 : jbv b1) (h2 : jbv b2) (h3 : jbv b3) : jRun ((4, xs) : jX) 2000 39 0 [.ref 64, .int (xs 1), .ref 153] jzv181 = some (.inl (some (.int 0)), (jzv361 b0 b1 b2 b3)) := by
  refine jr_run (e := jm0) rfl (Nat.le_of_ble_eq_true rfl) ?_
  refine jl_s (S' := ((1, [(0, .ref 64), (1, .int (xs 1)), (2, .ref 153)], [.ref 153], jzv181) : jS)) rfl ?_
  refine jl_s (S' := ((2, [(0, .ref 64), (1, .int (xs 1)), (2, .ref 153)], [.int 0, .ref 153], jzv181) : jS)) rfl ?_
  refine jl_s (S' := ((3, [(0, .ref 64), (1, .int (xs 1)), (2, .ref 153)], [.ref 64, .int 0, .ref 153], jzv181) : jS)) rfl ?_
  refine jl_s (S' := ((4, [(0, .ref 64), (1, .int (xs 1)), (2, .ref 153)], [.int (xs 1), .ref 64, .int 0, .ref 153], jzv181) : jS)) rfl ?_
  refine jl_c (t := 20) (as := [.ref 64, .int (xs 1)]) (V := jzv181) (r := (.inl (some (.int 4)), (jzv290 b0 b1 b2 b3))) (S' := ((7, [(0, .ref 64), (1, .int (xs 1)), (2, .ref 153)], [.int 4, .int 0, .ref 153], (jzv290 b0 b1 b2 b3)) : jS)) rfl (jzcp_VVVV xs b0 b1 b2 b3 e0 e1 e2 e3 h0 h1 h2 h3 ) rfl ?_
  refine jl_s (S' := ((8, [(0, .ref 64), (1, .int (xs 1)), (2, .ref 153)], [.long 4, .int 0, .ref 153], (jzv290 b0 b1 b2 b3)) : jS)) rfl ?_
  refine jl_s (S' := ((9, [(0, .ref 64), (1, .int (xs 1)), (2, .ref 153)], [], (jzv361 b0 b1 b2 b3)) : jS)) rfl ?_
  refine jl_s (S' := ((18, [(0, .ref 64), (1, .int (xs 1)), (2, .ref 153)], [], (jzv361 b0 b1 b2 b3)) : jS)) rfl ?_
  refine jl_s (S' := ((19, [(0, .ref 64), (1, .int (xs 1)), (2, .ref 153)], [.int 0], (jzv361 b0 b1 b2 b3)) : jS)) rfl ?_
  exact jl_r (r := (.inl (some (.int 0)), (jzv361 b0 b1 b2 b3))) rfl
set_option maxHeartbeats 4000000 in
set_option maxRecDepth 100000 in
theorem jzq786 (xs : Nat → Int32) (b0 b1 b2 b3 : Int32) (V : jH) (e : ((xs 1) >>> (24 &&& 31)) &&& 255 = b3) (h : jbv b3) {f : Nat} {q : jO × jH} (hq : jLoop (jRun ((4, xs) : jX) 2000 38) ((4, xs) : jX) jm248 f ((7, [(4, .int 32), (3, .int 4), (2, .int 0), (5, .int (b3)), (0, .ref 66), (1, .int (xs 1))], [], V) : jS) = some q) : jLoop (jRun ((4, xs) : jX) 2000 38) ((4, xs) : jX) jm248 (f + 27) ((7, [(4, .int 24), (3, .int 3), (2, .int 0), (5, .int (b2)), (0, .ref 66), (1, .int (xs 1))], [], V) : jS) = some q := by
  refine jl_s (S' := ((9, [(4, .int 24), (3, .int 3), (2, .int 0), (5, .int (b2)), (0, .ref 66), (1, .int (xs 1))], [.int 24], V) : jS)) rfl ?_
  refine jl_s (S' := ((11, [(4, .int 24), (3, .int 3), (2, .int 0), (5, .int (b2)), (0, .ref 66), (1, .int (xs 1))], [.int 32, .int 24], V) : jS)) rfl ?_
  refine jl_s (S' := ((14, [(4, .int 24), (3, .int 3), (2, .int 0), (5, .int (b2)), (0, .ref 66), (1, .int (xs 1))], [], V) : jS)) rfl ?_
  refine jl_s (S' := ((15, [(4, .int 24), (3, .int 3), (2, .int 0), (5, .int (b2)), (0, .ref 66), (1, .int (xs 1))], [.int (xs 1)], V) : jS)) rfl ?_
  refine jl_s (S' := ((17, [(4, .int 24), (3, .int 3), (2, .int 0), (5, .int (b2)), (0, .ref 66), (1, .int (xs 1))], [.int 24, .int (xs 1)], V) : jS)) rfl ?_
  refine jl_s (S' := ((18, [(4, .int 24), (3, .int 3), (2, .int 0), (5, .int (b2)), (0, .ref 66), (1, .int (xs 1))], [.int ((xs 1) >>> (24 &&& 31))], V) : jS)) rfl ?_
  refine jl_s (S' := ((21, [(4, .int 24), (3, .int 3), (2, .int 0), (5, .int (b2)), (0, .ref 66), (1, .int (xs 1))], [.int 255, .int ((xs 1) >>> (24 &&& 31))], V) : jS)) rfl ?_
  refine jl_s (S' := ((22, [(4, .int 24), (3, .int 3), (2, .int 0), (5, .int (b2)), (0, .ref 66), (1, .int (xs 1))], [.int (((xs 1) >>> (24 &&& 31)) &&& 255)], V) : jS)) rfl ?_
  rw [e]
  refine jl_s (S' := ((24, [(5, .int (b3)), (4, .int 24), (3, .int 3), (2, .int 0), (0, .ref 66), (1, .int (xs 1))], [], V) : jS)) rfl ?_
  refine jl_s (S' := ((25, [(5, .int (b3)), (4, .int 24), (3, .int 3), (2, .int 0), (0, .ref 66), (1, .int (xs 1))], [.int 0], V) : jS)) rfl ?_
  refine jl_s (S' := ((28, [(5, .int (b3)), (4, .int 24), (3, .int 3), (2, .int 0), (0, .ref 66), (1, .int (xs 1))], [], V) : jS)) rfl ?_
  refine jl_s (S' := ((30, [(5, .int (b3)), (4, .int 24), (3, .int 3), (2, .int 0), (0, .ref 66), (1, .int (xs 1))], [.int (b3)], V) : jS)) rfl ?_
  refine jl_iff (e := jm248) (o := 15) rfl (h.1.1) ?_
  refine jl_s (S' := ((35, [(5, .int (b3)), (4, .int 24), (3, .int 3), (2, .int 0), (0, .ref 66), (1, .int (xs 1))], [.int (b3)], V) : jS)) rfl ?_
  refine jl_c (t := 247) (as := [.int (b3)]) (V := V) (r := (.inl (some (.int 1)), V)) (S' := ((38, [(5, .int (b3)), (4, .int 24), (3, .int 3), (2, .int 0), (0, .ref 66), (1, .int (xs 1))], [.int 1], V) : jS)) rfl (jz_sv ((4, xs) : jX) V b3 h ) rfl ?_
  refine jl_s (S' := ((45, [(5, .int (b3)), (4, .int 24), (3, .int 3), (2, .int 0), (0, .ref 66), (1, .int (xs 1))], [], V) : jS)) rfl ?_
  refine jl_s (S' := ((46, [(5, .int (b3)), (4, .int 24), (3, .int 3), (2, .int 0), (0, .ref 66), (1, .int (xs 1))], [.int 0], V) : jS)) rfl ?_
  refine jl_s (S' := ((47, [(2, .int 0), (5, .int (b3)), (4, .int 24), (3, .int 3), (0, .ref 66), (1, .int (xs 1))], [], V) : jS)) rfl ?_
  refine jl_s (S' := ((49, [(2, .int 0), (5, .int (b3)), (4, .int 24), (3, .int 3), (0, .ref 66), (1, .int (xs 1))], [.int (b3)], V) : jS)) rfl ?_
  refine jl_iff (e := jm248) (o := 9) rfl (h.1.1) ?_
  refine jl_s (S' := ((53, [(2, .int 0), (5, .int (b3)), (4, .int 24), (3, .int 3), (0, .ref 66), (1, .int (xs 1))], [.int 3], V) : jS)) rfl ?_
  refine jl_s (S' := ((54, [(2, .int 0), (5, .int (b3)), (4, .int 24), (3, .int 3), (0, .ref 66), (1, .int (xs 1))], [.int 1, .int 3], V) : jS)) rfl ?_
  refine jl_s (S' := ((55, [(2, .int 0), (5, .int (b3)), (4, .int 24), (3, .int 3), (0, .ref 66), (1, .int (xs 1))], [.int 4], V) : jS)) rfl ?_
  refine jl_s (S' := ((59, [(2, .int 0), (5, .int (b3)), (4, .int 24), (3, .int 3), (0, .ref 66), (1, .int (xs 1))], [.int 4], V) : jS)) rfl ?_
  refine jl_s (S' := ((60, [(3, .int 4), (2, .int 0), (5, .int (b3)), (4, .int 24), (0, .ref 66), (1, .int (xs 1))], [], V) : jS)) rfl ?_
  refine jl_s (S' := ((63, [(4, .int 32), (3, .int 4), (2, .int 0), (5, .int (b3)), (0, .ref 66), (1, .int (xs 1))], [], V) : jS)) rfl ?_
  refine jl_s (S' := ((7, [(4, .int 32), (3, .int 4), (2, .int 0), (5, .int (b3)), (0, .ref 66), (1, .int (xs 1))], [], V) : jS)) rfl ?_
  exact hq
set_option maxHeartbeats 4000000 in
set_option maxRecDepth 100000 in
theorem jzl787 (xs : Nat → Int32) (b0 b1 b2 b3 : Int32) : jRun ((4, xs) : jX) 2000 38 245 [.ref 66, .int 0, .int 0, .int 0] (jzv361 b0 b1 b2 b3) = some (.inl (some (.int 0)), (jzv361 b0 b1 b2 b3)) := by
  refine jr_run (e := jm245) rfl (Nat.le_of_ble_eq_true rfl) ?_
  refine jl_s (S' := ((1, [(0, .ref 66), (1, .int 0), (2, .int 0), (3, .int 0)], [.ref 66], (jzv361 b0 b1 b2 b3)) : jS)) rfl ?_
  refine jl_s (S' := ((2, [(0, .ref 66), (1, .int 0), (2, .int 0), (3, .int 0)], [.int 0, .ref 66], (jzv361 b0 b1 b2 b3)) : jS)) rfl ?_
  refine jl_s (S' := ((9, [(0, .ref 66), (1, .int 0), (2, .int 0), (3, .int 0)], [.ref 66], (jzv361 b0 b1 b2 b3)) : jS)) rfl ?_
  refine jl_s (S' := ((10, [(0, .ref 66), (1, .int 0), (2, .int 0), (3, .int 0)], [.int 0, .ref 66], (jzv361 b0 b1 b2 b3)) : jS)) rfl ?_
  refine jl_s (S' := ((17, [(0, .ref 66), (1, .int 0), (2, .int 0), (3, .int 0)], [.ref 66], (jzv361 b0 b1 b2 b3)) : jS)) rfl ?_
  refine jl_s (S' := ((18, [(0, .ref 66), (1, .int 0), (2, .int 0), (3, .int 0)], [.int 0, .ref 66], (jzv361 b0 b1 b2 b3)) : jS)) rfl ?_
  refine jl_s (S' := ((25, [(0, .ref 66), (1, .int 0), (2, .int 0), (3, .int 0)], [.ref 66], (jzv361 b0 b1 b2 b3)) : jS)) rfl ?_
  refine jl_s (S' := ((26, [(0, .ref 66), (1, .int 0), (2, .int 0), (3, .int 0)], [.int 0, .ref 66], (jzv361 b0 b1 b2 b3)) : jS)) rfl ?_
  refine jl_s (S' := ((29, [(0, .ref 66), (1, .int 0), (2, .int 0), (3, .int 0)], [], (jzv361 b0 b1 b2 b3)) : jS)) rfl ?_
  refine jl_s (S' := ((30, [(0, .ref 66), (1, .int 0), (2, .int 0), (3, .int 0)], [.ref 66], (jzv361 b0 b1 b2 b3)) : jS)) rfl ?_
  refine jl_s (S' := ((33, [(0, .ref 66), (1, .int 0), (2, .int 0), (3, .int 0)], [.int 0], (jzv361 b0 b1 b2 b3)) : jS)) rfl ?_
  refine jl_s (S' := ((40, [(0, .ref 66), (1, .int 0), (2, .int 0), (3, .int 0)], [], (jzv361 b0 b1 b2 b3)) : jS)) rfl ?_
  refine jl_s (S' := ((41, [(0, .ref 66), (1, .int 0), (2, .int 0), (3, .int 0)], [.int 0], (jzv361 b0 b1 b2 b3)) : jS)) rfl ?_
  exact jl_r (r := (.inl (some (.int 0)), (jzv361 b0 b1 b2 b3))) rfl
set_option maxHeartbeats 4000000 in
set_option maxRecDepth 100000 in
theorem jzq789 (xs : Nat → Int32) (b0 b1 b2 b3 : Int32) {f : Nat} {q : jO × jH} (hq : jLoop (jRun ((4, xs) : jX) 2000 38) ((4, xs) : jX) jm248 f ((101, [(4, .int 0), (3, .int 4), (2, .int 0), (5, .int (b3)), (0, .ref 66), (1, .int (xs 1))], [], (jzv361 b0 b1 b2 b3)) : jS) = some q) : jLoop (jRun ((4, xs) : jX) 2000 38) ((4, xs) : jX) jm248 (f + 19) ((7, [(4, .int 32), (3, .int 4), (2, .int 0), (5, .int (b3)), (0, .ref 66), (1, .int (xs 1))], [], (jzv361 b0 b1 b2 b3)) : jS) = some q := by
  refine jl_s (S' := ((9, [(4, .int 32), (3, .int 4), (2, .int 0), (5, .int (b3)), (0, .ref 66), (1, .int (xs 1))], [.int 32], (jzv361 b0 b1 b2 b3)) : jS)) rfl ?_
  refine jl_s (S' := ((11, [(4, .int 32), (3, .int 4), (2, .int 0), (5, .int (b3)), (0, .ref 66), (1, .int (xs 1))], [.int 32, .int 32], (jzv361 b0 b1 b2 b3)) : jS)) rfl ?_
  refine jl_s (S' := ((66, [(4, .int 32), (3, .int 4), (2, .int 0), (5, .int (b3)), (0, .ref 66), (1, .int (xs 1))], [], (jzv361 b0 b1 b2 b3)) : jS)) rfl ?_
  refine jl_s (S' := ((67, [(4, .int 32), (3, .int 4), (2, .int 0), (5, .int (b3)), (0, .ref 66), (1, .int (xs 1))], [.ref 66], (jzv361 b0 b1 b2 b3)) : jS)) rfl ?_
  refine jl_s (S' := ((68, [(4, .int 32), (3, .int 4), (2, .int 0), (5, .int (b3)), (0, .ref 66), (1, .int (xs 1))], [.int 0, .ref 66], (jzv361 b0 b1 b2 b3)) : jS)) rfl ?_
  refine jl_s (S' := ((69, [(4, .int 32), (3, .int 4), (2, .int 0), (5, .int (b3)), (0, .ref 66), (1, .int (xs 1))], [.int 0, .int 0, .ref 66], (jzv361 b0 b1 b2 b3)) : jS)) rfl ?_
  refine jl_s (S' := ((72, [(4, .int 32), (3, .int 4), (2, .int 0), (5, .int (b3)), (0, .ref 66), (1, .int (xs 1))], [.int 0, .ref 66], (jzv361 b0 b1 b2 b3)) : jS)) rfl ?_
  refine jl_s (S' := ((73, [(4, .int 32), (3, .int 4), (2, .int 0), (5, .int (b3)), (0, .ref 66), (1, .int (xs 1))], [.ref 66, .int 0, .ref 66], (jzv361 b0 b1 b2 b3)) : jS)) rfl ?_
  refine jl_s (S' := ((76, [(4, .int 32), (3, .int 4), (2, .int 0), (5, .int (b3)), (0, .ref 66), (1, .int (xs 1))], [.int 0, .int 0, .ref 66], (jzv361 b0 b1 b2 b3)) : jS)) rfl ?_
  refine jl_s (S' := ((77, [(4, .int 32), (3, .int 4), (2, .int 0), (5, .int (b3)), (0, .ref 66), (1, .int (xs 1))], [.int 4, .int 0, .int 0, .ref 66], (jzv361 b0 b1 b2 b3)) : jS)) rfl ?_
  refine jl_s (S' := ((78, [(4, .int 32), (3, .int 4), (2, .int 0), (5, .int (b3)), (0, .ref 66), (1, .int (xs 1))], [.int 4, .int 0, .ref 66], (jzv361 b0 b1 b2 b3)) : jS)) rfl ?_
  refine jl_s (S' := ((81, [(4, .int 32), (3, .int 4), (2, .int 0), (5, .int (b3)), (0, .ref 66), (1, .int (xs 1))], [.int 3000, .int 4, .int 0, .ref 66], (jzv361 b0 b1 b2 b3)) : jS)) rfl ?_
  refine jl_s (S' := ((88, [(4, .int 32), (3, .int 4), (2, .int 0), (5, .int (b3)), (0, .ref 66), (1, .int (xs 1))], [.int 0, .ref 66], (jzv361 b0 b1 b2 b3)) : jS)) rfl ?_
  refine jl_s (S' := ((89, [(4, .int 32), (3, .int 4), (2, .int 0), (5, .int (b3)), (0, .ref 66), (1, .int (xs 1))], [.int 0, .int 0, .ref 66], (jzv361 b0 b1 b2 b3)) : jS)) rfl ?_
  refine jl_s (S' := ((90, [(4, .int 32), (3, .int 4), (2, .int 0), (5, .int (b3)), (0, .ref 66), (1, .int (xs 1))], [.int 0, .int 0, .int 0, .ref 66], (jzv361 b0 b1 b2 b3)) : jS)) rfl ?_
  refine jl_c (t := 245) (as := [.ref 66, .int 0, .int 0, .int 0]) (V := (jzv361 b0 b1 b2 b3)) (r := (.inl (some (.int 0)), (jzv361 b0 b1 b2 b3))) (S' := ((93, [(4, .int 32), (3, .int 4), (2, .int 0), (5, .int (b3)), (0, .ref 66), (1, .int (xs 1))], [.int 0], (jzv361 b0 b1 b2 b3)) : jS)) rfl (jzl787 xs b0 b1 b2 b3) rfl ?_
  refine jl_s (S' := ((98, [(4, .int 32), (3, .int 4), (2, .int 0), (5, .int (b3)), (0, .ref 66), (1, .int (xs 1))], [], (jzv361 b0 b1 b2 b3)) : jS)) rfl ?_
  refine jl_s (S' := ((99, [(4, .int 32), (3, .int 4), (2, .int 0), (5, .int (b3)), (0, .ref 66), (1, .int (xs 1))], [.int 0], (jzv361 b0 b1 b2 b3)) : jS)) rfl ?_
  refine jl_s (S' := ((101, [(4, .int 0), (3, .int 4), (2, .int 0), (5, .int (b3)), (0, .ref 66), (1, .int (xs 1))], [], (jzv361 b0 b1 b2 b3)) : jS)) rfl ?_
  exact hq
def jzv362 (b0 b1 b2 b3 : Int32) : jH := [jzc199, (jzc198 b0 b1 b2 b3), jzc117, (jzc213 b0 b1 b2 b3), jzc9, jzc9, jzc9, jzc9, jzc9, jzc17, jzc19, jzc19, jzc19, jzc19, jzc19, jzc19, jzc19, jzc19, jzc28, jzc28, jzc28, jzc28, jzc28, jzc28, jzc28, jzc28, jzc28, jzc28, jzc28, jzc28, jzc28, jzc28, jzc43, jzc43, jzc43, jzc43, jzc43, jzc49, jzc49, jzc52, jzc52, jzc52, jzc56, jzc56, jzc59, jzc56, jzc62, jzc28, jzc28, jzc28, jzc28, jzc28, jzc69, jzc71, jzc73, jzc43, jzc76, jzc52, jzc52, jzc80, jzc80, jzc80, jzc84, jzc52, jzc52, jzc52, jzc52, jzc52, jzc52, jzc52, jzc93, jzc93, jzc52, jzc52, jzc98, jzc100, jzc93, jzc52, jzc52, jzc52, jzc52, jzc107, jzc109, jzc111, jzc100, jzc100, jzc100, jzc111, jzc111, jzc220]
def jzv363 (b0 b1 b2 b3 : Int32) : jH := [jzc199, (jzc198 b0 b1 b2 b3), jzc202, (jzc213 b0 b1 b2 b3), jzc9, jzc9, jzc9, jzc9, jzc9, jzc17, jzc19, jzc19, jzc19, jzc19, jzc19, jzc19, jzc19, jzc19, jzc28, jzc28, jzc28, jzc28, jzc28, jzc28, jzc28, jzc28, jzc28, jzc28, jzc28, jzc28, jzc28, jzc28, jzc43, jzc43, jzc43, jzc43, jzc43, jzc49, jzc49, jzc52, jzc52, jzc52, jzc56, jzc56, jzc59, jzc56, jzc62, jzc28, jzc28, jzc28, jzc28, jzc28, jzc69, jzc71, jzc73, jzc43, jzc76, jzc52, jzc52, jzc80, jzc80, jzc80, jzc84, jzc52, jzc52, jzc52, jzc52, jzc52, jzc52, jzc52, jzc93, jzc93, jzc52, jzc52, jzc98, jzc100, jzc93, jzc52, jzc52, jzc52, jzc52, jzc107, jzc109, jzc111, jzc100, jzc100, jzc100, jzc111, jzc111, jzc220]
set_option maxHeartbeats 4000000 in
set_option maxRecDepth 100000 in
theorem jzq791 (xs : Nat → Int32) (b0 b1 b2 b3 : Int32) (e : ((xs 1) >>> (0 &&& 31)) &&& 255 = b0) (h : jbn b0) {f : Nat} {q : jO × jH} (hq : jLoop (jRun ((4, xs) : jX) 2000 38) ((4, xs) : jX) jm248 f ((101, [(4, .int 8), (5, .int (b0)), (3, .int 4), (2, .int 0), (0, .ref 66), (1, .int (xs 1))], [], (jzv363 b0 b1 b2 b3)) : jS) = some q) : jLoop (jRun ((4, xs) : jX) 2000 38) ((4, xs) : jX) jm248 (f + 25) ((101, [(4, .int 0), (3, .int 4), (2, .int 0), (5, .int (b3)), (0, .ref 66), (1, .int (xs 1))], [], (jzv361 b0 b1 b2 b3)) : jS) = some q := by
  refine jl_s (S' := ((103, [(4, .int 0), (3, .int 4), (2, .int 0), (5, .int (b3)), (0, .ref 66), (1, .int (xs 1))], [.int 0], (jzv361 b0 b1 b2 b3)) : jS)) rfl ?_
  refine jl_s (S' := ((105, [(4, .int 0), (3, .int 4), (2, .int 0), (5, .int (b3)), (0, .ref 66), (1, .int (xs 1))], [.int 32, .int 0], (jzv361 b0 b1 b2 b3)) : jS)) rfl ?_
  refine jl_s (S' := ((108, [(4, .int 0), (3, .int 4), (2, .int 0), (5, .int (b3)), (0, .ref 66), (1, .int (xs 1))], [], (jzv361 b0 b1 b2 b3)) : jS)) rfl ?_
  refine jl_s (S' := ((109, [(4, .int 0), (3, .int 4), (2, .int 0), (5, .int (b3)), (0, .ref 66), (1, .int (xs 1))], [.int (xs 1)], (jzv361 b0 b1 b2 b3)) : jS)) rfl ?_
  refine jl_s (S' := ((111, [(4, .int 0), (3, .int 4), (2, .int 0), (5, .int (b3)), (0, .ref 66), (1, .int (xs 1))], [.int 0, .int (xs 1)], (jzv361 b0 b1 b2 b3)) : jS)) rfl ?_
  refine jl_s (S' := ((112, [(4, .int 0), (3, .int 4), (2, .int 0), (5, .int (b3)), (0, .ref 66), (1, .int (xs 1))], [.int ((xs 1) >>> (0 &&& 31))], (jzv361 b0 b1 b2 b3)) : jS)) rfl ?_
  refine jl_s (S' := ((115, [(4, .int 0), (3, .int 4), (2, .int 0), (5, .int (b3)), (0, .ref 66), (1, .int (xs 1))], [.int 255, .int ((xs 1) >>> (0 &&& 31))], (jzv361 b0 b1 b2 b3)) : jS)) rfl ?_
  refine jl_s (S' := ((116, [(4, .int 0), (3, .int 4), (2, .int 0), (5, .int (b3)), (0, .ref 66), (1, .int (xs 1))], [.int (((xs 1) >>> (0 &&& 31)) &&& 255)], (jzv361 b0 b1 b2 b3)) : jS)) rfl ?_
  rw [e]
  refine jl_s (S' := ((118, [(5, .int (b0)), (4, .int 0), (3, .int 4), (2, .int 0), (0, .ref 66), (1, .int (xs 1))], [], (jzv361 b0 b1 b2 b3)) : jS)) rfl ?_
  refine jl_s (S' := ((120, [(5, .int (b0)), (4, .int 0), (3, .int 4), (2, .int 0), (0, .ref 66), (1, .int (xs 1))], [.int (b0)], (jzv361 b0 b1 b2 b3)) : jS)) rfl ?_
  refine jl_iff (e := jm248) (o := 24) rfl (h.1) ?_
  refine jl_s (S' := ((124, [(5, .int (b0)), (4, .int 0), (3, .int 4), (2, .int 0), (0, .ref 66), (1, .int (xs 1))], [.ref 66], (jzv361 b0 b1 b2 b3)) : jS)) rfl ?_
  refine jl_s (S' := ((127, [(5, .int (b0)), (4, .int 0), (3, .int 4), (2, .int 0), (0, .ref 66), (1, .int (xs 1))], [.ref 67], (jzv361 b0 b1 b2 b3)) : jS)) rfl ?_
  refine jl_s (S' := ((128, [(5, .int (b0)), (4, .int 0), (3, .int 4), (2, .int 0), (0, .ref 66), (1, .int (xs 1))], [.ref 66, .ref 67], (jzv361 b0 b1 b2 b3)) : jS)) rfl ?_
  refine jl_s (S' := ((131, [(5, .int (b0)), (4, .int 0), (3, .int 4), (2, .int 0), (0, .ref 66), (1, .int (xs 1))], [.int 0, .ref 67], (jzv361 b0 b1 b2 b3)) : jS)) rfl ?_
  refine jl_s (S' := ((133, [(5, .int (b0)), (4, .int 0), (3, .int 4), (2, .int 0), (0, .ref 66), (1, .int (xs 1))], [.int (b0), .int 0, .ref 67], (jzv361 b0 b1 b2 b3)) : jS)) rfl ?_
  refine jl_s (S' := ((134, [(5, .int (b0)), (4, .int 0), (3, .int 4), (2, .int 0), (0, .ref 66), (1, .int (xs 1))], [], (jzv362 b0 b1 b2 b3)) : jS)) rfl ?_
  refine jl_s (S' := ((135, [(5, .int (b0)), (4, .int 0), (3, .int 4), (2, .int 0), (0, .ref 66), (1, .int (xs 1))], [.ref 66], (jzv362 b0 b1 b2 b3)) : jS)) rfl ?_
  refine jl_s (S' := ((136, [(5, .int (b0)), (4, .int 0), (3, .int 4), (2, .int 0), (0, .ref 66), (1, .int (xs 1))], [.ref 66, .ref 66], (jzv362 b0 b1 b2 b3)) : jS)) rfl ?_
  refine jl_s (S' := ((139, [(5, .int (b0)), (4, .int 0), (3, .int 4), (2, .int 0), (0, .ref 66), (1, .int (xs 1))], [.int 0, .ref 66], (jzv362 b0 b1 b2 b3)) : jS)) rfl ?_
  refine jl_s (S' := ((140, [(5, .int (b0)), (4, .int 0), (3, .int 4), (2, .int 0), (0, .ref 66), (1, .int (xs 1))], [.int 1, .int 0, .ref 66], (jzv362 b0 b1 b2 b3)) : jS)) rfl ?_
  refine jl_s (S' := ((141, [(5, .int (b0)), (4, .int 0), (3, .int 4), (2, .int 0), (0, .ref 66), (1, .int (xs 1))], [.int 1, .ref 66], (jzv362 b0 b1 b2 b3)) : jS)) rfl ?_
  refine jl_s (S' := ((144, [(5, .int (b0)), (4, .int 0), (3, .int 4), (2, .int 0), (0, .ref 66), (1, .int (xs 1))], [], (jzv363 b0 b1 b2 b3)) : jS)) rfl ?_
  refine jl_s (S' := ((147, [(4, .int 8), (5, .int (b0)), (3, .int 4), (2, .int 0), (0, .ref 66), (1, .int (xs 1))], [], (jzv363 b0 b1 b2 b3)) : jS)) rfl ?_
  refine jl_s (S' := ((101, [(4, .int 8), (5, .int (b0)), (3, .int 4), (2, .int 0), (0, .ref 66), (1, .int (xs 1))], [], (jzv363 b0 b1 b2 b3)) : jS)) rfl ?_
  exact hq
def jzv364 (b0 b1 b2 b3 : Int32) : jH := [jzc199, (jzc198 b0 b1 b2 b3), jzc202, (jzc217 b0 b1 b2 b3), jzc9, jzc9, jzc9, jzc9, jzc9, jzc17, jzc19, jzc19, jzc19, jzc19, jzc19, jzc19, jzc19, jzc19, jzc28, jzc28, jzc28, jzc28, jzc28, jzc28, jzc28, jzc28, jzc28, jzc28, jzc28, jzc28, jzc28, jzc28, jzc43, jzc43, jzc43, jzc43, jzc43, jzc49, jzc49, jzc52, jzc52, jzc52, jzc56, jzc56, jzc59, jzc56, jzc62, jzc28, jzc28, jzc28, jzc28, jzc28, jzc69, jzc71, jzc73, jzc43, jzc76, jzc52, jzc52, jzc80, jzc80, jzc80, jzc84, jzc52, jzc52, jzc52, jzc52, jzc52, jzc52, jzc52, jzc93, jzc93, jzc52, jzc52, jzc98, jzc100, jzc93, jzc52, jzc52, jzc52, jzc52, jzc107, jzc109, jzc111, jzc100, jzc100, jzc100, jzc111, jzc111, jzc220]
def jzv365 (b0 b1 b2 b3 : Int32) : jH := [jzc199, (jzc198 b0 b1 b2 b3), jzc206, (jzc217 b0 b1 b2 b3), jzc9, jzc9, jzc9, jzc9, jzc9, jzc17, jzc19, jzc19, jzc19, jzc19, jzc19, jzc19, jzc19, jzc19, jzc28, jzc28, jzc28, jzc28, jzc28, jzc28, jzc28, jzc28, jzc28, jzc28, jzc28, jzc28, jzc28, jzc28, jzc43, jzc43, jzc43, jzc43, jzc43, jzc49, jzc49, jzc52, jzc52, jzc52, jzc56, jzc56, jzc59, jzc56, jzc62, jzc28, jzc28, jzc28, jzc28, jzc28, jzc69, jzc71, jzc73, jzc43, jzc76, jzc52, jzc52, jzc80, jzc80, jzc80, jzc84, jzc52, jzc52, jzc52, jzc52, jzc52, jzc52, jzc52, jzc93, jzc93, jzc52, jzc52, jzc98, jzc100, jzc93, jzc52, jzc52, jzc52, jzc52, jzc107, jzc109, jzc111, jzc100, jzc100, jzc100, jzc111, jzc111, jzc220]
set_option maxHeartbeats 4000000 in
set_option maxRecDepth 100000 in
theorem jzq793 (xs : Nat → Int32) (b0 b1 b2 b3 : Int32) (e : ((xs 1) >>> (8 &&& 31)) &&& 255 = b1) (h : jbn b1) {f : Nat} {q : jO × jH} (hq : jLoop (jRun ((4, xs) : jX) 2000 38) ((4, xs) : jX) jm248 f ((101, [(4, .int 16), (5, .int (b1)), (3, .int 4), (2, .int 0), (0, .ref 66), (1, .int (xs 1))], [], (jzv365 b0 b1 b2 b3)) : jS) = some q) : jLoop (jRun ((4, xs) : jX) 2000 38) ((4, xs) : jX) jm248 (f + 25) ((101, [(4, .int 8), (5, .int (b0)), (3, .int 4), (2, .int 0), (0, .ref 66), (1, .int (xs 1))], [], (jzv363 b0 b1 b2 b3)) : jS) = some q := by
  refine jl_s (S' := ((103, [(4, .int 8), (5, .int (b0)), (3, .int 4), (2, .int 0), (0, .ref 66), (1, .int (xs 1))], [.int 8], (jzv363 b0 b1 b2 b3)) : jS)) rfl ?_
  refine jl_s (S' := ((105, [(4, .int 8), (5, .int (b0)), (3, .int 4), (2, .int 0), (0, .ref 66), (1, .int (xs 1))], [.int 32, .int 8], (jzv363 b0 b1 b2 b3)) : jS)) rfl ?_
  refine jl_s (S' := ((108, [(4, .int 8), (5, .int (b0)), (3, .int 4), (2, .int 0), (0, .ref 66), (1, .int (xs 1))], [], (jzv363 b0 b1 b2 b3)) : jS)) rfl ?_
  refine jl_s (S' := ((109, [(4, .int 8), (5, .int (b0)), (3, .int 4), (2, .int 0), (0, .ref 66), (1, .int (xs 1))], [.int (xs 1)], (jzv363 b0 b1 b2 b3)) : jS)) rfl ?_
  refine jl_s (S' := ((111, [(4, .int 8), (5, .int (b0)), (3, .int 4), (2, .int 0), (0, .ref 66), (1, .int (xs 1))], [.int 8, .int (xs 1)], (jzv363 b0 b1 b2 b3)) : jS)) rfl ?_
  refine jl_s (S' := ((112, [(4, .int 8), (5, .int (b0)), (3, .int 4), (2, .int 0), (0, .ref 66), (1, .int (xs 1))], [.int ((xs 1) >>> (8 &&& 31))], (jzv363 b0 b1 b2 b3)) : jS)) rfl ?_
  refine jl_s (S' := ((115, [(4, .int 8), (5, .int (b0)), (3, .int 4), (2, .int 0), (0, .ref 66), (1, .int (xs 1))], [.int 255, .int ((xs 1) >>> (8 &&& 31))], (jzv363 b0 b1 b2 b3)) : jS)) rfl ?_
  refine jl_s (S' := ((116, [(4, .int 8), (5, .int (b0)), (3, .int 4), (2, .int 0), (0, .ref 66), (1, .int (xs 1))], [.int (((xs 1) >>> (8 &&& 31)) &&& 255)], (jzv363 b0 b1 b2 b3)) : jS)) rfl ?_
  rw [e]
  refine jl_s (S' := ((118, [(5, .int (b1)), (4, .int 8), (3, .int 4), (2, .int 0), (0, .ref 66), (1, .int (xs 1))], [], (jzv363 b0 b1 b2 b3)) : jS)) rfl ?_
  refine jl_s (S' := ((120, [(5, .int (b1)), (4, .int 8), (3, .int 4), (2, .int 0), (0, .ref 66), (1, .int (xs 1))], [.int (b1)], (jzv363 b0 b1 b2 b3)) : jS)) rfl ?_
  refine jl_iff (e := jm248) (o := 24) rfl (h.1) ?_
  refine jl_s (S' := ((124, [(5, .int (b1)), (4, .int 8), (3, .int 4), (2, .int 0), (0, .ref 66), (1, .int (xs 1))], [.ref 66], (jzv363 b0 b1 b2 b3)) : jS)) rfl ?_
  refine jl_s (S' := ((127, [(5, .int (b1)), (4, .int 8), (3, .int 4), (2, .int 0), (0, .ref 66), (1, .int (xs 1))], [.ref 67], (jzv363 b0 b1 b2 b3)) : jS)) rfl ?_
  refine jl_s (S' := ((128, [(5, .int (b1)), (4, .int 8), (3, .int 4), (2, .int 0), (0, .ref 66), (1, .int (xs 1))], [.ref 66, .ref 67], (jzv363 b0 b1 b2 b3)) : jS)) rfl ?_
  refine jl_s (S' := ((131, [(5, .int (b1)), (4, .int 8), (3, .int 4), (2, .int 0), (0, .ref 66), (1, .int (xs 1))], [.int 1, .ref 67], (jzv363 b0 b1 b2 b3)) : jS)) rfl ?_
  refine jl_s (S' := ((133, [(5, .int (b1)), (4, .int 8), (3, .int 4), (2, .int 0), (0, .ref 66), (1, .int (xs 1))], [.int (b1), .int 1, .ref 67], (jzv363 b0 b1 b2 b3)) : jS)) rfl ?_
  refine jl_s (S' := ((134, [(5, .int (b1)), (4, .int 8), (3, .int 4), (2, .int 0), (0, .ref 66), (1, .int (xs 1))], [], (jzv364 b0 b1 b2 b3)) : jS)) rfl ?_
  refine jl_s (S' := ((135, [(5, .int (b1)), (4, .int 8), (3, .int 4), (2, .int 0), (0, .ref 66), (1, .int (xs 1))], [.ref 66], (jzv364 b0 b1 b2 b3)) : jS)) rfl ?_
  refine jl_s (S' := ((136, [(5, .int (b1)), (4, .int 8), (3, .int 4), (2, .int 0), (0, .ref 66), (1, .int (xs 1))], [.ref 66, .ref 66], (jzv364 b0 b1 b2 b3)) : jS)) rfl ?_
  refine jl_s (S' := ((139, [(5, .int (b1)), (4, .int 8), (3, .int 4), (2, .int 0), (0, .ref 66), (1, .int (xs 1))], [.int 1, .ref 66], (jzv364 b0 b1 b2 b3)) : jS)) rfl ?_
  refine jl_s (S' := ((140, [(5, .int (b1)), (4, .int 8), (3, .int 4), (2, .int 0), (0, .ref 66), (1, .int (xs 1))], [.int 1, .int 1, .ref 66], (jzv364 b0 b1 b2 b3)) : jS)) rfl ?_
  refine jl_s (S' := ((141, [(5, .int (b1)), (4, .int 8), (3, .int 4), (2, .int 0), (0, .ref 66), (1, .int (xs 1))], [.int 2, .ref 66], (jzv364 b0 b1 b2 b3)) : jS)) rfl ?_
  refine jl_s (S' := ((144, [(5, .int (b1)), (4, .int 8), (3, .int 4), (2, .int 0), (0, .ref 66), (1, .int (xs 1))], [], (jzv365 b0 b1 b2 b3)) : jS)) rfl ?_
  refine jl_s (S' := ((147, [(4, .int 16), (5, .int (b1)), (3, .int 4), (2, .int 0), (0, .ref 66), (1, .int (xs 1))], [], (jzv365 b0 b1 b2 b3)) : jS)) rfl ?_
  refine jl_s (S' := ((101, [(4, .int 16), (5, .int (b1)), (3, .int 4), (2, .int 0), (0, .ref 66), (1, .int (xs 1))], [], (jzv365 b0 b1 b2 b3)) : jS)) rfl ?_
  exact hq
def jzv366 (b0 b1 b2 b3 : Int32) : jH := [jzc199, (jzc198 b0 b1 b2 b3), jzc206, (jzc219 b0 b1 b2 b3), jzc9, jzc9, jzc9, jzc9, jzc9, jzc17, jzc19, jzc19, jzc19, jzc19, jzc19, jzc19, jzc19, jzc19, jzc28, jzc28, jzc28, jzc28, jzc28, jzc28, jzc28, jzc28, jzc28, jzc28, jzc28, jzc28, jzc28, jzc28, jzc43, jzc43, jzc43, jzc43, jzc43, jzc49, jzc49, jzc52, jzc52, jzc52, jzc56, jzc56, jzc59, jzc56, jzc62, jzc28, jzc28, jzc28, jzc28, jzc28, jzc69, jzc71, jzc73, jzc43, jzc76, jzc52, jzc52, jzc80, jzc80, jzc80, jzc84, jzc52, jzc52, jzc52, jzc52, jzc52, jzc52, jzc52, jzc93, jzc93, jzc52, jzc52, jzc98, jzc100, jzc93, jzc52, jzc52, jzc52, jzc52, jzc107, jzc109, jzc111, jzc100, jzc100, jzc100, jzc111, jzc111, jzc220]
def jzv367 (b0 b1 b2 b3 : Int32) : jH := [jzc199, (jzc198 b0 b1 b2 b3), jzc212, (jzc219 b0 b1 b2 b3), jzc9, jzc9, jzc9, jzc9, jzc9, jzc17, jzc19, jzc19, jzc19, jzc19, jzc19, jzc19, jzc19, jzc19, jzc28, jzc28, jzc28, jzc28, jzc28, jzc28, jzc28, jzc28, jzc28, jzc28, jzc28, jzc28, jzc28, jzc28, jzc43, jzc43, jzc43, jzc43, jzc43, jzc49, jzc49, jzc52, jzc52, jzc52, jzc56, jzc56, jzc59, jzc56, jzc62, jzc28, jzc28, jzc28, jzc28, jzc28, jzc69, jzc71, jzc73, jzc43, jzc76, jzc52, jzc52, jzc80, jzc80, jzc80, jzc84, jzc52, jzc52, jzc52, jzc52, jzc52, jzc52, jzc52, jzc93, jzc93, jzc52, jzc52, jzc98, jzc100, jzc93, jzc52, jzc52, jzc52, jzc52, jzc107, jzc109, jzc111, jzc100, jzc100, jzc100, jzc111, jzc111, jzc220]
set_option maxHeartbeats 4000000 in
set_option maxRecDepth 100000 in
theorem jzq795 (xs : Nat → Int32) (b0 b1 b2 b3 : Int32) (e : ((xs 1) >>> (16 &&& 31)) &&& 255 = b2) (h : jbn b2) {f : Nat} {q : jO × jH} (hq : jLoop (jRun ((4, xs) : jX) 2000 38) ((4, xs) : jX) jm248 f ((101, [(4, .int 24), (5, .int (b2)), (3, .int 4), (2, .int 0), (0, .ref 66), (1, .int (xs 1))], [], (jzv367 b0 b1 b2 b3)) : jS) = some q) : jLoop (jRun ((4, xs) : jX) 2000 38) ((4, xs) : jX) jm248 (f + 25) ((101, [(4, .int 16), (5, .int (b1)), (3, .int 4), (2, .int 0), (0, .ref 66), (1, .int (xs 1))], [], (jzv365 b0 b1 b2 b3)) : jS) = some q := by
  refine jl_s (S' := ((103, [(4, .int 16), (5, .int (b1)), (3, .int 4), (2, .int 0), (0, .ref 66), (1, .int (xs 1))], [.int 16], (jzv365 b0 b1 b2 b3)) : jS)) rfl ?_
  refine jl_s (S' := ((105, [(4, .int 16), (5, .int (b1)), (3, .int 4), (2, .int 0), (0, .ref 66), (1, .int (xs 1))], [.int 32, .int 16], (jzv365 b0 b1 b2 b3)) : jS)) rfl ?_
  refine jl_s (S' := ((108, [(4, .int 16), (5, .int (b1)), (3, .int 4), (2, .int 0), (0, .ref 66), (1, .int (xs 1))], [], (jzv365 b0 b1 b2 b3)) : jS)) rfl ?_
  refine jl_s (S' := ((109, [(4, .int 16), (5, .int (b1)), (3, .int 4), (2, .int 0), (0, .ref 66), (1, .int (xs 1))], [.int (xs 1)], (jzv365 b0 b1 b2 b3)) : jS)) rfl ?_
  refine jl_s (S' := ((111, [(4, .int 16), (5, .int (b1)), (3, .int 4), (2, .int 0), (0, .ref 66), (1, .int (xs 1))], [.int 16, .int (xs 1)], (jzv365 b0 b1 b2 b3)) : jS)) rfl ?_
  refine jl_s (S' := ((112, [(4, .int 16), (5, .int (b1)), (3, .int 4), (2, .int 0), (0, .ref 66), (1, .int (xs 1))], [.int ((xs 1) >>> (16 &&& 31))], (jzv365 b0 b1 b2 b3)) : jS)) rfl ?_
  refine jl_s (S' := ((115, [(4, .int 16), (5, .int (b1)), (3, .int 4), (2, .int 0), (0, .ref 66), (1, .int (xs 1))], [.int 255, .int ((xs 1) >>> (16 &&& 31))], (jzv365 b0 b1 b2 b3)) : jS)) rfl ?_
  refine jl_s (S' := ((116, [(4, .int 16), (5, .int (b1)), (3, .int 4), (2, .int 0), (0, .ref 66), (1, .int (xs 1))], [.int (((xs 1) >>> (16 &&& 31)) &&& 255)], (jzv365 b0 b1 b2 b3)) : jS)) rfl ?_
  rw [e]
  refine jl_s (S' := ((118, [(5, .int (b2)), (4, .int 16), (3, .int 4), (2, .int 0), (0, .ref 66), (1, .int (xs 1))], [], (jzv365 b0 b1 b2 b3)) : jS)) rfl ?_
  refine jl_s (S' := ((120, [(5, .int (b2)), (4, .int 16), (3, .int 4), (2, .int 0), (0, .ref 66), (1, .int (xs 1))], [.int (b2)], (jzv365 b0 b1 b2 b3)) : jS)) rfl ?_
  refine jl_iff (e := jm248) (o := 24) rfl (h.1) ?_
  refine jl_s (S' := ((124, [(5, .int (b2)), (4, .int 16), (3, .int 4), (2, .int 0), (0, .ref 66), (1, .int (xs 1))], [.ref 66], (jzv365 b0 b1 b2 b3)) : jS)) rfl ?_
  refine jl_s (S' := ((127, [(5, .int (b2)), (4, .int 16), (3, .int 4), (2, .int 0), (0, .ref 66), (1, .int (xs 1))], [.ref 67], (jzv365 b0 b1 b2 b3)) : jS)) rfl ?_
  refine jl_s (S' := ((128, [(5, .int (b2)), (4, .int 16), (3, .int 4), (2, .int 0), (0, .ref 66), (1, .int (xs 1))], [.ref 66, .ref 67], (jzv365 b0 b1 b2 b3)) : jS)) rfl ?_
  refine jl_s (S' := ((131, [(5, .int (b2)), (4, .int 16), (3, .int 4), (2, .int 0), (0, .ref 66), (1, .int (xs 1))], [.int 2, .ref 67], (jzv365 b0 b1 b2 b3)) : jS)) rfl ?_
  refine jl_s (S' := ((133, [(5, .int (b2)), (4, .int 16), (3, .int 4), (2, .int 0), (0, .ref 66), (1, .int (xs 1))], [.int (b2), .int 2, .ref 67], (jzv365 b0 b1 b2 b3)) : jS)) rfl ?_
  refine jl_s (S' := ((134, [(5, .int (b2)), (4, .int 16), (3, .int 4), (2, .int 0), (0, .ref 66), (1, .int (xs 1))], [], (jzv366 b0 b1 b2 b3)) : jS)) rfl ?_
  refine jl_s (S' := ((135, [(5, .int (b2)), (4, .int 16), (3, .int 4), (2, .int 0), (0, .ref 66), (1, .int (xs 1))], [.ref 66], (jzv366 b0 b1 b2 b3)) : jS)) rfl ?_
  refine jl_s (S' := ((136, [(5, .int (b2)), (4, .int 16), (3, .int 4), (2, .int 0), (0, .ref 66), (1, .int (xs 1))], [.ref 66, .ref 66], (jzv366 b0 b1 b2 b3)) : jS)) rfl ?_
  refine jl_s (S' := ((139, [(5, .int (b2)), (4, .int 16), (3, .int 4), (2, .int 0), (0, .ref 66), (1, .int (xs 1))], [.int 2, .ref 66], (jzv366 b0 b1 b2 b3)) : jS)) rfl ?_
  refine jl_s (S' := ((140, [(5, .int (b2)), (4, .int 16), (3, .int 4), (2, .int 0), (0, .ref 66), (1, .int (xs 1))], [.int 1, .int 2, .ref 66], (jzv366 b0 b1 b2 b3)) : jS)) rfl ?_
  refine jl_s (S' := ((141, [(5, .int (b2)), (4, .int 16), (3, .int 4), (2, .int 0), (0, .ref 66), (1, .int (xs 1))], [.int 3, .ref 66], (jzv366 b0 b1 b2 b3)) : jS)) rfl ?_
  refine jl_s (S' := ((144, [(5, .int (b2)), (4, .int 16), (3, .int 4), (2, .int 0), (0, .ref 66), (1, .int (xs 1))], [], (jzv367 b0 b1 b2 b3)) : jS)) rfl ?_
  refine jl_s (S' := ((147, [(4, .int 24), (5, .int (b2)), (3, .int 4), (2, .int 0), (0, .ref 66), (1, .int (xs 1))], [], (jzv367 b0 b1 b2 b3)) : jS)) rfl ?_
  refine jl_s (S' := ((101, [(4, .int 24), (5, .int (b2)), (3, .int 4), (2, .int 0), (0, .ref 66), (1, .int (xs 1))], [], (jzv367 b0 b1 b2 b3)) : jS)) rfl ?_
  exact hq
def jzc221 (b0 b1 b2 b3 : Int32) : jC := .inl (1, 3000, .inl (upd (upd (upd (upd (fun _ => 0) 0 (b0)) 1 (b1)) 2 (b2)) 3 (b3)))
def jzv368 (b0 b1 b2 b3 : Int32) : jH := [jzc199, (jzc198 b0 b1 b2 b3), jzc212, (jzc221 b0 b1 b2 b3), jzc9, jzc9, jzc9, jzc9, jzc9, jzc17, jzc19, jzc19, jzc19, jzc19, jzc19, jzc19, jzc19, jzc19, jzc28, jzc28, jzc28, jzc28, jzc28, jzc28, jzc28, jzc28, jzc28, jzc28, jzc28, jzc28, jzc28, jzc28, jzc43, jzc43, jzc43, jzc43, jzc43, jzc49, jzc49, jzc52, jzc52, jzc52, jzc56, jzc56, jzc59, jzc56, jzc62, jzc28, jzc28, jzc28, jzc28, jzc28, jzc69, jzc71, jzc73, jzc43, jzc76, jzc52, jzc52, jzc80, jzc80, jzc80, jzc84, jzc52, jzc52, jzc52, jzc52, jzc52, jzc52, jzc52, jzc93, jzc93, jzc52, jzc52, jzc98, jzc100, jzc93, jzc52, jzc52, jzc52, jzc52, jzc107, jzc109, jzc111, jzc100, jzc100, jzc100, jzc111, jzc111, jzc220]
def jzc222 : jC := .inr (12, [.int 0, .ref 67, .int 4, .int 0, .ref 68, .ref 69, .ref 70, .ref 71, .ref 72, .int 0, .int 0, .int 0, .int 0, .int 0, .long 0, .int 0, .int 0, .int (-1), .int (-1), .int 0, .ref 73, .ref 74, .ref 75, .ref 76, .ref 77, .ref 78, .ref 79, .ref 80, .int 0, .int 0, .ref 81, .int 0, .ref 82, .ref 83, .ref 84, .ref 85, .ref 86, .ref 87, .ref 88, .ref 89, .ref 90, .ref 91, .ref 92, .ref 93, .ref 94, .ref 95, .int 0, .ref 96, .ref 97, .ref 98, .ref 99, .ref 100, .int 0, .ref 101, .ref 102, .ref 103, .ref 104, .ref 105, .int 0, .int 0, .int 0, .int 0, .int 0, .ref 106, .ref 107, .ref 108, .ref 109, .int 0, .int 0, .ref 110, .int 0, .ref 111, .ref 112, .ref 113, .ref 114, .ref 115, .ref 116, .int 0, .ref 117, .int 0, .ref 118, .int 0, .ref 119, .ref 120, .ref 121, .ref 122, .ref 123, .ref 124, .ref 125, .int 0, .ref 126, .ref 127, .ref 128, .ref 129, .ref 130, .ref 131, .ref 132, .ref 133, .ref 134, .ref 135, .ref 136, .ref 137, .ref 138, .ref 139, .ref 140, .ref 141, .ref 142, .ref 143, .ref 144, .ref 145, .int 0, .int 0, .ref 146, .int 0, .ref 147, .ref 148, .ref 149, .ref 150, .ref 151, .ref 152, .int 0, .int 0])
def jzv369 (b0 b1 b2 b3 : Int32) : jH := [jzc199, (jzc198 b0 b1 b2 b3), jzc222, (jzc221 b0 b1 b2 b3), jzc9, jzc9, jzc9, jzc9, jzc9, jzc17, jzc19, jzc19, jzc19, jzc19, jzc19, jzc19, jzc19, jzc19, jzc28, jzc28, jzc28, jzc28, jzc28, jzc28, jzc28, jzc28, jzc28, jzc28, jzc28, jzc28, jzc28, jzc28, jzc43, jzc43, jzc43, jzc43, jzc43, jzc49, jzc49, jzc52, jzc52, jzc52, jzc56, jzc56, jzc59, jzc56, jzc62, jzc28, jzc28, jzc28, jzc28, jzc28, jzc69, jzc71, jzc73, jzc43, jzc76, jzc52, jzc52, jzc80, jzc80, jzc80, jzc84, jzc52, jzc52, jzc52, jzc52, jzc52, jzc52, jzc52, jzc93, jzc93, jzc52, jzc52, jzc98, jzc100, jzc93, jzc52, jzc52, jzc52, jzc52, jzc107, jzc109, jzc111, jzc100, jzc100, jzc100, jzc111, jzc111, jzc220]
set_option maxHeartbeats 4000000 in
set_option maxRecDepth 100000 in
theorem jzq797 (xs : Nat → Int32) (b0 b1 b2 b3 : Int32) (e : ((xs 1) >>> (24 &&& 31)) &&& 255 = b3) (h : jbn b3) {f : Nat} {q : jO × jH} (hq : jLoop (jRun ((4, xs) : jX) 2000 38) ((4, xs) : jX) jm248 f ((101, [(4, .int 32), (5, .int (b3)), (3, .int 4), (2, .int 0), (0, .ref 66), (1, .int (xs 1))], [], (jzv369 b0 b1 b2 b3)) : jS) = some q) : jLoop (jRun ((4, xs) : jX) 2000 38) ((4, xs) : jX) jm248 (f + 25) ((101, [(4, .int 24), (5, .int (b2)), (3, .int 4), (2, .int 0), (0, .ref 66), (1, .int (xs 1))], [], (jzv367 b0 b1 b2 b3)) : jS) = some q := by
  refine jl_s (S' := ((103, [(4, .int 24), (5, .int (b2)), (3, .int 4), (2, .int 0), (0, .ref 66), (1, .int (xs 1))], [.int 24], (jzv367 b0 b1 b2 b3)) : jS)) rfl ?_
  refine jl_s (S' := ((105, [(4, .int 24), (5, .int (b2)), (3, .int 4), (2, .int 0), (0, .ref 66), (1, .int (xs 1))], [.int 32, .int 24], (jzv367 b0 b1 b2 b3)) : jS)) rfl ?_
  refine jl_s (S' := ((108, [(4, .int 24), (5, .int (b2)), (3, .int 4), (2, .int 0), (0, .ref 66), (1, .int (xs 1))], [], (jzv367 b0 b1 b2 b3)) : jS)) rfl ?_
  refine jl_s (S' := ((109, [(4, .int 24), (5, .int (b2)), (3, .int 4), (2, .int 0), (0, .ref 66), (1, .int (xs 1))], [.int (xs 1)], (jzv367 b0 b1 b2 b3)) : jS)) rfl ?_
  refine jl_s (S' := ((111, [(4, .int 24), (5, .int (b2)), (3, .int 4), (2, .int 0), (0, .ref 66), (1, .int (xs 1))], [.int 24, .int (xs 1)], (jzv367 b0 b1 b2 b3)) : jS)) rfl ?_
  refine jl_s (S' := ((112, [(4, .int 24), (5, .int (b2)), (3, .int 4), (2, .int 0), (0, .ref 66), (1, .int (xs 1))], [.int ((xs 1) >>> (24 &&& 31))], (jzv367 b0 b1 b2 b3)) : jS)) rfl ?_
  refine jl_s (S' := ((115, [(4, .int 24), (5, .int (b2)), (3, .int 4), (2, .int 0), (0, .ref 66), (1, .int (xs 1))], [.int 255, .int ((xs 1) >>> (24 &&& 31))], (jzv367 b0 b1 b2 b3)) : jS)) rfl ?_
  refine jl_s (S' := ((116, [(4, .int 24), (5, .int (b2)), (3, .int 4), (2, .int 0), (0, .ref 66), (1, .int (xs 1))], [.int (((xs 1) >>> (24 &&& 31)) &&& 255)], (jzv367 b0 b1 b2 b3)) : jS)) rfl ?_
  rw [e]
  refine jl_s (S' := ((118, [(5, .int (b3)), (4, .int 24), (3, .int 4), (2, .int 0), (0, .ref 66), (1, .int (xs 1))], [], (jzv367 b0 b1 b2 b3)) : jS)) rfl ?_
  refine jl_s (S' := ((120, [(5, .int (b3)), (4, .int 24), (3, .int 4), (2, .int 0), (0, .ref 66), (1, .int (xs 1))], [.int (b3)], (jzv367 b0 b1 b2 b3)) : jS)) rfl ?_
  refine jl_iff (e := jm248) (o := 24) rfl (h.1) ?_
  refine jl_s (S' := ((124, [(5, .int (b3)), (4, .int 24), (3, .int 4), (2, .int 0), (0, .ref 66), (1, .int (xs 1))], [.ref 66], (jzv367 b0 b1 b2 b3)) : jS)) rfl ?_
  refine jl_s (S' := ((127, [(5, .int (b3)), (4, .int 24), (3, .int 4), (2, .int 0), (0, .ref 66), (1, .int (xs 1))], [.ref 67], (jzv367 b0 b1 b2 b3)) : jS)) rfl ?_
  refine jl_s (S' := ((128, [(5, .int (b3)), (4, .int 24), (3, .int 4), (2, .int 0), (0, .ref 66), (1, .int (xs 1))], [.ref 66, .ref 67], (jzv367 b0 b1 b2 b3)) : jS)) rfl ?_
  refine jl_s (S' := ((131, [(5, .int (b3)), (4, .int 24), (3, .int 4), (2, .int 0), (0, .ref 66), (1, .int (xs 1))], [.int 3, .ref 67], (jzv367 b0 b1 b2 b3)) : jS)) rfl ?_
  refine jl_s (S' := ((133, [(5, .int (b3)), (4, .int 24), (3, .int 4), (2, .int 0), (0, .ref 66), (1, .int (xs 1))], [.int (b3), .int 3, .ref 67], (jzv367 b0 b1 b2 b3)) : jS)) rfl ?_
  refine jl_s (S' := ((134, [(5, .int (b3)), (4, .int 24), (3, .int 4), (2, .int 0), (0, .ref 66), (1, .int (xs 1))], [], (jzv368 b0 b1 b2 b3)) : jS)) rfl ?_
  refine jl_s (S' := ((135, [(5, .int (b3)), (4, .int 24), (3, .int 4), (2, .int 0), (0, .ref 66), (1, .int (xs 1))], [.ref 66], (jzv368 b0 b1 b2 b3)) : jS)) rfl ?_
  refine jl_s (S' := ((136, [(5, .int (b3)), (4, .int 24), (3, .int 4), (2, .int 0), (0, .ref 66), (1, .int (xs 1))], [.ref 66, .ref 66], (jzv368 b0 b1 b2 b3)) : jS)) rfl ?_
  refine jl_s (S' := ((139, [(5, .int (b3)), (4, .int 24), (3, .int 4), (2, .int 0), (0, .ref 66), (1, .int (xs 1))], [.int 3, .ref 66], (jzv368 b0 b1 b2 b3)) : jS)) rfl ?_
  refine jl_s (S' := ((140, [(5, .int (b3)), (4, .int 24), (3, .int 4), (2, .int 0), (0, .ref 66), (1, .int (xs 1))], [.int 1, .int 3, .ref 66], (jzv368 b0 b1 b2 b3)) : jS)) rfl ?_
  refine jl_s (S' := ((141, [(5, .int (b3)), (4, .int 24), (3, .int 4), (2, .int 0), (0, .ref 66), (1, .int (xs 1))], [.int 4, .ref 66], (jzv368 b0 b1 b2 b3)) : jS)) rfl ?_
  refine jl_s (S' := ((144, [(5, .int (b3)), (4, .int 24), (3, .int 4), (2, .int 0), (0, .ref 66), (1, .int (xs 1))], [], (jzv369 b0 b1 b2 b3)) : jS)) rfl ?_
  refine jl_s (S' := ((147, [(4, .int 32), (5, .int (b3)), (3, .int 4), (2, .int 0), (0, .ref 66), (1, .int (xs 1))], [], (jzv369 b0 b1 b2 b3)) : jS)) rfl ?_
  refine jl_s (S' := ((101, [(4, .int 32), (5, .int (b3)), (3, .int 4), (2, .int 0), (0, .ref 66), (1, .int (xs 1))], [], (jzv369 b0 b1 b2 b3)) : jS)) rfl ?_
  exact hq
set_option maxHeartbeats 4000000 in
set_option maxRecDepth 100000 in
theorem jzq799 (xs : Nat → Int32) (b0 b1 b2 b3 : Int32) {f : Nat} : jLoop (jRun ((4, xs) : jX) 2000 38) ((4, xs) : jX) jm248 (f + 6) ((101, [(4, .int 32), (5, .int (b3)), (3, .int 4), (2, .int 0), (0, .ref 66), (1, .int (xs 1))], [], (jzv369 b0 b1 b2 b3)) : jS) = some (.inl (some (.int 4)), (jzv369 b0 b1 b2 b3)) := by
  refine jl_s (S' := ((103, [(4, .int 32), (5, .int (b3)), (3, .int 4), (2, .int 0), (0, .ref 66), (1, .int (xs 1))], [.int 32], (jzv369 b0 b1 b2 b3)) : jS)) rfl ?_
  refine jl_s (S' := ((105, [(4, .int 32), (5, .int (b3)), (3, .int 4), (2, .int 0), (0, .ref 66), (1, .int (xs 1))], [.int 32, .int 32], (jzv369 b0 b1 b2 b3)) : jS)) rfl ?_
  refine jl_s (S' := ((150, [(4, .int 32), (5, .int (b3)), (3, .int 4), (2, .int 0), (0, .ref 66), (1, .int (xs 1))], [], (jzv369 b0 b1 b2 b3)) : jS)) rfl ?_
  refine jl_s (S' := ((151, [(4, .int 32), (5, .int (b3)), (3, .int 4), (2, .int 0), (0, .ref 66), (1, .int (xs 1))], [.ref 66], (jzv369 b0 b1 b2 b3)) : jS)) rfl ?_
  refine jl_s (S' := ((154, [(4, .int 32), (5, .int (b3)), (3, .int 4), (2, .int 0), (0, .ref 66), (1, .int (xs 1))], [.int 4], (jzv369 b0 b1 b2 b3)) : jS)) rfl ?_
  exact jl_r (r := (.inl (some (.int 4)), (jzv369 b0 b1 b2 b3))) rfl
set_option maxHeartbeats 4000000 in
set_option maxRecDepth 100000 in
theorem jzrp_VVVV (xs : Nat → Int32) (b0 b1 b2 b3 : Int32) (e0 : ((xs 1) >>> (0 &&& 31)) &&& 255 = b0) (e1 : ((xs 1) >>> (8 &&& 31)) &&& 255 = b1) (e2 : ((xs 1) >>> (16 &&& 31)) &&& 255 = b2) (e3 : ((xs 1) >>> (24 &&& 31)) &&& 255 = b3) (h0 : jbv b0) (h1 : jbv b1) (h2 : jbv b2) (h3 : jbv b3) : jRun ((4, xs) : jX) 2000 39 248 [.ref 66, .int (xs 1)] (jzv361 b0 b1 b2 b3) = some (.inl (some (.int 4)), (jzv369 b0 b1 b2 b3)) := by
  refine jr_run (e := jm248) rfl (Nat.le_of_ble_eq_true rfl) ?_
  refine jzq506 xs b0 b1 b2 b3 _ ?_
  refine jzq662 xs b0 b1 b2 b3 _ e0 h0 ?_
  refine jzq730 xs b0 b1 b2 b3 _ e1 h1 ?_
  refine jzq766 xs b0 b1 b2 b3 _ e2 h2 ?_
  refine jzq786 xs b0 b1 b2 b3 _ e3 h3 ?_
  refine jzq789 xs b0 b1 b2 b3 ?_
  refine jzq791 xs b0 b1 b2 b3 e0 h0.1 ?_
  refine jzq793 xs b0 b1 b2 b3 e1 h1.1 ?_
  refine jzq795 xs b0 b1 b2 b3 e2 h2.1 ?_
  refine jzq797 xs b0 b1 b2 b3 e3 h3.1 ?_
  exact jzq799 xs b0 b1 b2 b3
set_option maxHeartbeats 4000000 in
set_option maxRecDepth 100000 in
theorem jzl800 (xs : Nat → Int32) (hop : xs 0 &&& 31 = 0) (b0 b1 b2 b3 : Int32) (e0 : ((Int32.toUInt32 (xs 1) >>> (Int32.toUInt32 0 &&& Int32.toUInt32 31)).toInt32) &&& 255 = b0) (e1 : ((Int32.toUInt32 (xs 1) >>> (Int32.toUInt32 8 &&& Int32.toUInt32 31)).toInt32) &&& 255 = b1) (e2 : ((Int32.toUInt32 (xs 1) >>> (Int32.toUInt32 16 &&& Int32.toUInt32 31)).toInt32) &&& 255 = b2) (e3 : ((Int32.toUInt32 (xs 1) >>> (Int32.toUInt32 24 &&& Int32.toUInt32 31)).toInt32) &&& 255 = b3) (g0 : ((xs 1) >>> (0 &&& 31)) &&& 255 = b0) (g1 : ((xs 1) >>> (8 &&& 31)) &&& 255 = b1) (g2 : ((xs 1) >>> (16 &&& 31)) &&& 255 = b2) (g3 : ((xs 1) >>> (24 &&& 31)) &&& 255 = b3) (h0 : jbv b0) (h1 : jbv b1) (h2 : jbv b2) (h3 : jbv b3) : jRun ((4, xs) : jX) 2000 39 244 [.ref 66] (jzv369 b0 b1 b2 b3) = some (.inl (some (.int 0)), (jzv369 b0 b1 b2 b3)) := by
  refine jr_run (e := jm244) rfl (Nat.le_of_ble_eq_true rfl) ?_
  refine jl_s (S' := ((1, [(0, .ref 66)], [.ref 66], (jzv369 b0 b1 b2 b3)) : jS)) rfl ?_
  refine jl_s (S' := ((4, [(0, .ref 66)], [.int 0], (jzv369 b0 b1 b2 b3)) : jS)) rfl ?_
  exact jl_r (r := (.inl (some (.int 0)), (jzv369 b0 b1 b2 b3))) rfl
set_option maxHeartbeats 4000000 in
set_option maxRecDepth 100000 in
theorem jzl801 (xs : Nat → Int32) (hop : xs 0 &&& 31 = 0) (b0 b1 b2 b3 : Int32) (e0 : ((Int32.toUInt32 (xs 1) >>> (Int32.toUInt32 0 &&& Int32.toUInt32 31)).toInt32) &&& 255 = b0) (e1 : ((Int32.toUInt32 (xs 1) >>> (Int32.toUInt32 8 &&& Int32.toUInt32 31)).toInt32) &&& 255 = b1) (e2 : ((Int32.toUInt32 (xs 1) >>> (Int32.toUInt32 16 &&& Int32.toUInt32 31)).toInt32) &&& 255 = b2) (e3 : ((Int32.toUInt32 (xs 1) >>> (Int32.toUInt32 24 &&& Int32.toUInt32 31)).toInt32) &&& 255 = b3) (g0 : ((xs 1) >>> (0 &&& 31)) &&& 255 = b0) (g1 : ((xs 1) >>> (8 &&& 31)) &&& 255 = b1) (g2 : ((xs 1) >>> (16 &&& 31)) &&& 255 = b2) (g3 : ((xs 1) >>> (24 &&& 31)) &&& 255 = b3) (h0 : jbv b0) (h1 : jbv b1) (h2 : jbv b2) (h3 : jbv b3) : jLoop (jRun ((4, xs) : jX) 2000 39) ((4, xs) : jX) jm18 1000 ((23, [(4, .int 0), (3, .ref 153), (2, .ref 66), (1, .ref 64), (0, .ref 63)], [], jzv181) : jS) = some (.inl (some (.int 1)), (jzv369 b0 b1 b2 b3)) := by
  refine jl_s (S' := ((25, [(4, .int 0), (3, .ref 153), (2, .ref 66), (1, .ref 64), (0, .ref 63)], [.int 0], jzv181) : jS)) rfl ?_
  refine jl_s (S' := ((26, [(4, .int 0), (3, .ref 153), (2, .ref 66), (1, .ref 64), (0, .ref 63)], [.ref 63, .int 0], jzv181) : jS)) rfl ?_
  refine jl_s (S' := ((27, [(4, .int 0), (3, .ref 153), (2, .ref 66), (1, .ref 64), (0, .ref 63)], [.int 4, .int 0], jzv181) : jS)) rfl ?_
  refine jl_s (S' := ((28, [(4, .int 0), (3, .ref 153), (2, .ref 66), (1, .ref 64), (0, .ref 63)], [.int 4, .int 4, .int 0], jzv181) : jS)) rfl ?_
  refine jl_s (S' := ((29, [(4, .int 0), (3, .ref 153), (2, .ref 66), (1, .ref 64), (0, .ref 63)], [.int 0, .int 0], jzv181) : jS)) rfl ?_
  refine jl_s (S' := ((32, [(4, .int 0), (3, .ref 153), (2, .ref 66), (1, .ref 64), (0, .ref 63)], [], jzv181) : jS)) rfl ?_
  refine jl_s (S' := ((33, [(4, .int 0), (3, .ref 153), (2, .ref 66), (1, .ref 64), (0, .ref 63)], [.ref 63], jzv181) : jS)) rfl ?_
  refine jl_s (S' := ((35, [(4, .int 0), (3, .ref 153), (2, .ref 66), (1, .ref 64), (0, .ref 63)], [.int 0, .ref 63], jzv181) : jS)) rfl ?_
  refine jl_s (S' := ((36, [(4, .int 0), (3, .ref 153), (2, .ref 66), (1, .ref 64), (0, .ref 63)], [.int (xs 0)], jzv181) : jS)) rfl ?_
  refine jl_s (S' := ((38, [(4, .int 0), (3, .ref 153), (2, .ref 66), (1, .ref 64), (0, .ref 63)], [.int 31, .int (xs 0)], jzv181) : jS)) rfl ?_
  refine jl_s (S' := ((39, [(4, .int 0), (3, .ref 153), (2, .ref 66), (1, .ref 64), (0, .ref 63)], [.int ((xs 0) &&& 31)], jzv181) : jS)) rfl ?_
  rw [hop]
  refine jl_s (S' := ((128, [(4, .int 0), (3, .ref 153), (2, .ref 66), (1, .ref 64), (0, .ref 63)], [], jzv181) : jS)) rfl ?_
  refine jl_s (S' := ((129, [(4, .int 0), (3, .ref 153), (2, .ref 66), (1, .ref 64), (0, .ref 63)], [.ref 64], jzv181) : jS)) rfl ?_
  refine jl_s (S' := ((130, [(4, .int 0), (3, .ref 153), (2, .ref 66), (1, .ref 64), (0, .ref 63)], [.ref 63, .ref 64], jzv181) : jS)) rfl ?_
  refine jl_s (S' := ((132, [(4, .int 0), (3, .ref 153), (2, .ref 66), (1, .ref 64), (0, .ref 63)], [.int 0, .ref 63, .ref 64], jzv181) : jS)) rfl ?_
  refine jl_s (S' := ((133, [(4, .int 0), (3, .ref 153), (2, .ref 66), (1, .ref 64), (0, .ref 63)], [.int 1, .int 0, .ref 63, .ref 64], jzv181) : jS)) rfl ?_
  refine jl_s (S' := ((134, [(4, .int 0), (3, .ref 153), (2, .ref 66), (1, .ref 64), (0, .ref 63)], [.int 1, .ref 63, .ref 64], jzv181) : jS)) rfl ?_
  refine jl_s (S' := ((135, [(4, .int 0), (3, .ref 153), (2, .ref 66), (1, .ref 64), (0, .ref 63)], [.int (xs 1), .ref 64], jzv181) : jS)) rfl ?_
  refine jl_s (S' := ((136, [(4, .int 0), (3, .ref 153), (2, .ref 66), (1, .ref 64), (0, .ref 63)], [.ref 153, .int (xs 1), .ref 64], jzv181) : jS)) rfl ?_
  refine jl_c (t := 0) (as := [.ref 64, .int (xs 1), .ref 153]) (V := jzv181) (r := (.inl (some (.int 0)), (jzv361 b0 b1 b2 b3))) (S' := ((139, [(4, .int 0), (3, .ref 153), (2, .ref 66), (1, .ref 64), (0, .ref 63)], [.int 0], (jzv361 b0 b1 b2 b3)) : jS)) rfl (jzl784 xs hop b0 b1 b2 b3 e0 e1 e2 e3 g0 g1 g2 g3 h0 h1 h2 h3) rfl ?_
  refine jl_s (S' := ((141, [(5, .int 0), (4, .int 0), (3, .ref 153), (2, .ref 66), (1, .ref 64), (0, .ref 63)], [], (jzv361 b0 b1 b2 b3)) : jS)) rfl ?_
  refine jl_s (S' := ((142, [(5, .int 0), (4, .int 0), (3, .ref 153), (2, .ref 66), (1, .ref 64), (0, .ref 63)], [.ref 66], (jzv361 b0 b1 b2 b3)) : jS)) rfl ?_
  refine jl_s (S' := ((143, [(5, .int 0), (4, .int 0), (3, .ref 153), (2, .ref 66), (1, .ref 64), (0, .ref 63)], [.ref 63, .ref 66], (jzv361 b0 b1 b2 b3)) : jS)) rfl ?_
  refine jl_s (S' := ((145, [(5, .int 0), (4, .int 0), (3, .ref 153), (2, .ref 66), (1, .ref 64), (0, .ref 63)], [.int 0, .ref 63, .ref 66], (jzv361 b0 b1 b2 b3)) : jS)) rfl ?_
  refine jl_s (S' := ((146, [(5, .int 0), (4, .int 0), (3, .ref 153), (2, .ref 66), (1, .ref 64), (0, .ref 63)], [.int 1, .int 0, .ref 63, .ref 66], (jzv361 b0 b1 b2 b3)) : jS)) rfl ?_
  refine jl_s (S' := ((147, [(5, .int 0), (4, .int 0), (3, .ref 153), (2, .ref 66), (1, .ref 64), (0, .ref 63)], [.int 1, .ref 63, .ref 66], (jzv361 b0 b1 b2 b3)) : jS)) rfl ?_
  refine jl_s (S' := ((148, [(5, .int 0), (4, .int 0), (3, .ref 153), (2, .ref 66), (1, .ref 64), (0, .ref 63)], [.int (xs 1), .ref 66], (jzv361 b0 b1 b2 b3)) : jS)) rfl ?_
  refine jl_c (t := 248) (as := [.ref 66, .int (xs 1)]) (V := (jzv361 b0 b1 b2 b3)) (r := (.inl (some (.int 4)), (jzv369 b0 b1 b2 b3))) (S' := ((151, [(5, .int 0), (4, .int 0), (3, .ref 153), (2, .ref 66), (1, .ref 64), (0, .ref 63)], [.int 4], (jzv369 b0 b1 b2 b3)) : jS)) rfl (jzrp_VVVV xs b0 b1 b2 b3 g0 g1 g2 g3 h0 h1 h2 h3 ) rfl ?_
  refine jl_s (S' := ((153, [(6, .int 4), (5, .int 0), (4, .int 0), (3, .ref 153), (2, .ref 66), (1, .ref 64), (0, .ref 63)], [], (jzv369 b0 b1 b2 b3)) : jS)) rfl ?_
  refine jl_s (S' := ((154, [(6, .int 4), (5, .int 0), (4, .int 0), (3, .ref 153), (2, .ref 66), (1, .ref 64), (0, .ref 63)], [.ref 66], (jzv369 b0 b1 b2 b3)) : jS)) rfl ?_
  refine jl_c (t := 244) (as := [.ref 66]) (V := (jzv369 b0 b1 b2 b3)) (r := (.inl (some (.int 0)), (jzv369 b0 b1 b2 b3))) (S' := ((157, [(6, .int 4), (5, .int 0), (4, .int 0), (3, .ref 153), (2, .ref 66), (1, .ref 64), (0, .ref 63)], [.int 0], (jzv369 b0 b1 b2 b3)) : jS)) rfl (jzl800 xs hop b0 b1 b2 b3 e0 e1 e2 e3 g0 g1 g2 g3 h0 h1 h2 h3) rfl ?_
  refine jl_s (S' := ((159, [(6, .int 4), (5, .int 0), (4, .int 0), (3, .ref 153), (2, .ref 66), (1, .ref 64), (0, .ref 63)], [.int 0, .int 0], (jzv369 b0 b1 b2 b3)) : jS)) rfl ?_
  refine jl_s (S' := ((164, [(6, .int 4), (5, .int 0), (4, .int 0), (3, .ref 153), (2, .ref 66), (1, .ref 64), (0, .ref 63)], [], (jzv369 b0 b1 b2 b3)) : jS)) rfl ?_
  refine jl_s (S' := ((166, [(6, .int 4), (5, .int 0), (4, .int 0), (3, .ref 153), (2, .ref 66), (1, .ref 64), (0, .ref 63)], [.int 0], (jzv369 b0 b1 b2 b3)) : jS)) rfl ?_
  refine jl_s (S' := ((169, [(6, .int 4), (5, .int 0), (4, .int 0), (3, .ref 153), (2, .ref 66), (1, .ref 64), (0, .ref 63)], [], (jzv369 b0 b1 b2 b3)) : jS)) rfl ?_
  refine jl_s (S' := ((170, [(6, .int 4), (5, .int 0), (4, .int 0), (3, .ref 153), (2, .ref 66), (1, .ref 64), (0, .ref 63)], [.ref 153], (jzv369 b0 b1 b2 b3)) : jS)) rfl ?_
  refine jl_s (S' := ((171, [(6, .int 4), (5, .int 0), (4, .int 0), (3, .ref 153), (2, .ref 66), (1, .ref 64), (0, .ref 63)], [.int 0, .ref 153], (jzv369 b0 b1 b2 b3)) : jS)) rfl ?_
  refine jl_s (S' := ((172, [(6, .int 4), (5, .int 0), (4, .int 0), (3, .ref 153), (2, .ref 66), (1, .ref 64), (0, .ref 63)], [.long 4], (jzv369 b0 b1 b2 b3)) : jS)) rfl ?_
  refine jl_s (S' := ((174, [(6, .int 4), (5, .int 0), (4, .int 0), (3, .ref 153), (2, .ref 66), (1, .ref 64), (0, .ref 63)], [.int 4, .long 4], (jzv369 b0 b1 b2 b3)) : jS)) rfl ?_
  refine jl_s (S' := ((175, [(6, .int 4), (5, .int 0), (4, .int 0), (3, .ref 153), (2, .ref 66), (1, .ref 64), (0, .ref 63)], [.long 4, .long 4], (jzv369 b0 b1 b2 b3)) : jS)) rfl ?_
  refine jl_s (S' := ((176, [(6, .int 4), (5, .int 0), (4, .int 0), (3, .ref 153), (2, .ref 66), (1, .ref 64), (0, .ref 63)], [.int 0], (jzv369 b0 b1 b2 b3)) : jS)) rfl ?_
  refine jl_s (S' := ((181, [(6, .int 4), (5, .int 0), (4, .int 0), (3, .ref 153), (2, .ref 66), (1, .ref 64), (0, .ref 63)], [], (jzv369 b0 b1 b2 b3)) : jS)) rfl ?_
  refine jl_s (S' := ((1193, [(6, .int 4), (5, .int 0), (4, .int 0), (3, .ref 153), (2, .ref 66), (1, .ref 64), (0, .ref 63)], [], (jzv369 b0 b1 b2 b3)) : jS)) rfl ?_
  refine jl_s (S' := ((1196, [(4, .int 4), (6, .int 4), (5, .int 0), (3, .ref 153), (2, .ref 66), (1, .ref 64), (0, .ref 63)], [], (jzv369 b0 b1 b2 b3)) : jS)) rfl ?_
  refine jl_s (S' := ((23, [(4, .int 4), (6, .int 4), (5, .int 0), (3, .ref 153), (2, .ref 66), (1, .ref 64), (0, .ref 63)], [], (jzv369 b0 b1 b2 b3)) : jS)) rfl ?_
  refine jl_s (S' := ((25, [(4, .int 4), (6, .int 4), (5, .int 0), (3, .ref 153), (2, .ref 66), (1, .ref 64), (0, .ref 63)], [.int 4], (jzv369 b0 b1 b2 b3)) : jS)) rfl ?_
  refine jl_s (S' := ((26, [(4, .int 4), (6, .int 4), (5, .int 0), (3, .ref 153), (2, .ref 66), (1, .ref 64), (0, .ref 63)], [.ref 63, .int 4], (jzv369 b0 b1 b2 b3)) : jS)) rfl ?_
  refine jl_s (S' := ((27, [(4, .int 4), (6, .int 4), (5, .int 0), (3, .ref 153), (2, .ref 66), (1, .ref 64), (0, .ref 63)], [.int 4, .int 4], (jzv369 b0 b1 b2 b3)) : jS)) rfl ?_
  refine jl_s (S' := ((28, [(4, .int 4), (6, .int 4), (5, .int 0), (3, .ref 153), (2, .ref 66), (1, .ref 64), (0, .ref 63)], [.int 4, .int 4, .int 4], (jzv369 b0 b1 b2 b3)) : jS)) rfl ?_
  refine jl_s (S' := ((29, [(4, .int 4), (6, .int 4), (5, .int 0), (3, .ref 153), (2, .ref 66), (1, .ref 64), (0, .ref 63)], [.int 0, .int 4], (jzv369 b0 b1 b2 b3)) : jS)) rfl ?_
  refine jl_s (S' := ((1199, [(4, .int 4), (6, .int 4), (5, .int 0), (3, .ref 153), (2, .ref 66), (1, .ref 64), (0, .ref 63)], [], (jzv369 b0 b1 b2 b3)) : jS)) rfl ?_
  refine jl_s (S' := ((1200, [(4, .int 4), (6, .int 4), (5, .int 0), (3, .ref 153), (2, .ref 66), (1, .ref 64), (0, .ref 63)], [.int 1], (jzv369 b0 b1 b2 b3)) : jS)) rfl ?_
  exact jl_r (r := (.inl (some (.int 1)), (jzv369 b0 b1 b2 b3))) rfl
-- op 0 VVVV: jzl801
set_option maxHeartbeats 4000000 in
set_option maxRecDepth 100000 in
theorem jzl802 (xs : Nat → Int32) (hop : xs 0 &&& 31 = 0) (b0 b1 b2 b3 : Int32) (e0 : ((Int32.toUInt32 (xs 1) >>> (Int32.toUInt32 0 &&& Int32.toUInt32 31)).toInt32) &&& 255 = b0) (e1 : ((Int32.toUInt32 (xs 1) >>> (Int32.toUInt32 8 &&& Int32.toUInt32 31)).toInt32) &&& 255 = b1) (e2 : ((Int32.toUInt32 (xs 1) >>> (Int32.toUInt32 16 &&& Int32.toUInt32 31)).toInt32) &&& 255 = b2) (e3 : ((Int32.toUInt32 (xs 1) >>> (Int32.toUInt32 24 &&& Int32.toUInt32 31)).toInt32) &&& 255 = b3) (g0 : ((xs 1) >>> (0 &&& 31)) &&& 255 = b0) (g1 : ((xs 1) >>> (8 &&& 31)) &&& 255 = b1) (g2 : ((xs 1) >>> (16 &&& 31)) &&& 255 = b2) (g3 : ((xs 1) >>> (24 &&& 31)) &&& 255 = b3) (h : jbI0 b0 b1 b2 b3) (hj : jbJ1 b1 b2 b3) : jRun ((4, xs) : jX) 2000 39 0 [.ref 64, .int (xs 1), .ref 153] jzv181 = some (.inl (some (.int 1)), jzv182) := by
  refine jr_run (e := jm0) rfl (Nat.le_of_ble_eq_true rfl) ?_
  refine jl_s (S' := ((1, [(0, .ref 64), (1, .int (xs 1)), (2, .ref 153)], [.ref 153], jzv181) : jS)) rfl ?_
  refine jl_s (S' := ((2, [(0, .ref 64), (1, .int (xs 1)), (2, .ref 153)], [.int 0, .ref 153], jzv181) : jS)) rfl ?_
  refine jl_s (S' := ((3, [(0, .ref 64), (1, .int (xs 1)), (2, .ref 153)], [.ref 64, .int 0, .ref 153], jzv181) : jS)) rfl ?_
  refine jl_s (S' := ((4, [(0, .ref 64), (1, .int (xs 1)), (2, .ref 153)], [.int (xs 1), .ref 64, .int 0, .ref 153], jzv181) : jS)) rfl ?_
  refine jl_c (t := 20) (as := [.ref 64, .int (xs 1)]) (V := jzv181) (r := (.inr 154, jzv182)) (S' := ((12, [(0, .ref 64), (1, .int (xs 1)), (2, .ref 153)], [.ref 154], jzv182) : jS)) rfl (jzcp_I xs b0 b1 b2 b3 e0 e1 e2 e3 h ) rfl ?_
  refine jl_s (S' := ((13, [(3, .ref 154), (0, .ref 64), (1, .int (xs 1)), (2, .ref 153)], [], jzv182) : jS)) rfl ?_
  refine jl_s (S' := ((14, [(3, .ref 154), (0, .ref 64), (1, .int (xs 1)), (2, .ref 153)], [.int 1], jzv182) : jS)) rfl ?_
  exact jl_r (r := (.inl (some (.int 1)), jzv182)) rfl
set_option maxHeartbeats 4000000 in
set_option maxRecDepth 100000 in
theorem jzq804 (xs : Nat → Int32) (b0 b1 b2 b3 : Int32) {f : Nat} {q : jO × jH} (hq : jLoop (jRun ((4, xs) : jX) 2000 38) ((4, xs) : jX) jm248 f ((7, [(4, .int 0), (3, .int 0), (2, .int 0), (0, .ref 66), (1, .int (xs 1))], [], jzv182) : jS) = some q) : jLoop (jRun ((4, xs) : jX) 2000 38) ((4, xs) : jX) jm248 (f + 6) ((0, [(0, .ref 66), (1, .int (xs 1))], [], jzv182) : jS) = some q := by
  refine jl_s (S' := ((1, [(0, .ref 66), (1, .int (xs 1))], [.int 0], jzv182) : jS)) rfl ?_
  refine jl_s (S' := ((2, [(2, .int 0), (0, .ref 66), (1, .int (xs 1))], [], jzv182) : jS)) rfl ?_
  refine jl_s (S' := ((3, [(2, .int 0), (0, .ref 66), (1, .int (xs 1))], [.int 0], jzv182) : jS)) rfl ?_
  refine jl_s (S' := ((4, [(3, .int 0), (2, .int 0), (0, .ref 66), (1, .int (xs 1))], [], jzv182) : jS)) rfl ?_
  refine jl_s (S' := ((5, [(3, .int 0), (2, .int 0), (0, .ref 66), (1, .int (xs 1))], [.int 0], jzv182) : jS)) rfl ?_
  refine jl_s (S' := ((7, [(4, .int 0), (3, .int 0), (2, .int 0), (0, .ref 66), (1, .int (xs 1))], [], jzv182) : jS)) rfl ?_
  exact hq
set_option maxHeartbeats 4000000 in
set_option maxRecDepth 100000 in
theorem jzq806 (xs : Nat → Int32) (b0 b1 b2 b3 : Int32) (e : ((xs 1) >>> (0 &&& 31)) &&& 255 = b0) (h : jbi b0) {f : Nat} {q : jO × jH} (hq : jLoop (jRun ((4, xs) : jX) 2000 38) ((4, xs) : jX) jm248 f ((7, [(4, .int 8), (3, .int 1), (2, .int 1), (5, .int (b0)), (0, .ref 66), (1, .int (xs 1))], [], jzv182) : jS) = some q) : jLoop (jRun ((4, xs) : jX) 2000 38) ((4, xs) : jX) jm248 (f + 28) ((7, [(4, .int 0), (3, .int 0), (2, .int 0), (0, .ref 66), (1, .int (xs 1))], [], jzv182) : jS) = some q := by
  refine jl_s (S' := ((9, [(4, .int 0), (3, .int 0), (2, .int 0), (0, .ref 66), (1, .int (xs 1))], [.int 0], jzv182) : jS)) rfl ?_
  refine jl_s (S' := ((11, [(4, .int 0), (3, .int 0), (2, .int 0), (0, .ref 66), (1, .int (xs 1))], [.int 32, .int 0], jzv182) : jS)) rfl ?_
  refine jl_s (S' := ((14, [(4, .int 0), (3, .int 0), (2, .int 0), (0, .ref 66), (1, .int (xs 1))], [], jzv182) : jS)) rfl ?_
  refine jl_s (S' := ((15, [(4, .int 0), (3, .int 0), (2, .int 0), (0, .ref 66), (1, .int (xs 1))], [.int (xs 1)], jzv182) : jS)) rfl ?_
  refine jl_s (S' := ((17, [(4, .int 0), (3, .int 0), (2, .int 0), (0, .ref 66), (1, .int (xs 1))], [.int 0, .int (xs 1)], jzv182) : jS)) rfl ?_
  refine jl_s (S' := ((18, [(4, .int 0), (3, .int 0), (2, .int 0), (0, .ref 66), (1, .int (xs 1))], [.int ((xs 1) >>> (0 &&& 31))], jzv182) : jS)) rfl ?_
  refine jl_s (S' := ((21, [(4, .int 0), (3, .int 0), (2, .int 0), (0, .ref 66), (1, .int (xs 1))], [.int 255, .int ((xs 1) >>> (0 &&& 31))], jzv182) : jS)) rfl ?_
  refine jl_s (S' := ((22, [(4, .int 0), (3, .int 0), (2, .int 0), (0, .ref 66), (1, .int (xs 1))], [.int (((xs 1) >>> (0 &&& 31)) &&& 255)], jzv182) : jS)) rfl ?_
  rw [e]
  refine jl_s (S' := ((24, [(5, .int (b0)), (4, .int 0), (3, .int 0), (2, .int 0), (0, .ref 66), (1, .int (xs 1))], [], jzv182) : jS)) rfl ?_
  refine jl_s (S' := ((25, [(5, .int (b0)), (4, .int 0), (3, .int 0), (2, .int 0), (0, .ref 66), (1, .int (xs 1))], [.int 0], jzv182) : jS)) rfl ?_
  refine jl_s (S' := ((28, [(5, .int (b0)), (4, .int 0), (3, .int 0), (2, .int 0), (0, .ref 66), (1, .int (xs 1))], [], jzv182) : jS)) rfl ?_
  refine jl_s (S' := ((30, [(5, .int (b0)), (4, .int 0), (3, .int 0), (2, .int 0), (0, .ref 66), (1, .int (xs 1))], [.int (b0)], jzv182) : jS)) rfl ?_
  refine jl_iff (e := jm248) (o := 15) rfl (h.1.1) ?_
  refine jl_s (S' := ((35, [(5, .int (b0)), (4, .int 0), (3, .int 0), (2, .int 0), (0, .ref 66), (1, .int (xs 1))], [.int (b0)], jzv182) : jS)) rfl ?_
  refine jl_c (t := 247) (as := [.int (b0)]) (V := jzv182) (r := (.inl (some (.int 0)), jzv182)) (S' := ((38, [(5, .int (b0)), (4, .int 0), (3, .int 0), (2, .int 0), (0, .ref 66), (1, .int (xs 1))], [.int 0], jzv182) : jS)) rfl (jz_si ((4, xs) : jX) jzv182 b0 h ) rfl ?_
  refine jl_s (S' := ((41, [(5, .int (b0)), (4, .int 0), (3, .int 0), (2, .int 0), (0, .ref 66), (1, .int (xs 1))], [], jzv182) : jS)) rfl ?_
  refine jl_s (S' := ((42, [(5, .int (b0)), (4, .int 0), (3, .int 0), (2, .int 0), (0, .ref 66), (1, .int (xs 1))], [.int 1], jzv182) : jS)) rfl ?_
  refine jl_s (S' := ((46, [(5, .int (b0)), (4, .int 0), (3, .int 0), (2, .int 0), (0, .ref 66), (1, .int (xs 1))], [.int 1], jzv182) : jS)) rfl ?_
  refine jl_s (S' := ((47, [(2, .int 1), (5, .int (b0)), (4, .int 0), (3, .int 0), (0, .ref 66), (1, .int (xs 1))], [], jzv182) : jS)) rfl ?_
  refine jl_s (S' := ((49, [(2, .int 1), (5, .int (b0)), (4, .int 0), (3, .int 0), (0, .ref 66), (1, .int (xs 1))], [.int (b0)], jzv182) : jS)) rfl ?_
  refine jl_iff (e := jm248) (o := 9) rfl (h.1.1) ?_
  refine jl_s (S' := ((53, [(2, .int 1), (5, .int (b0)), (4, .int 0), (3, .int 0), (0, .ref 66), (1, .int (xs 1))], [.int 0], jzv182) : jS)) rfl ?_
  refine jl_s (S' := ((54, [(2, .int 1), (5, .int (b0)), (4, .int 0), (3, .int 0), (0, .ref 66), (1, .int (xs 1))], [.int 1, .int 0], jzv182) : jS)) rfl ?_
  refine jl_s (S' := ((55, [(2, .int 1), (5, .int (b0)), (4, .int 0), (3, .int 0), (0, .ref 66), (1, .int (xs 1))], [.int 1], jzv182) : jS)) rfl ?_
  refine jl_s (S' := ((59, [(2, .int 1), (5, .int (b0)), (4, .int 0), (3, .int 0), (0, .ref 66), (1, .int (xs 1))], [.int 1], jzv182) : jS)) rfl ?_
  refine jl_s (S' := ((60, [(3, .int 1), (2, .int 1), (5, .int (b0)), (4, .int 0), (0, .ref 66), (1, .int (xs 1))], [], jzv182) : jS)) rfl ?_
  refine jl_s (S' := ((63, [(4, .int 8), (3, .int 1), (2, .int 1), (5, .int (b0)), (0, .ref 66), (1, .int (xs 1))], [], jzv182) : jS)) rfl ?_
  refine jl_s (S' := ((7, [(4, .int 8), (3, .int 1), (2, .int 1), (5, .int (b0)), (0, .ref 66), (1, .int (xs 1))], [], jzv182) : jS)) rfl ?_
  exact hq
set_option maxHeartbeats 4000000 in
set_option maxRecDepth 100000 in
theorem jzq808 (xs : Nat → Int32) (b0 b1 b2 b3 : Int32) (e : ((xs 1) >>> (8 &&& 31)) &&& 255 = b1) (h : jbz b1) {f : Nat} {q : jO × jH} (hq : jLoop (jRun ((4, xs) : jX) 2000 38) ((4, xs) : jX) jm248 f ((7, [(4, .int 16), (3, .int 1), (2, .int 1), (5, .int (b1)), (0, .ref 66), (1, .int (xs 1))], [], jzv182) : jS) = some q) : jLoop (jRun ((4, xs) : jX) 2000 38) ((4, xs) : jX) jm248 (f + 20) ((7, [(4, .int 8), (3, .int 1), (2, .int 1), (5, .int (b0)), (0, .ref 66), (1, .int (xs 1))], [], jzv182) : jS) = some q := by
  refine jl_s (S' := ((9, [(4, .int 8), (3, .int 1), (2, .int 1), (5, .int (b0)), (0, .ref 66), (1, .int (xs 1))], [.int 8], jzv182) : jS)) rfl ?_
  refine jl_s (S' := ((11, [(4, .int 8), (3, .int 1), (2, .int 1), (5, .int (b0)), (0, .ref 66), (1, .int (xs 1))], [.int 32, .int 8], jzv182) : jS)) rfl ?_
  refine jl_s (S' := ((14, [(4, .int 8), (3, .int 1), (2, .int 1), (5, .int (b0)), (0, .ref 66), (1, .int (xs 1))], [], jzv182) : jS)) rfl ?_
  refine jl_s (S' := ((15, [(4, .int 8), (3, .int 1), (2, .int 1), (5, .int (b0)), (0, .ref 66), (1, .int (xs 1))], [.int (xs 1)], jzv182) : jS)) rfl ?_
  refine jl_s (S' := ((17, [(4, .int 8), (3, .int 1), (2, .int 1), (5, .int (b0)), (0, .ref 66), (1, .int (xs 1))], [.int 8, .int (xs 1)], jzv182) : jS)) rfl ?_
  refine jl_s (S' := ((18, [(4, .int 8), (3, .int 1), (2, .int 1), (5, .int (b0)), (0, .ref 66), (1, .int (xs 1))], [.int ((xs 1) >>> (8 &&& 31))], jzv182) : jS)) rfl ?_
  refine jl_s (S' := ((21, [(4, .int 8), (3, .int 1), (2, .int 1), (5, .int (b0)), (0, .ref 66), (1, .int (xs 1))], [.int 255, .int ((xs 1) >>> (8 &&& 31))], jzv182) : jS)) rfl ?_
  refine jl_s (S' := ((22, [(4, .int 8), (3, .int 1), (2, .int 1), (5, .int (b0)), (0, .ref 66), (1, .int (xs 1))], [.int (((xs 1) >>> (8 &&& 31)) &&& 255)], jzv182) : jS)) rfl ?_
  rw [e]
  refine jl_s (S' := ((24, [(5, .int (b1)), (4, .int 8), (3, .int 1), (2, .int 1), (0, .ref 66), (1, .int (xs 1))], [], jzv182) : jS)) rfl ?_
  refine jl_s (S' := ((25, [(5, .int (b1)), (4, .int 8), (3, .int 1), (2, .int 1), (0, .ref 66), (1, .int (xs 1))], [.int 1], jzv182) : jS)) rfl ?_
  refine jl_s (S' := ((41, [(5, .int (b1)), (4, .int 8), (3, .int 1), (2, .int 1), (0, .ref 66), (1, .int (xs 1))], [], jzv182) : jS)) rfl ?_
  refine jl_s (S' := ((42, [(5, .int (b1)), (4, .int 8), (3, .int 1), (2, .int 1), (0, .ref 66), (1, .int (xs 1))], [.int 1], jzv182) : jS)) rfl ?_
  refine jl_s (S' := ((46, [(5, .int (b1)), (4, .int 8), (3, .int 1), (2, .int 1), (0, .ref 66), (1, .int (xs 1))], [.int 1], jzv182) : jS)) rfl ?_
  refine jl_s (S' := ((47, [(2, .int 1), (5, .int (b1)), (4, .int 8), (3, .int 1), (0, .ref 66), (1, .int (xs 1))], [], jzv182) : jS)) rfl ?_
  refine jl_s (S' := ((49, [(2, .int 1), (5, .int (b1)), (4, .int 8), (3, .int 1), (0, .ref 66), (1, .int (xs 1))], [.int (b1)], jzv182) : jS)) rfl ?_
  refine jl_ift (e := jm248) (o := 9) rfl (h.1) (t := 58) rfl ?_
  refine jl_s (S' := ((59, [(2, .int 1), (5, .int (b1)), (4, .int 8), (3, .int 1), (0, .ref 66), (1, .int (xs 1))], [.int 1], jzv182) : jS)) rfl ?_
  refine jl_s (S' := ((60, [(3, .int 1), (2, .int 1), (5, .int (b1)), (4, .int 8), (0, .ref 66), (1, .int (xs 1))], [], jzv182) : jS)) rfl ?_
  refine jl_s (S' := ((63, [(4, .int 16), (3, .int 1), (2, .int 1), (5, .int (b1)), (0, .ref 66), (1, .int (xs 1))], [], jzv182) : jS)) rfl ?_
  refine jl_s (S' := ((7, [(4, .int 16), (3, .int 1), (2, .int 1), (5, .int (b1)), (0, .ref 66), (1, .int (xs 1))], [], jzv182) : jS)) rfl ?_
  exact hq
set_option maxHeartbeats 4000000 in
set_option maxRecDepth 100000 in
theorem jzq810 (xs : Nat → Int32) (b0 b1 b2 b3 : Int32) (e : ((xs 1) >>> (8 &&& 31)) &&& 255 = b1) (h : jbn b1) {f : Nat} {q : jO × jH} (hq : jLoop (jRun ((4, xs) : jX) 2000 38) ((4, xs) : jX) jm248 f ((7, [(4, .int 16), (3, .int 2), (2, .int 1), (5, .int (b1)), (0, .ref 66), (1, .int (xs 1))], [], jzv182) : jS) = some q) : jLoop (jRun ((4, xs) : jX) 2000 38) ((4, xs) : jX) jm248 (f + 23) ((7, [(4, .int 8), (3, .int 1), (2, .int 1), (5, .int (b0)), (0, .ref 66), (1, .int (xs 1))], [], jzv182) : jS) = some q := by
  refine jl_s (S' := ((9, [(4, .int 8), (3, .int 1), (2, .int 1), (5, .int (b0)), (0, .ref 66), (1, .int (xs 1))], [.int 8], jzv182) : jS)) rfl ?_
  refine jl_s (S' := ((11, [(4, .int 8), (3, .int 1), (2, .int 1), (5, .int (b0)), (0, .ref 66), (1, .int (xs 1))], [.int 32, .int 8], jzv182) : jS)) rfl ?_
  refine jl_s (S' := ((14, [(4, .int 8), (3, .int 1), (2, .int 1), (5, .int (b0)), (0, .ref 66), (1, .int (xs 1))], [], jzv182) : jS)) rfl ?_
  refine jl_s (S' := ((15, [(4, .int 8), (3, .int 1), (2, .int 1), (5, .int (b0)), (0, .ref 66), (1, .int (xs 1))], [.int (xs 1)], jzv182) : jS)) rfl ?_
  refine jl_s (S' := ((17, [(4, .int 8), (3, .int 1), (2, .int 1), (5, .int (b0)), (0, .ref 66), (1, .int (xs 1))], [.int 8, .int (xs 1)], jzv182) : jS)) rfl ?_
  refine jl_s (S' := ((18, [(4, .int 8), (3, .int 1), (2, .int 1), (5, .int (b0)), (0, .ref 66), (1, .int (xs 1))], [.int ((xs 1) >>> (8 &&& 31))], jzv182) : jS)) rfl ?_
  refine jl_s (S' := ((21, [(4, .int 8), (3, .int 1), (2, .int 1), (5, .int (b0)), (0, .ref 66), (1, .int (xs 1))], [.int 255, .int ((xs 1) >>> (8 &&& 31))], jzv182) : jS)) rfl ?_
  refine jl_s (S' := ((22, [(4, .int 8), (3, .int 1), (2, .int 1), (5, .int (b0)), (0, .ref 66), (1, .int (xs 1))], [.int (((xs 1) >>> (8 &&& 31)) &&& 255)], jzv182) : jS)) rfl ?_
  rw [e]
  refine jl_s (S' := ((24, [(5, .int (b1)), (4, .int 8), (3, .int 1), (2, .int 1), (0, .ref 66), (1, .int (xs 1))], [], jzv182) : jS)) rfl ?_
  refine jl_s (S' := ((25, [(5, .int (b1)), (4, .int 8), (3, .int 1), (2, .int 1), (0, .ref 66), (1, .int (xs 1))], [.int 1], jzv182) : jS)) rfl ?_
  refine jl_s (S' := ((41, [(5, .int (b1)), (4, .int 8), (3, .int 1), (2, .int 1), (0, .ref 66), (1, .int (xs 1))], [], jzv182) : jS)) rfl ?_
  refine jl_s (S' := ((42, [(5, .int (b1)), (4, .int 8), (3, .int 1), (2, .int 1), (0, .ref 66), (1, .int (xs 1))], [.int 1], jzv182) : jS)) rfl ?_
  refine jl_s (S' := ((46, [(5, .int (b1)), (4, .int 8), (3, .int 1), (2, .int 1), (0, .ref 66), (1, .int (xs 1))], [.int 1], jzv182) : jS)) rfl ?_
  refine jl_s (S' := ((47, [(2, .int 1), (5, .int (b1)), (4, .int 8), (3, .int 1), (0, .ref 66), (1, .int (xs 1))], [], jzv182) : jS)) rfl ?_
  refine jl_s (S' := ((49, [(2, .int 1), (5, .int (b1)), (4, .int 8), (3, .int 1), (0, .ref 66), (1, .int (xs 1))], [.int (b1)], jzv182) : jS)) rfl ?_
  refine jl_iff (e := jm248) (o := 9) rfl (h.1) ?_
  refine jl_s (S' := ((53, [(2, .int 1), (5, .int (b1)), (4, .int 8), (3, .int 1), (0, .ref 66), (1, .int (xs 1))], [.int 1], jzv182) : jS)) rfl ?_
  refine jl_s (S' := ((54, [(2, .int 1), (5, .int (b1)), (4, .int 8), (3, .int 1), (0, .ref 66), (1, .int (xs 1))], [.int 1, .int 1], jzv182) : jS)) rfl ?_
  refine jl_s (S' := ((55, [(2, .int 1), (5, .int (b1)), (4, .int 8), (3, .int 1), (0, .ref 66), (1, .int (xs 1))], [.int 2], jzv182) : jS)) rfl ?_
  refine jl_s (S' := ((59, [(2, .int 1), (5, .int (b1)), (4, .int 8), (3, .int 1), (0, .ref 66), (1, .int (xs 1))], [.int 2], jzv182) : jS)) rfl ?_
  refine jl_s (S' := ((60, [(3, .int 2), (2, .int 1), (5, .int (b1)), (4, .int 8), (0, .ref 66), (1, .int (xs 1))], [], jzv182) : jS)) rfl ?_
  refine jl_s (S' := ((63, [(4, .int 16), (3, .int 2), (2, .int 1), (5, .int (b1)), (0, .ref 66), (1, .int (xs 1))], [], jzv182) : jS)) rfl ?_
  refine jl_s (S' := ((7, [(4, .int 16), (3, .int 2), (2, .int 1), (5, .int (b1)), (0, .ref 66), (1, .int (xs 1))], [], jzv182) : jS)) rfl ?_
  exact hq
set_option maxHeartbeats 4000000 in
set_option maxRecDepth 100000 in
theorem jzq812 (xs : Nat → Int32) (b0 b1 b2 b3 : Int32) (e : ((xs 1) >>> (16 &&& 31)) &&& 255 = b2) (h : jbz b2) {f : Nat} {q : jO × jH} (hq : jLoop (jRun ((4, xs) : jX) 2000 38) ((4, xs) : jX) jm248 f ((7, [(4, .int 24), (3, .int 1), (2, .int 1), (5, .int (b2)), (0, .ref 66), (1, .int (xs 1))], [], jzv182) : jS) = some q) : jLoop (jRun ((4, xs) : jX) 2000 38) ((4, xs) : jX) jm248 (f + 20) ((7, [(4, .int 16), (3, .int 1), (2, .int 1), (5, .int (b1)), (0, .ref 66), (1, .int (xs 1))], [], jzv182) : jS) = some q := by
  refine jl_s (S' := ((9, [(4, .int 16), (3, .int 1), (2, .int 1), (5, .int (b1)), (0, .ref 66), (1, .int (xs 1))], [.int 16], jzv182) : jS)) rfl ?_
  refine jl_s (S' := ((11, [(4, .int 16), (3, .int 1), (2, .int 1), (5, .int (b1)), (0, .ref 66), (1, .int (xs 1))], [.int 32, .int 16], jzv182) : jS)) rfl ?_
  refine jl_s (S' := ((14, [(4, .int 16), (3, .int 1), (2, .int 1), (5, .int (b1)), (0, .ref 66), (1, .int (xs 1))], [], jzv182) : jS)) rfl ?_
  refine jl_s (S' := ((15, [(4, .int 16), (3, .int 1), (2, .int 1), (5, .int (b1)), (0, .ref 66), (1, .int (xs 1))], [.int (xs 1)], jzv182) : jS)) rfl ?_
  refine jl_s (S' := ((17, [(4, .int 16), (3, .int 1), (2, .int 1), (5, .int (b1)), (0, .ref 66), (1, .int (xs 1))], [.int 16, .int (xs 1)], jzv182) : jS)) rfl ?_
  refine jl_s (S' := ((18, [(4, .int 16), (3, .int 1), (2, .int 1), (5, .int (b1)), (0, .ref 66), (1, .int (xs 1))], [.int ((xs 1) >>> (16 &&& 31))], jzv182) : jS)) rfl ?_
  refine jl_s (S' := ((21, [(4, .int 16), (3, .int 1), (2, .int 1), (5, .int (b1)), (0, .ref 66), (1, .int (xs 1))], [.int 255, .int ((xs 1) >>> (16 &&& 31))], jzv182) : jS)) rfl ?_
  refine jl_s (S' := ((22, [(4, .int 16), (3, .int 1), (2, .int 1), (5, .int (b1)), (0, .ref 66), (1, .int (xs 1))], [.int (((xs 1) >>> (16 &&& 31)) &&& 255)], jzv182) : jS)) rfl ?_
  rw [e]
  refine jl_s (S' := ((24, [(5, .int (b2)), (4, .int 16), (3, .int 1), (2, .int 1), (0, .ref 66), (1, .int (xs 1))], [], jzv182) : jS)) rfl ?_
  refine jl_s (S' := ((25, [(5, .int (b2)), (4, .int 16), (3, .int 1), (2, .int 1), (0, .ref 66), (1, .int (xs 1))], [.int 1], jzv182) : jS)) rfl ?_
  refine jl_s (S' := ((41, [(5, .int (b2)), (4, .int 16), (3, .int 1), (2, .int 1), (0, .ref 66), (1, .int (xs 1))], [], jzv182) : jS)) rfl ?_
  refine jl_s (S' := ((42, [(5, .int (b2)), (4, .int 16), (3, .int 1), (2, .int 1), (0, .ref 66), (1, .int (xs 1))], [.int 1], jzv182) : jS)) rfl ?_
  refine jl_s (S' := ((46, [(5, .int (b2)), (4, .int 16), (3, .int 1), (2, .int 1), (0, .ref 66), (1, .int (xs 1))], [.int 1], jzv182) : jS)) rfl ?_
  refine jl_s (S' := ((47, [(2, .int 1), (5, .int (b2)), (4, .int 16), (3, .int 1), (0, .ref 66), (1, .int (xs 1))], [], jzv182) : jS)) rfl ?_
  refine jl_s (S' := ((49, [(2, .int 1), (5, .int (b2)), (4, .int 16), (3, .int 1), (0, .ref 66), (1, .int (xs 1))], [.int (b2)], jzv182) : jS)) rfl ?_
  refine jl_ift (e := jm248) (o := 9) rfl (h.1) (t := 58) rfl ?_
  refine jl_s (S' := ((59, [(2, .int 1), (5, .int (b2)), (4, .int 16), (3, .int 1), (0, .ref 66), (1, .int (xs 1))], [.int 1], jzv182) : jS)) rfl ?_
  refine jl_s (S' := ((60, [(3, .int 1), (2, .int 1), (5, .int (b2)), (4, .int 16), (0, .ref 66), (1, .int (xs 1))], [], jzv182) : jS)) rfl ?_
  refine jl_s (S' := ((63, [(4, .int 24), (3, .int 1), (2, .int 1), (5, .int (b2)), (0, .ref 66), (1, .int (xs 1))], [], jzv182) : jS)) rfl ?_
  refine jl_s (S' := ((7, [(4, .int 24), (3, .int 1), (2, .int 1), (5, .int (b2)), (0, .ref 66), (1, .int (xs 1))], [], jzv182) : jS)) rfl ?_
  exact hq
set_option maxHeartbeats 4000000 in
set_option maxRecDepth 100000 in
theorem jzq814 (xs : Nat → Int32) (b0 b1 b2 b3 : Int32) (e : ((xs 1) >>> (16 &&& 31)) &&& 255 = b2) (h : jbn b2) {f : Nat} {q : jO × jH} (hq : jLoop (jRun ((4, xs) : jX) 2000 38) ((4, xs) : jX) jm248 f ((7, [(4, .int 24), (3, .int 2), (2, .int 1), (5, .int (b2)), (0, .ref 66), (1, .int (xs 1))], [], jzv182) : jS) = some q) : jLoop (jRun ((4, xs) : jX) 2000 38) ((4, xs) : jX) jm248 (f + 23) ((7, [(4, .int 16), (3, .int 1), (2, .int 1), (5, .int (b1)), (0, .ref 66), (1, .int (xs 1))], [], jzv182) : jS) = some q := by
  refine jl_s (S' := ((9, [(4, .int 16), (3, .int 1), (2, .int 1), (5, .int (b1)), (0, .ref 66), (1, .int (xs 1))], [.int 16], jzv182) : jS)) rfl ?_
  refine jl_s (S' := ((11, [(4, .int 16), (3, .int 1), (2, .int 1), (5, .int (b1)), (0, .ref 66), (1, .int (xs 1))], [.int 32, .int 16], jzv182) : jS)) rfl ?_
  refine jl_s (S' := ((14, [(4, .int 16), (3, .int 1), (2, .int 1), (5, .int (b1)), (0, .ref 66), (1, .int (xs 1))], [], jzv182) : jS)) rfl ?_
  refine jl_s (S' := ((15, [(4, .int 16), (3, .int 1), (2, .int 1), (5, .int (b1)), (0, .ref 66), (1, .int (xs 1))], [.int (xs 1)], jzv182) : jS)) rfl ?_
  refine jl_s (S' := ((17, [(4, .int 16), (3, .int 1), (2, .int 1), (5, .int (b1)), (0, .ref 66), (1, .int (xs 1))], [.int 16, .int (xs 1)], jzv182) : jS)) rfl ?_
  refine jl_s (S' := ((18, [(4, .int 16), (3, .int 1), (2, .int 1), (5, .int (b1)), (0, .ref 66), (1, .int (xs 1))], [.int ((xs 1) >>> (16 &&& 31))], jzv182) : jS)) rfl ?_
  refine jl_s (S' := ((21, [(4, .int 16), (3, .int 1), (2, .int 1), (5, .int (b1)), (0, .ref 66), (1, .int (xs 1))], [.int 255, .int ((xs 1) >>> (16 &&& 31))], jzv182) : jS)) rfl ?_
  refine jl_s (S' := ((22, [(4, .int 16), (3, .int 1), (2, .int 1), (5, .int (b1)), (0, .ref 66), (1, .int (xs 1))], [.int (((xs 1) >>> (16 &&& 31)) &&& 255)], jzv182) : jS)) rfl ?_
  rw [e]
  refine jl_s (S' := ((24, [(5, .int (b2)), (4, .int 16), (3, .int 1), (2, .int 1), (0, .ref 66), (1, .int (xs 1))], [], jzv182) : jS)) rfl ?_
  refine jl_s (S' := ((25, [(5, .int (b2)), (4, .int 16), (3, .int 1), (2, .int 1), (0, .ref 66), (1, .int (xs 1))], [.int 1], jzv182) : jS)) rfl ?_
  refine jl_s (S' := ((41, [(5, .int (b2)), (4, .int 16), (3, .int 1), (2, .int 1), (0, .ref 66), (1, .int (xs 1))], [], jzv182) : jS)) rfl ?_
  refine jl_s (S' := ((42, [(5, .int (b2)), (4, .int 16), (3, .int 1), (2, .int 1), (0, .ref 66), (1, .int (xs 1))], [.int 1], jzv182) : jS)) rfl ?_
  refine jl_s (S' := ((46, [(5, .int (b2)), (4, .int 16), (3, .int 1), (2, .int 1), (0, .ref 66), (1, .int (xs 1))], [.int 1], jzv182) : jS)) rfl ?_
  refine jl_s (S' := ((47, [(2, .int 1), (5, .int (b2)), (4, .int 16), (3, .int 1), (0, .ref 66), (1, .int (xs 1))], [], jzv182) : jS)) rfl ?_
  refine jl_s (S' := ((49, [(2, .int 1), (5, .int (b2)), (4, .int 16), (3, .int 1), (0, .ref 66), (1, .int (xs 1))], [.int (b2)], jzv182) : jS)) rfl ?_
  refine jl_iff (e := jm248) (o := 9) rfl (h.1) ?_
  refine jl_s (S' := ((53, [(2, .int 1), (5, .int (b2)), (4, .int 16), (3, .int 1), (0, .ref 66), (1, .int (xs 1))], [.int 1], jzv182) : jS)) rfl ?_
  refine jl_s (S' := ((54, [(2, .int 1), (5, .int (b2)), (4, .int 16), (3, .int 1), (0, .ref 66), (1, .int (xs 1))], [.int 1, .int 1], jzv182) : jS)) rfl ?_
  refine jl_s (S' := ((55, [(2, .int 1), (5, .int (b2)), (4, .int 16), (3, .int 1), (0, .ref 66), (1, .int (xs 1))], [.int 2], jzv182) : jS)) rfl ?_
  refine jl_s (S' := ((59, [(2, .int 1), (5, .int (b2)), (4, .int 16), (3, .int 1), (0, .ref 66), (1, .int (xs 1))], [.int 2], jzv182) : jS)) rfl ?_
  refine jl_s (S' := ((60, [(3, .int 2), (2, .int 1), (5, .int (b2)), (4, .int 16), (0, .ref 66), (1, .int (xs 1))], [], jzv182) : jS)) rfl ?_
  refine jl_s (S' := ((63, [(4, .int 24), (3, .int 2), (2, .int 1), (5, .int (b2)), (0, .ref 66), (1, .int (xs 1))], [], jzv182) : jS)) rfl ?_
  refine jl_s (S' := ((7, [(4, .int 24), (3, .int 2), (2, .int 1), (5, .int (b2)), (0, .ref 66), (1, .int (xs 1))], [], jzv182) : jS)) rfl ?_
  exact hq
set_option maxHeartbeats 4000000 in
set_option maxRecDepth 100000 in
theorem jzq816 (xs : Nat → Int32) (b0 b1 b2 b3 : Int32) (e : ((xs 1) >>> (24 &&& 31)) &&& 255 = b3) (h : jbz b3) {f : Nat} {q : jO × jH} (hq : jLoop (jRun ((4, xs) : jX) 2000 38) ((4, xs) : jX) jm248 f ((7, [(4, .int 32), (3, .int 1), (2, .int 1), (5, .int (b3)), (0, .ref 66), (1, .int (xs 1))], [], jzv182) : jS) = some q) : jLoop (jRun ((4, xs) : jX) 2000 38) ((4, xs) : jX) jm248 (f + 20) ((7, [(4, .int 24), (3, .int 1), (2, .int 1), (5, .int (b2)), (0, .ref 66), (1, .int (xs 1))], [], jzv182) : jS) = some q := by
  refine jl_s (S' := ((9, [(4, .int 24), (3, .int 1), (2, .int 1), (5, .int (b2)), (0, .ref 66), (1, .int (xs 1))], [.int 24], jzv182) : jS)) rfl ?_
  refine jl_s (S' := ((11, [(4, .int 24), (3, .int 1), (2, .int 1), (5, .int (b2)), (0, .ref 66), (1, .int (xs 1))], [.int 32, .int 24], jzv182) : jS)) rfl ?_
  refine jl_s (S' := ((14, [(4, .int 24), (3, .int 1), (2, .int 1), (5, .int (b2)), (0, .ref 66), (1, .int (xs 1))], [], jzv182) : jS)) rfl ?_
  refine jl_s (S' := ((15, [(4, .int 24), (3, .int 1), (2, .int 1), (5, .int (b2)), (0, .ref 66), (1, .int (xs 1))], [.int (xs 1)], jzv182) : jS)) rfl ?_
  refine jl_s (S' := ((17, [(4, .int 24), (3, .int 1), (2, .int 1), (5, .int (b2)), (0, .ref 66), (1, .int (xs 1))], [.int 24, .int (xs 1)], jzv182) : jS)) rfl ?_
  refine jl_s (S' := ((18, [(4, .int 24), (3, .int 1), (2, .int 1), (5, .int (b2)), (0, .ref 66), (1, .int (xs 1))], [.int ((xs 1) >>> (24 &&& 31))], jzv182) : jS)) rfl ?_
  refine jl_s (S' := ((21, [(4, .int 24), (3, .int 1), (2, .int 1), (5, .int (b2)), (0, .ref 66), (1, .int (xs 1))], [.int 255, .int ((xs 1) >>> (24 &&& 31))], jzv182) : jS)) rfl ?_
  refine jl_s (S' := ((22, [(4, .int 24), (3, .int 1), (2, .int 1), (5, .int (b2)), (0, .ref 66), (1, .int (xs 1))], [.int (((xs 1) >>> (24 &&& 31)) &&& 255)], jzv182) : jS)) rfl ?_
  rw [e]
  refine jl_s (S' := ((24, [(5, .int (b3)), (4, .int 24), (3, .int 1), (2, .int 1), (0, .ref 66), (1, .int (xs 1))], [], jzv182) : jS)) rfl ?_
  refine jl_s (S' := ((25, [(5, .int (b3)), (4, .int 24), (3, .int 1), (2, .int 1), (0, .ref 66), (1, .int (xs 1))], [.int 1], jzv182) : jS)) rfl ?_
  refine jl_s (S' := ((41, [(5, .int (b3)), (4, .int 24), (3, .int 1), (2, .int 1), (0, .ref 66), (1, .int (xs 1))], [], jzv182) : jS)) rfl ?_
  refine jl_s (S' := ((42, [(5, .int (b3)), (4, .int 24), (3, .int 1), (2, .int 1), (0, .ref 66), (1, .int (xs 1))], [.int 1], jzv182) : jS)) rfl ?_
  refine jl_s (S' := ((46, [(5, .int (b3)), (4, .int 24), (3, .int 1), (2, .int 1), (0, .ref 66), (1, .int (xs 1))], [.int 1], jzv182) : jS)) rfl ?_
  refine jl_s (S' := ((47, [(2, .int 1), (5, .int (b3)), (4, .int 24), (3, .int 1), (0, .ref 66), (1, .int (xs 1))], [], jzv182) : jS)) rfl ?_
  refine jl_s (S' := ((49, [(2, .int 1), (5, .int (b3)), (4, .int 24), (3, .int 1), (0, .ref 66), (1, .int (xs 1))], [.int (b3)], jzv182) : jS)) rfl ?_
  refine jl_ift (e := jm248) (o := 9) rfl (h.1) (t := 58) rfl ?_
  refine jl_s (S' := ((59, [(2, .int 1), (5, .int (b3)), (4, .int 24), (3, .int 1), (0, .ref 66), (1, .int (xs 1))], [.int 1], jzv182) : jS)) rfl ?_
  refine jl_s (S' := ((60, [(3, .int 1), (2, .int 1), (5, .int (b3)), (4, .int 24), (0, .ref 66), (1, .int (xs 1))], [], jzv182) : jS)) rfl ?_
  refine jl_s (S' := ((63, [(4, .int 32), (3, .int 1), (2, .int 1), (5, .int (b3)), (0, .ref 66), (1, .int (xs 1))], [], jzv182) : jS)) rfl ?_
  refine jl_s (S' := ((7, [(4, .int 32), (3, .int 1), (2, .int 1), (5, .int (b3)), (0, .ref 66), (1, .int (xs 1))], [], jzv182) : jS)) rfl ?_
  exact hq
set_option maxHeartbeats 4000000 in
set_option maxRecDepth 100000 in
theorem jzq818 (xs : Nat → Int32) (b0 b1 b2 b3 : Int32) (e : ((xs 1) >>> (24 &&& 31)) &&& 255 = b3) (h : jbn b3) {f : Nat} {q : jO × jH} (hq : jLoop (jRun ((4, xs) : jX) 2000 38) ((4, xs) : jX) jm248 f ((7, [(4, .int 32), (3, .int 2), (2, .int 1), (5, .int (b3)), (0, .ref 66), (1, .int (xs 1))], [], jzv182) : jS) = some q) : jLoop (jRun ((4, xs) : jX) 2000 38) ((4, xs) : jX) jm248 (f + 23) ((7, [(4, .int 24), (3, .int 1), (2, .int 1), (5, .int (b2)), (0, .ref 66), (1, .int (xs 1))], [], jzv182) : jS) = some q := by
  refine jl_s (S' := ((9, [(4, .int 24), (3, .int 1), (2, .int 1), (5, .int (b2)), (0, .ref 66), (1, .int (xs 1))], [.int 24], jzv182) : jS)) rfl ?_
  refine jl_s (S' := ((11, [(4, .int 24), (3, .int 1), (2, .int 1), (5, .int (b2)), (0, .ref 66), (1, .int (xs 1))], [.int 32, .int 24], jzv182) : jS)) rfl ?_
  refine jl_s (S' := ((14, [(4, .int 24), (3, .int 1), (2, .int 1), (5, .int (b2)), (0, .ref 66), (1, .int (xs 1))], [], jzv182) : jS)) rfl ?_
  refine jl_s (S' := ((15, [(4, .int 24), (3, .int 1), (2, .int 1), (5, .int (b2)), (0, .ref 66), (1, .int (xs 1))], [.int (xs 1)], jzv182) : jS)) rfl ?_
  refine jl_s (S' := ((17, [(4, .int 24), (3, .int 1), (2, .int 1), (5, .int (b2)), (0, .ref 66), (1, .int (xs 1))], [.int 24, .int (xs 1)], jzv182) : jS)) rfl ?_
  refine jl_s (S' := ((18, [(4, .int 24), (3, .int 1), (2, .int 1), (5, .int (b2)), (0, .ref 66), (1, .int (xs 1))], [.int ((xs 1) >>> (24 &&& 31))], jzv182) : jS)) rfl ?_
  refine jl_s (S' := ((21, [(4, .int 24), (3, .int 1), (2, .int 1), (5, .int (b2)), (0, .ref 66), (1, .int (xs 1))], [.int 255, .int ((xs 1) >>> (24 &&& 31))], jzv182) : jS)) rfl ?_
  refine jl_s (S' := ((22, [(4, .int 24), (3, .int 1), (2, .int 1), (5, .int (b2)), (0, .ref 66), (1, .int (xs 1))], [.int (((xs 1) >>> (24 &&& 31)) &&& 255)], jzv182) : jS)) rfl ?_
  rw [e]
  refine jl_s (S' := ((24, [(5, .int (b3)), (4, .int 24), (3, .int 1), (2, .int 1), (0, .ref 66), (1, .int (xs 1))], [], jzv182) : jS)) rfl ?_
  refine jl_s (S' := ((25, [(5, .int (b3)), (4, .int 24), (3, .int 1), (2, .int 1), (0, .ref 66), (1, .int (xs 1))], [.int 1], jzv182) : jS)) rfl ?_
  refine jl_s (S' := ((41, [(5, .int (b3)), (4, .int 24), (3, .int 1), (2, .int 1), (0, .ref 66), (1, .int (xs 1))], [], jzv182) : jS)) rfl ?_
  refine jl_s (S' := ((42, [(5, .int (b3)), (4, .int 24), (3, .int 1), (2, .int 1), (0, .ref 66), (1, .int (xs 1))], [.int 1], jzv182) : jS)) rfl ?_
  refine jl_s (S' := ((46, [(5, .int (b3)), (4, .int 24), (3, .int 1), (2, .int 1), (0, .ref 66), (1, .int (xs 1))], [.int 1], jzv182) : jS)) rfl ?_
  refine jl_s (S' := ((47, [(2, .int 1), (5, .int (b3)), (4, .int 24), (3, .int 1), (0, .ref 66), (1, .int (xs 1))], [], jzv182) : jS)) rfl ?_
  refine jl_s (S' := ((49, [(2, .int 1), (5, .int (b3)), (4, .int 24), (3, .int 1), (0, .ref 66), (1, .int (xs 1))], [.int (b3)], jzv182) : jS)) rfl ?_
  refine jl_iff (e := jm248) (o := 9) rfl (h.1) ?_
  refine jl_s (S' := ((53, [(2, .int 1), (5, .int (b3)), (4, .int 24), (3, .int 1), (0, .ref 66), (1, .int (xs 1))], [.int 1], jzv182) : jS)) rfl ?_
  refine jl_s (S' := ((54, [(2, .int 1), (5, .int (b3)), (4, .int 24), (3, .int 1), (0, .ref 66), (1, .int (xs 1))], [.int 1, .int 1], jzv182) : jS)) rfl ?_
  refine jl_s (S' := ((55, [(2, .int 1), (5, .int (b3)), (4, .int 24), (3, .int 1), (0, .ref 66), (1, .int (xs 1))], [.int 2], jzv182) : jS)) rfl ?_
  refine jl_s (S' := ((59, [(2, .int 1), (5, .int (b3)), (4, .int 24), (3, .int 1), (0, .ref 66), (1, .int (xs 1))], [.int 2], jzv182) : jS)) rfl ?_
  refine jl_s (S' := ((60, [(3, .int 2), (2, .int 1), (5, .int (b3)), (4, .int 24), (0, .ref 66), (1, .int (xs 1))], [], jzv182) : jS)) rfl ?_
  refine jl_s (S' := ((63, [(4, .int 32), (3, .int 2), (2, .int 1), (5, .int (b3)), (0, .ref 66), (1, .int (xs 1))], [], jzv182) : jS)) rfl ?_
  refine jl_s (S' := ((7, [(4, .int 32), (3, .int 2), (2, .int 1), (5, .int (b3)), (0, .ref 66), (1, .int (xs 1))], [], jzv182) : jS)) rfl ?_
  exact hq
set_option maxHeartbeats 4000000 in
set_option maxRecDepth 100000 in
theorem jzl819 (xs : Nat → Int32) (b0 b1 b2 b3 : Int32) : jRun ((4, xs) : jX) 2000 38 245 [.ref 66, .int 1, .int 0, .int 0] jzv182 = some (.inl (some (.int 1)), jzv183) := by
  refine jr_run (e := jm245) rfl (Nat.le_of_ble_eq_true rfl) ?_
  refine jl_s (S' := ((1, [(0, .ref 66), (1, .int 1), (2, .int 0), (3, .int 0)], [.ref 66], jzv182) : jS)) rfl ?_
  refine jl_s (S' := ((2, [(0, .ref 66), (1, .int 1), (2, .int 0), (3, .int 0)], [.int 1, .ref 66], jzv182) : jS)) rfl ?_
  refine jl_s (S' := ((5, [(0, .ref 66), (1, .int 1), (2, .int 0), (3, .int 0)], [.ref 66], jzv182) : jS)) rfl ?_
  refine jl_s (S' := ((6, [(0, .ref 66), (1, .int 1), (2, .int 0), (3, .int 0)], [.int 1, .ref 66], jzv182) : jS)) rfl ?_
  refine jl_s (S' := ((26, [(0, .ref 66), (1, .int 1), (2, .int 0), (3, .int 0)], [.int 1, .ref 66], jzv182) : jS)) rfl ?_
  refine jl_s (S' := ((29, [(0, .ref 66), (1, .int 1), (2, .int 0), (3, .int 0)], [], jzv183) : jS)) rfl ?_
  refine jl_s (S' := ((30, [(0, .ref 66), (1, .int 1), (2, .int 0), (3, .int 0)], [.ref 66], jzv183) : jS)) rfl ?_
  refine jl_s (S' := ((33, [(0, .ref 66), (1, .int 1), (2, .int 0), (3, .int 0)], [.int 1], jzv183) : jS)) rfl ?_
  refine jl_s (S' := ((36, [(0, .ref 66), (1, .int 1), (2, .int 0), (3, .int 0)], [], jzv183) : jS)) rfl ?_
  refine jl_s (S' := ((37, [(0, .ref 66), (1, .int 1), (2, .int 0), (3, .int 0)], [.int 1], jzv183) : jS)) rfl ?_
  refine jl_s (S' := ((41, [(0, .ref 66), (1, .int 1), (2, .int 0), (3, .int 0)], [.int 1], jzv183) : jS)) rfl ?_
  exact jl_r (r := (.inl (some (.int 1)), jzv183)) rfl
set_option maxHeartbeats 4000000 in
set_option maxRecDepth 100000 in
theorem jzq821 (xs : Nat → Int32) (b0 b1 b2 b3 : Int32) {f : Nat} : jLoop (jRun ((4, xs) : jX) 2000 38) ((4, xs) : jX) jm248 (f + 13) ((7, [(4, .int 32), (3, .int 1), (2, .int 1), (5, .int (b3)), (0, .ref 66), (1, .int (xs 1))], [], jzv182) : jS) = some (.inl (some (.int 0)), jzv183) := by
  refine jl_s (S' := ((9, [(4, .int 32), (3, .int 1), (2, .int 1), (5, .int (b3)), (0, .ref 66), (1, .int (xs 1))], [.int 32], jzv182) : jS)) rfl ?_
  refine jl_s (S' := ((11, [(4, .int 32), (3, .int 1), (2, .int 1), (5, .int (b3)), (0, .ref 66), (1, .int (xs 1))], [.int 32, .int 32], jzv182) : jS)) rfl ?_
  refine jl_s (S' := ((66, [(4, .int 32), (3, .int 1), (2, .int 1), (5, .int (b3)), (0, .ref 66), (1, .int (xs 1))], [], jzv182) : jS)) rfl ?_
  refine jl_s (S' := ((67, [(4, .int 32), (3, .int 1), (2, .int 1), (5, .int (b3)), (0, .ref 66), (1, .int (xs 1))], [.ref 66], jzv182) : jS)) rfl ?_
  refine jl_s (S' := ((68, [(4, .int 32), (3, .int 1), (2, .int 1), (5, .int (b3)), (0, .ref 66), (1, .int (xs 1))], [.int 1, .ref 66], jzv182) : jS)) rfl ?_
  refine jl_s (S' := ((69, [(4, .int 32), (3, .int 1), (2, .int 1), (5, .int (b3)), (0, .ref 66), (1, .int (xs 1))], [.int 1, .int 1, .ref 66], jzv182) : jS)) rfl ?_
  refine jl_s (S' := ((88, [(4, .int 32), (3, .int 1), (2, .int 1), (5, .int (b3)), (0, .ref 66), (1, .int (xs 1))], [.int 1, .ref 66], jzv182) : jS)) rfl ?_
  refine jl_s (S' := ((89, [(4, .int 32), (3, .int 1), (2, .int 1), (5, .int (b3)), (0, .ref 66), (1, .int (xs 1))], [.int 0, .int 1, .ref 66], jzv182) : jS)) rfl ?_
  refine jl_s (S' := ((90, [(4, .int 32), (3, .int 1), (2, .int 1), (5, .int (b3)), (0, .ref 66), (1, .int (xs 1))], [.int 0, .int 0, .int 1, .ref 66], jzv182) : jS)) rfl ?_
  refine jl_c (t := 245) (as := [.ref 66, .int 1, .int 0, .int 0]) (V := jzv182) (r := (.inl (some (.int 1)), jzv183)) (S' := ((93, [(4, .int 32), (3, .int 1), (2, .int 1), (5, .int (b3)), (0, .ref 66), (1, .int (xs 1))], [.int 1], jzv183) : jS)) rfl (jzl819 xs b0 b1 b2 b3) rfl ?_
  refine jl_s (S' := ((96, [(4, .int 32), (3, .int 1), (2, .int 1), (5, .int (b3)), (0, .ref 66), (1, .int (xs 1))], [], jzv183) : jS)) rfl ?_
  refine jl_s (S' := ((97, [(4, .int 32), (3, .int 1), (2, .int 1), (5, .int (b3)), (0, .ref 66), (1, .int (xs 1))], [.int 0], jzv183) : jS)) rfl ?_
  exact jl_r (r := (.inl (some (.int 0)), jzv183)) rfl
set_option maxHeartbeats 4000000 in
set_option maxRecDepth 100000 in
theorem jzl822 (xs : Nat → Int32) (b0 b1 b2 b3 : Int32) : jRun ((4, xs) : jX) 2000 38 245 [.ref 66, .int 1, .int 0, .int 0] jzv182 = some (.inl (some (.int 1)), jzv183) := by
  refine jr_run (e := jm245) rfl (Nat.le_of_ble_eq_true rfl) ?_
  refine jl_s (S' := ((1, [(0, .ref 66), (1, .int 1), (2, .int 0), (3, .int 0)], [.ref 66], jzv182) : jS)) rfl ?_
  refine jl_s (S' := ((2, [(0, .ref 66), (1, .int 1), (2, .int 0), (3, .int 0)], [.int 1, .ref 66], jzv182) : jS)) rfl ?_
  refine jl_s (S' := ((5, [(0, .ref 66), (1, .int 1), (2, .int 0), (3, .int 0)], [.ref 66], jzv182) : jS)) rfl ?_
  refine jl_s (S' := ((6, [(0, .ref 66), (1, .int 1), (2, .int 0), (3, .int 0)], [.int 1, .ref 66], jzv182) : jS)) rfl ?_
  refine jl_s (S' := ((26, [(0, .ref 66), (1, .int 1), (2, .int 0), (3, .int 0)], [.int 1, .ref 66], jzv182) : jS)) rfl ?_
  refine jl_s (S' := ((29, [(0, .ref 66), (1, .int 1), (2, .int 0), (3, .int 0)], [], jzv183) : jS)) rfl ?_
  refine jl_s (S' := ((30, [(0, .ref 66), (1, .int 1), (2, .int 0), (3, .int 0)], [.ref 66], jzv183) : jS)) rfl ?_
  refine jl_s (S' := ((33, [(0, .ref 66), (1, .int 1), (2, .int 0), (3, .int 0)], [.int 1], jzv183) : jS)) rfl ?_
  refine jl_s (S' := ((36, [(0, .ref 66), (1, .int 1), (2, .int 0), (3, .int 0)], [], jzv183) : jS)) rfl ?_
  refine jl_s (S' := ((37, [(0, .ref 66), (1, .int 1), (2, .int 0), (3, .int 0)], [.int 1], jzv183) : jS)) rfl ?_
  refine jl_s (S' := ((41, [(0, .ref 66), (1, .int 1), (2, .int 0), (3, .int 0)], [.int 1], jzv183) : jS)) rfl ?_
  exact jl_r (r := (.inl (some (.int 1)), jzv183)) rfl
set_option maxHeartbeats 4000000 in
set_option maxRecDepth 100000 in
theorem jzq824 (xs : Nat → Int32) (b0 b1 b2 b3 : Int32) {f : Nat} : jLoop (jRun ((4, xs) : jX) 2000 38) ((4, xs) : jX) jm248 (f + 13) ((7, [(4, .int 32), (3, .int 2), (2, .int 1), (5, .int (b3)), (0, .ref 66), (1, .int (xs 1))], [], jzv182) : jS) = some (.inl (some (.int 0)), jzv183) := by
  refine jl_s (S' := ((9, [(4, .int 32), (3, .int 2), (2, .int 1), (5, .int (b3)), (0, .ref 66), (1, .int (xs 1))], [.int 32], jzv182) : jS)) rfl ?_
  refine jl_s (S' := ((11, [(4, .int 32), (3, .int 2), (2, .int 1), (5, .int (b3)), (0, .ref 66), (1, .int (xs 1))], [.int 32, .int 32], jzv182) : jS)) rfl ?_
  refine jl_s (S' := ((66, [(4, .int 32), (3, .int 2), (2, .int 1), (5, .int (b3)), (0, .ref 66), (1, .int (xs 1))], [], jzv182) : jS)) rfl ?_
  refine jl_s (S' := ((67, [(4, .int 32), (3, .int 2), (2, .int 1), (5, .int (b3)), (0, .ref 66), (1, .int (xs 1))], [.ref 66], jzv182) : jS)) rfl ?_
  refine jl_s (S' := ((68, [(4, .int 32), (3, .int 2), (2, .int 1), (5, .int (b3)), (0, .ref 66), (1, .int (xs 1))], [.int 1, .ref 66], jzv182) : jS)) rfl ?_
  refine jl_s (S' := ((69, [(4, .int 32), (3, .int 2), (2, .int 1), (5, .int (b3)), (0, .ref 66), (1, .int (xs 1))], [.int 1, .int 1, .ref 66], jzv182) : jS)) rfl ?_
  refine jl_s (S' := ((88, [(4, .int 32), (3, .int 2), (2, .int 1), (5, .int (b3)), (0, .ref 66), (1, .int (xs 1))], [.int 1, .ref 66], jzv182) : jS)) rfl ?_
  refine jl_s (S' := ((89, [(4, .int 32), (3, .int 2), (2, .int 1), (5, .int (b3)), (0, .ref 66), (1, .int (xs 1))], [.int 0, .int 1, .ref 66], jzv182) : jS)) rfl ?_
  refine jl_s (S' := ((90, [(4, .int 32), (3, .int 2), (2, .int 1), (5, .int (b3)), (0, .ref 66), (1, .int (xs 1))], [.int 0, .int 0, .int 1, .ref 66], jzv182) : jS)) rfl ?_
  refine jl_c (t := 245) (as := [.ref 66, .int 1, .int 0, .int 0]) (V := jzv182) (r := (.inl (some (.int 1)), jzv183)) (S' := ((93, [(4, .int 32), (3, .int 2), (2, .int 1), (5, .int (b3)), (0, .ref 66), (1, .int (xs 1))], [.int 1], jzv183) : jS)) rfl (jzl822 xs b0 b1 b2 b3) rfl ?_
  refine jl_s (S' := ((96, [(4, .int 32), (3, .int 2), (2, .int 1), (5, .int (b3)), (0, .ref 66), (1, .int (xs 1))], [], jzv183) : jS)) rfl ?_
  refine jl_s (S' := ((97, [(4, .int 32), (3, .int 2), (2, .int 1), (5, .int (b3)), (0, .ref 66), (1, .int (xs 1))], [.int 0], jzv183) : jS)) rfl ?_
  exact jl_r (r := (.inl (some (.int 0)), jzv183)) rfl
set_option maxHeartbeats 4000000 in
set_option maxRecDepth 100000 in
theorem jzri825 (xs : Nat → Int32) (b0 b1 b2 b3 : Int32) (e3 : ((xs 1) >>> (24 &&& 31)) &&& 255 = b3) (h : jbJ3 b3) {f : Nat} : jLoop (jRun ((4, xs) : jX) 2000 38) ((4, xs) : jX) jm248 (f + 120) ((7, [(4, .int 24), (3, .int 1), (2, .int 1), (5, .int (b2)), (0, .ref 66), (1, .int (xs 1))], [], jzv182) : jS) = some (.inl (some (.int 0)), jzv183) := by
  rcases h with h | h
  · exact jzq816 xs b0 b1 b2 b3 e3 h (jzq821 xs b0 b1 b2 b3)
  · exact jzq818 xs b0 b1 b2 b3 e3 h (jzq824 xs b0 b1 b2 b3)
set_option maxHeartbeats 4000000 in
set_option maxRecDepth 100000 in
theorem jzq827 (xs : Nat → Int32) (b0 b1 b2 b3 : Int32) (e : ((xs 1) >>> (24 &&& 31)) &&& 255 = b3) (h : jbz b3) {f : Nat} {q : jO × jH} (hq : jLoop (jRun ((4, xs) : jX) 2000 38) ((4, xs) : jX) jm248 f ((7, [(4, .int 32), (3, .int 2), (2, .int 1), (5, .int (b3)), (0, .ref 66), (1, .int (xs 1))], [], jzv182) : jS) = some q) : jLoop (jRun ((4, xs) : jX) 2000 38) ((4, xs) : jX) jm248 (f + 20) ((7, [(4, .int 24), (3, .int 2), (2, .int 1), (5, .int (b2)), (0, .ref 66), (1, .int (xs 1))], [], jzv182) : jS) = some q := by
  refine jl_s (S' := ((9, [(4, .int 24), (3, .int 2), (2, .int 1), (5, .int (b2)), (0, .ref 66), (1, .int (xs 1))], [.int 24], jzv182) : jS)) rfl ?_
  refine jl_s (S' := ((11, [(4, .int 24), (3, .int 2), (2, .int 1), (5, .int (b2)), (0, .ref 66), (1, .int (xs 1))], [.int 32, .int 24], jzv182) : jS)) rfl ?_
  refine jl_s (S' := ((14, [(4, .int 24), (3, .int 2), (2, .int 1), (5, .int (b2)), (0, .ref 66), (1, .int (xs 1))], [], jzv182) : jS)) rfl ?_
  refine jl_s (S' := ((15, [(4, .int 24), (3, .int 2), (2, .int 1), (5, .int (b2)), (0, .ref 66), (1, .int (xs 1))], [.int (xs 1)], jzv182) : jS)) rfl ?_
  refine jl_s (S' := ((17, [(4, .int 24), (3, .int 2), (2, .int 1), (5, .int (b2)), (0, .ref 66), (1, .int (xs 1))], [.int 24, .int (xs 1)], jzv182) : jS)) rfl ?_
  refine jl_s (S' := ((18, [(4, .int 24), (3, .int 2), (2, .int 1), (5, .int (b2)), (0, .ref 66), (1, .int (xs 1))], [.int ((xs 1) >>> (24 &&& 31))], jzv182) : jS)) rfl ?_
  refine jl_s (S' := ((21, [(4, .int 24), (3, .int 2), (2, .int 1), (5, .int (b2)), (0, .ref 66), (1, .int (xs 1))], [.int 255, .int ((xs 1) >>> (24 &&& 31))], jzv182) : jS)) rfl ?_
  refine jl_s (S' := ((22, [(4, .int 24), (3, .int 2), (2, .int 1), (5, .int (b2)), (0, .ref 66), (1, .int (xs 1))], [.int (((xs 1) >>> (24 &&& 31)) &&& 255)], jzv182) : jS)) rfl ?_
  rw [e]
  refine jl_s (S' := ((24, [(5, .int (b3)), (4, .int 24), (3, .int 2), (2, .int 1), (0, .ref 66), (1, .int (xs 1))], [], jzv182) : jS)) rfl ?_
  refine jl_s (S' := ((25, [(5, .int (b3)), (4, .int 24), (3, .int 2), (2, .int 1), (0, .ref 66), (1, .int (xs 1))], [.int 1], jzv182) : jS)) rfl ?_
  refine jl_s (S' := ((41, [(5, .int (b3)), (4, .int 24), (3, .int 2), (2, .int 1), (0, .ref 66), (1, .int (xs 1))], [], jzv182) : jS)) rfl ?_
  refine jl_s (S' := ((42, [(5, .int (b3)), (4, .int 24), (3, .int 2), (2, .int 1), (0, .ref 66), (1, .int (xs 1))], [.int 1], jzv182) : jS)) rfl ?_
  refine jl_s (S' := ((46, [(5, .int (b3)), (4, .int 24), (3, .int 2), (2, .int 1), (0, .ref 66), (1, .int (xs 1))], [.int 1], jzv182) : jS)) rfl ?_
  refine jl_s (S' := ((47, [(2, .int 1), (5, .int (b3)), (4, .int 24), (3, .int 2), (0, .ref 66), (1, .int (xs 1))], [], jzv182) : jS)) rfl ?_
  refine jl_s (S' := ((49, [(2, .int 1), (5, .int (b3)), (4, .int 24), (3, .int 2), (0, .ref 66), (1, .int (xs 1))], [.int (b3)], jzv182) : jS)) rfl ?_
  refine jl_ift (e := jm248) (o := 9) rfl (h.1) (t := 58) rfl ?_
  refine jl_s (S' := ((59, [(2, .int 1), (5, .int (b3)), (4, .int 24), (3, .int 2), (0, .ref 66), (1, .int (xs 1))], [.int 2], jzv182) : jS)) rfl ?_
  refine jl_s (S' := ((60, [(3, .int 2), (2, .int 1), (5, .int (b3)), (4, .int 24), (0, .ref 66), (1, .int (xs 1))], [], jzv182) : jS)) rfl ?_
  refine jl_s (S' := ((63, [(4, .int 32), (3, .int 2), (2, .int 1), (5, .int (b3)), (0, .ref 66), (1, .int (xs 1))], [], jzv182) : jS)) rfl ?_
  refine jl_s (S' := ((7, [(4, .int 32), (3, .int 2), (2, .int 1), (5, .int (b3)), (0, .ref 66), (1, .int (xs 1))], [], jzv182) : jS)) rfl ?_
  exact hq
set_option maxHeartbeats 4000000 in
set_option maxRecDepth 100000 in
theorem jzq829 (xs : Nat → Int32) (b0 b1 b2 b3 : Int32) (e : ((xs 1) >>> (24 &&& 31)) &&& 255 = b3) (h : jbn b3) {f : Nat} {q : jO × jH} (hq : jLoop (jRun ((4, xs) : jX) 2000 38) ((4, xs) : jX) jm248 f ((7, [(4, .int 32), (3, .int 3), (2, .int 1), (5, .int (b3)), (0, .ref 66), (1, .int (xs 1))], [], jzv182) : jS) = some q) : jLoop (jRun ((4, xs) : jX) 2000 38) ((4, xs) : jX) jm248 (f + 23) ((7, [(4, .int 24), (3, .int 2), (2, .int 1), (5, .int (b2)), (0, .ref 66), (1, .int (xs 1))], [], jzv182) : jS) = some q := by
  refine jl_s (S' := ((9, [(4, .int 24), (3, .int 2), (2, .int 1), (5, .int (b2)), (0, .ref 66), (1, .int (xs 1))], [.int 24], jzv182) : jS)) rfl ?_
  refine jl_s (S' := ((11, [(4, .int 24), (3, .int 2), (2, .int 1), (5, .int (b2)), (0, .ref 66), (1, .int (xs 1))], [.int 32, .int 24], jzv182) : jS)) rfl ?_
  refine jl_s (S' := ((14, [(4, .int 24), (3, .int 2), (2, .int 1), (5, .int (b2)), (0, .ref 66), (1, .int (xs 1))], [], jzv182) : jS)) rfl ?_
  refine jl_s (S' := ((15, [(4, .int 24), (3, .int 2), (2, .int 1), (5, .int (b2)), (0, .ref 66), (1, .int (xs 1))], [.int (xs 1)], jzv182) : jS)) rfl ?_
  refine jl_s (S' := ((17, [(4, .int 24), (3, .int 2), (2, .int 1), (5, .int (b2)), (0, .ref 66), (1, .int (xs 1))], [.int 24, .int (xs 1)], jzv182) : jS)) rfl ?_
  refine jl_s (S' := ((18, [(4, .int 24), (3, .int 2), (2, .int 1), (5, .int (b2)), (0, .ref 66), (1, .int (xs 1))], [.int ((xs 1) >>> (24 &&& 31))], jzv182) : jS)) rfl ?_
  refine jl_s (S' := ((21, [(4, .int 24), (3, .int 2), (2, .int 1), (5, .int (b2)), (0, .ref 66), (1, .int (xs 1))], [.int 255, .int ((xs 1) >>> (24 &&& 31))], jzv182) : jS)) rfl ?_
  refine jl_s (S' := ((22, [(4, .int 24), (3, .int 2), (2, .int 1), (5, .int (b2)), (0, .ref 66), (1, .int (xs 1))], [.int (((xs 1) >>> (24 &&& 31)) &&& 255)], jzv182) : jS)) rfl ?_
  rw [e]
  refine jl_s (S' := ((24, [(5, .int (b3)), (4, .int 24), (3, .int 2), (2, .int 1), (0, .ref 66), (1, .int (xs 1))], [], jzv182) : jS)) rfl ?_
  refine jl_s (S' := ((25, [(5, .int (b3)), (4, .int 24), (3, .int 2), (2, .int 1), (0, .ref 66), (1, .int (xs 1))], [.int 1], jzv182) : jS)) rfl ?_
  refine jl_s (S' := ((41, [(5, .int (b3)), (4, .int 24), (3, .int 2), (2, .int 1), (0, .ref 66), (1, .int (xs 1))], [], jzv182) : jS)) rfl ?_
  refine jl_s (S' := ((42, [(5, .int (b3)), (4, .int 24), (3, .int 2), (2, .int 1), (0, .ref 66), (1, .int (xs 1))], [.int 1], jzv182) : jS)) rfl ?_
  refine jl_s (S' := ((46, [(5, .int (b3)), (4, .int 24), (3, .int 2), (2, .int 1), (0, .ref 66), (1, .int (xs 1))], [.int 1], jzv182) : jS)) rfl ?_
  refine jl_s (S' := ((47, [(2, .int 1), (5, .int (b3)), (4, .int 24), (3, .int 2), (0, .ref 66), (1, .int (xs 1))], [], jzv182) : jS)) rfl ?_
  refine jl_s (S' := ((49, [(2, .int 1), (5, .int (b3)), (4, .int 24), (3, .int 2), (0, .ref 66), (1, .int (xs 1))], [.int (b3)], jzv182) : jS)) rfl ?_
  refine jl_iff (e := jm248) (o := 9) rfl (h.1) ?_
  refine jl_s (S' := ((53, [(2, .int 1), (5, .int (b3)), (4, .int 24), (3, .int 2), (0, .ref 66), (1, .int (xs 1))], [.int 2], jzv182) : jS)) rfl ?_
  refine jl_s (S' := ((54, [(2, .int 1), (5, .int (b3)), (4, .int 24), (3, .int 2), (0, .ref 66), (1, .int (xs 1))], [.int 1, .int 2], jzv182) : jS)) rfl ?_
  refine jl_s (S' := ((55, [(2, .int 1), (5, .int (b3)), (4, .int 24), (3, .int 2), (0, .ref 66), (1, .int (xs 1))], [.int 3], jzv182) : jS)) rfl ?_
  refine jl_s (S' := ((59, [(2, .int 1), (5, .int (b3)), (4, .int 24), (3, .int 2), (0, .ref 66), (1, .int (xs 1))], [.int 3], jzv182) : jS)) rfl ?_
  refine jl_s (S' := ((60, [(3, .int 3), (2, .int 1), (5, .int (b3)), (4, .int 24), (0, .ref 66), (1, .int (xs 1))], [], jzv182) : jS)) rfl ?_
  refine jl_s (S' := ((63, [(4, .int 32), (3, .int 3), (2, .int 1), (5, .int (b3)), (0, .ref 66), (1, .int (xs 1))], [], jzv182) : jS)) rfl ?_
  refine jl_s (S' := ((7, [(4, .int 32), (3, .int 3), (2, .int 1), (5, .int (b3)), (0, .ref 66), (1, .int (xs 1))], [], jzv182) : jS)) rfl ?_
  exact hq
set_option maxHeartbeats 4000000 in
set_option maxRecDepth 100000 in
theorem jzl830 (xs : Nat → Int32) (b0 b1 b2 b3 : Int32) : jRun ((4, xs) : jX) 2000 38 245 [.ref 66, .int 1, .int 0, .int 0] jzv182 = some (.inl (some (.int 1)), jzv183) := by
  refine jr_run (e := jm245) rfl (Nat.le_of_ble_eq_true rfl) ?_
  refine jl_s (S' := ((1, [(0, .ref 66), (1, .int 1), (2, .int 0), (3, .int 0)], [.ref 66], jzv182) : jS)) rfl ?_
  refine jl_s (S' := ((2, [(0, .ref 66), (1, .int 1), (2, .int 0), (3, .int 0)], [.int 1, .ref 66], jzv182) : jS)) rfl ?_
  refine jl_s (S' := ((5, [(0, .ref 66), (1, .int 1), (2, .int 0), (3, .int 0)], [.ref 66], jzv182) : jS)) rfl ?_
  refine jl_s (S' := ((6, [(0, .ref 66), (1, .int 1), (2, .int 0), (3, .int 0)], [.int 1, .ref 66], jzv182) : jS)) rfl ?_
  refine jl_s (S' := ((26, [(0, .ref 66), (1, .int 1), (2, .int 0), (3, .int 0)], [.int 1, .ref 66], jzv182) : jS)) rfl ?_
  refine jl_s (S' := ((29, [(0, .ref 66), (1, .int 1), (2, .int 0), (3, .int 0)], [], jzv183) : jS)) rfl ?_
  refine jl_s (S' := ((30, [(0, .ref 66), (1, .int 1), (2, .int 0), (3, .int 0)], [.ref 66], jzv183) : jS)) rfl ?_
  refine jl_s (S' := ((33, [(0, .ref 66), (1, .int 1), (2, .int 0), (3, .int 0)], [.int 1], jzv183) : jS)) rfl ?_
  refine jl_s (S' := ((36, [(0, .ref 66), (1, .int 1), (2, .int 0), (3, .int 0)], [], jzv183) : jS)) rfl ?_
  refine jl_s (S' := ((37, [(0, .ref 66), (1, .int 1), (2, .int 0), (3, .int 0)], [.int 1], jzv183) : jS)) rfl ?_
  refine jl_s (S' := ((41, [(0, .ref 66), (1, .int 1), (2, .int 0), (3, .int 0)], [.int 1], jzv183) : jS)) rfl ?_
  exact jl_r (r := (.inl (some (.int 1)), jzv183)) rfl
set_option maxHeartbeats 4000000 in
set_option maxRecDepth 100000 in
theorem jzq832 (xs : Nat → Int32) (b0 b1 b2 b3 : Int32) {f : Nat} : jLoop (jRun ((4, xs) : jX) 2000 38) ((4, xs) : jX) jm248 (f + 13) ((7, [(4, .int 32), (3, .int 3), (2, .int 1), (5, .int (b3)), (0, .ref 66), (1, .int (xs 1))], [], jzv182) : jS) = some (.inl (some (.int 0)), jzv183) := by
  refine jl_s (S' := ((9, [(4, .int 32), (3, .int 3), (2, .int 1), (5, .int (b3)), (0, .ref 66), (1, .int (xs 1))], [.int 32], jzv182) : jS)) rfl ?_
  refine jl_s (S' := ((11, [(4, .int 32), (3, .int 3), (2, .int 1), (5, .int (b3)), (0, .ref 66), (1, .int (xs 1))], [.int 32, .int 32], jzv182) : jS)) rfl ?_
  refine jl_s (S' := ((66, [(4, .int 32), (3, .int 3), (2, .int 1), (5, .int (b3)), (0, .ref 66), (1, .int (xs 1))], [], jzv182) : jS)) rfl ?_
  refine jl_s (S' := ((67, [(4, .int 32), (3, .int 3), (2, .int 1), (5, .int (b3)), (0, .ref 66), (1, .int (xs 1))], [.ref 66], jzv182) : jS)) rfl ?_
  refine jl_s (S' := ((68, [(4, .int 32), (3, .int 3), (2, .int 1), (5, .int (b3)), (0, .ref 66), (1, .int (xs 1))], [.int 1, .ref 66], jzv182) : jS)) rfl ?_
  refine jl_s (S' := ((69, [(4, .int 32), (3, .int 3), (2, .int 1), (5, .int (b3)), (0, .ref 66), (1, .int (xs 1))], [.int 1, .int 1, .ref 66], jzv182) : jS)) rfl ?_
  refine jl_s (S' := ((88, [(4, .int 32), (3, .int 3), (2, .int 1), (5, .int (b3)), (0, .ref 66), (1, .int (xs 1))], [.int 1, .ref 66], jzv182) : jS)) rfl ?_
  refine jl_s (S' := ((89, [(4, .int 32), (3, .int 3), (2, .int 1), (5, .int (b3)), (0, .ref 66), (1, .int (xs 1))], [.int 0, .int 1, .ref 66], jzv182) : jS)) rfl ?_
  refine jl_s (S' := ((90, [(4, .int 32), (3, .int 3), (2, .int 1), (5, .int (b3)), (0, .ref 66), (1, .int (xs 1))], [.int 0, .int 0, .int 1, .ref 66], jzv182) : jS)) rfl ?_
  refine jl_c (t := 245) (as := [.ref 66, .int 1, .int 0, .int 0]) (V := jzv182) (r := (.inl (some (.int 1)), jzv183)) (S' := ((93, [(4, .int 32), (3, .int 3), (2, .int 1), (5, .int (b3)), (0, .ref 66), (1, .int (xs 1))], [.int 1], jzv183) : jS)) rfl (jzl830 xs b0 b1 b2 b3) rfl ?_
  refine jl_s (S' := ((96, [(4, .int 32), (3, .int 3), (2, .int 1), (5, .int (b3)), (0, .ref 66), (1, .int (xs 1))], [], jzv183) : jS)) rfl ?_
  refine jl_s (S' := ((97, [(4, .int 32), (3, .int 3), (2, .int 1), (5, .int (b3)), (0, .ref 66), (1, .int (xs 1))], [.int 0], jzv183) : jS)) rfl ?_
  exact jl_r (r := (.inl (some (.int 0)), jzv183)) rfl
set_option maxHeartbeats 4000000 in
set_option maxRecDepth 100000 in
theorem jzri833 (xs : Nat → Int32) (b0 b1 b2 b3 : Int32) (e3 : ((xs 1) >>> (24 &&& 31)) &&& 255 = b3) (h : jbJ3 b3) {f : Nat} : jLoop (jRun ((4, xs) : jX) 2000 38) ((4, xs) : jX) jm248 (f + 120) ((7, [(4, .int 24), (3, .int 2), (2, .int 1), (5, .int (b2)), (0, .ref 66), (1, .int (xs 1))], [], jzv182) : jS) = some (.inl (some (.int 0)), jzv183) := by
  rcases h with h | h
  · exact jzq827 xs b0 b1 b2 b3 e3 h (jzq824 xs b0 b1 b2 b3)
  · exact jzq829 xs b0 b1 b2 b3 e3 h (jzq832 xs b0 b1 b2 b3)
set_option maxHeartbeats 4000000 in
set_option maxRecDepth 100000 in
theorem jzri834 (xs : Nat → Int32) (b0 b1 b2 b3 : Int32) (e2 : ((xs 1) >>> (16 &&& 31)) &&& 255 = b2) (e3 : ((xs 1) >>> (24 &&& 31)) &&& 255 = b3) (h : jbJ2 b2 b3) {f : Nat} : jLoop (jRun ((4, xs) : jX) 2000 38) ((4, xs) : jX) jm248 (f + 180) ((7, [(4, .int 16), (3, .int 1), (2, .int 1), (5, .int (b1)), (0, .ref 66), (1, .int (xs 1))], [], jzv182) : jS) = some (.inl (some (.int 0)), jzv183) := by
  obtain ⟨h | h, h'⟩ := id h
  · exact jzq812 xs b0 b1 b2 b3 e2 h (jzri825 xs b0 b1 b2 b3 e3 h')
  · exact jzq814 xs b0 b1 b2 b3 e2 h (jzri833 xs b0 b1 b2 b3 e3 h')
set_option maxHeartbeats 4000000 in
set_option maxRecDepth 100000 in
theorem jzq836 (xs : Nat → Int32) (b0 b1 b2 b3 : Int32) (e : ((xs 1) >>> (16 &&& 31)) &&& 255 = b2) (h : jbz b2) {f : Nat} {q : jO × jH} (hq : jLoop (jRun ((4, xs) : jX) 2000 38) ((4, xs) : jX) jm248 f ((7, [(4, .int 24), (3, .int 2), (2, .int 1), (5, .int (b2)), (0, .ref 66), (1, .int (xs 1))], [], jzv182) : jS) = some q) : jLoop (jRun ((4, xs) : jX) 2000 38) ((4, xs) : jX) jm248 (f + 20) ((7, [(4, .int 16), (3, .int 2), (2, .int 1), (5, .int (b1)), (0, .ref 66), (1, .int (xs 1))], [], jzv182) : jS) = some q := by
  refine jl_s (S' := ((9, [(4, .int 16), (3, .int 2), (2, .int 1), (5, .int (b1)), (0, .ref 66), (1, .int (xs 1))], [.int 16], jzv182) : jS)) rfl ?_
  refine jl_s (S' := ((11, [(4, .int 16), (3, .int 2), (2, .int 1), (5, .int (b1)), (0, .ref 66), (1, .int (xs 1))], [.int 32, .int 16], jzv182) : jS)) rfl ?_
  refine jl_s (S' := ((14, [(4, .int 16), (3, .int 2), (2, .int 1), (5, .int (b1)), (0, .ref 66), (1, .int (xs 1))], [], jzv182) : jS)) rfl ?_
  refine jl_s (S' := ((15, [(4, .int 16), (3, .int 2), (2, .int 1), (5, .int (b1)), (0, .ref 66), (1, .int (xs 1))], [.int (xs 1)], jzv182) : jS)) rfl ?_
  refine jl_s (S' := ((17, [(4, .int 16), (3, .int 2), (2, .int 1), (5, .int (b1)), (0, .ref 66), (1, .int (xs 1))], [.int 16, .int (xs 1)], jzv182) : jS)) rfl ?_
  refine jl_s (S' := ((18, [(4, .int 16), (3, .int 2), (2, .int 1), (5, .int (b1)), (0, .ref 66), (1, .int (xs 1))], [.int ((xs 1) >>> (16 &&& 31))], jzv182) : jS)) rfl ?_
  refine jl_s (S' := ((21, [(4, .int 16), (3, .int 2), (2, .int 1), (5, .int (b1)), (0, .ref 66), (1, .int (xs 1))], [.int 255, .int ((xs 1) >>> (16 &&& 31))], jzv182) : jS)) rfl ?_
  refine jl_s (S' := ((22, [(4, .int 16), (3, .int 2), (2, .int 1), (5, .int (b1)), (0, .ref 66), (1, .int (xs 1))], [.int (((xs 1) >>> (16 &&& 31)) &&& 255)], jzv182) : jS)) rfl ?_
  rw [e]
  refine jl_s (S' := ((24, [(5, .int (b2)), (4, .int 16), (3, .int 2), (2, .int 1), (0, .ref 66), (1, .int (xs 1))], [], jzv182) : jS)) rfl ?_
  refine jl_s (S' := ((25, [(5, .int (b2)), (4, .int 16), (3, .int 2), (2, .int 1), (0, .ref 66), (1, .int (xs 1))], [.int 1], jzv182) : jS)) rfl ?_
  refine jl_s (S' := ((41, [(5, .int (b2)), (4, .int 16), (3, .int 2), (2, .int 1), (0, .ref 66), (1, .int (xs 1))], [], jzv182) : jS)) rfl ?_
  refine jl_s (S' := ((42, [(5, .int (b2)), (4, .int 16), (3, .int 2), (2, .int 1), (0, .ref 66), (1, .int (xs 1))], [.int 1], jzv182) : jS)) rfl ?_
  refine jl_s (S' := ((46, [(5, .int (b2)), (4, .int 16), (3, .int 2), (2, .int 1), (0, .ref 66), (1, .int (xs 1))], [.int 1], jzv182) : jS)) rfl ?_
  refine jl_s (S' := ((47, [(2, .int 1), (5, .int (b2)), (4, .int 16), (3, .int 2), (0, .ref 66), (1, .int (xs 1))], [], jzv182) : jS)) rfl ?_
  refine jl_s (S' := ((49, [(2, .int 1), (5, .int (b2)), (4, .int 16), (3, .int 2), (0, .ref 66), (1, .int (xs 1))], [.int (b2)], jzv182) : jS)) rfl ?_
  refine jl_ift (e := jm248) (o := 9) rfl (h.1) (t := 58) rfl ?_
  refine jl_s (S' := ((59, [(2, .int 1), (5, .int (b2)), (4, .int 16), (3, .int 2), (0, .ref 66), (1, .int (xs 1))], [.int 2], jzv182) : jS)) rfl ?_
  refine jl_s (S' := ((60, [(3, .int 2), (2, .int 1), (5, .int (b2)), (4, .int 16), (0, .ref 66), (1, .int (xs 1))], [], jzv182) : jS)) rfl ?_
  refine jl_s (S' := ((63, [(4, .int 24), (3, .int 2), (2, .int 1), (5, .int (b2)), (0, .ref 66), (1, .int (xs 1))], [], jzv182) : jS)) rfl ?_
  refine jl_s (S' := ((7, [(4, .int 24), (3, .int 2), (2, .int 1), (5, .int (b2)), (0, .ref 66), (1, .int (xs 1))], [], jzv182) : jS)) rfl ?_
  exact hq
set_option maxHeartbeats 4000000 in
set_option maxRecDepth 100000 in
theorem jzq838 (xs : Nat → Int32) (b0 b1 b2 b3 : Int32) (e : ((xs 1) >>> (16 &&& 31)) &&& 255 = b2) (h : jbn b2) {f : Nat} {q : jO × jH} (hq : jLoop (jRun ((4, xs) : jX) 2000 38) ((4, xs) : jX) jm248 f ((7, [(4, .int 24), (3, .int 3), (2, .int 1), (5, .int (b2)), (0, .ref 66), (1, .int (xs 1))], [], jzv182) : jS) = some q) : jLoop (jRun ((4, xs) : jX) 2000 38) ((4, xs) : jX) jm248 (f + 23) ((7, [(4, .int 16), (3, .int 2), (2, .int 1), (5, .int (b1)), (0, .ref 66), (1, .int (xs 1))], [], jzv182) : jS) = some q := by
  refine jl_s (S' := ((9, [(4, .int 16), (3, .int 2), (2, .int 1), (5, .int (b1)), (0, .ref 66), (1, .int (xs 1))], [.int 16], jzv182) : jS)) rfl ?_
  refine jl_s (S' := ((11, [(4, .int 16), (3, .int 2), (2, .int 1), (5, .int (b1)), (0, .ref 66), (1, .int (xs 1))], [.int 32, .int 16], jzv182) : jS)) rfl ?_
  refine jl_s (S' := ((14, [(4, .int 16), (3, .int 2), (2, .int 1), (5, .int (b1)), (0, .ref 66), (1, .int (xs 1))], [], jzv182) : jS)) rfl ?_
  refine jl_s (S' := ((15, [(4, .int 16), (3, .int 2), (2, .int 1), (5, .int (b1)), (0, .ref 66), (1, .int (xs 1))], [.int (xs 1)], jzv182) : jS)) rfl ?_
  refine jl_s (S' := ((17, [(4, .int 16), (3, .int 2), (2, .int 1), (5, .int (b1)), (0, .ref 66), (1, .int (xs 1))], [.int 16, .int (xs 1)], jzv182) : jS)) rfl ?_
  refine jl_s (S' := ((18, [(4, .int 16), (3, .int 2), (2, .int 1), (5, .int (b1)), (0, .ref 66), (1, .int (xs 1))], [.int ((xs 1) >>> (16 &&& 31))], jzv182) : jS)) rfl ?_
  refine jl_s (S' := ((21, [(4, .int 16), (3, .int 2), (2, .int 1), (5, .int (b1)), (0, .ref 66), (1, .int (xs 1))], [.int 255, .int ((xs 1) >>> (16 &&& 31))], jzv182) : jS)) rfl ?_
  refine jl_s (S' := ((22, [(4, .int 16), (3, .int 2), (2, .int 1), (5, .int (b1)), (0, .ref 66), (1, .int (xs 1))], [.int (((xs 1) >>> (16 &&& 31)) &&& 255)], jzv182) : jS)) rfl ?_
  rw [e]
  refine jl_s (S' := ((24, [(5, .int (b2)), (4, .int 16), (3, .int 2), (2, .int 1), (0, .ref 66), (1, .int (xs 1))], [], jzv182) : jS)) rfl ?_
  refine jl_s (S' := ((25, [(5, .int (b2)), (4, .int 16), (3, .int 2), (2, .int 1), (0, .ref 66), (1, .int (xs 1))], [.int 1], jzv182) : jS)) rfl ?_
  refine jl_s (S' := ((41, [(5, .int (b2)), (4, .int 16), (3, .int 2), (2, .int 1), (0, .ref 66), (1, .int (xs 1))], [], jzv182) : jS)) rfl ?_
  refine jl_s (S' := ((42, [(5, .int (b2)), (4, .int 16), (3, .int 2), (2, .int 1), (0, .ref 66), (1, .int (xs 1))], [.int 1], jzv182) : jS)) rfl ?_
  refine jl_s (S' := ((46, [(5, .int (b2)), (4, .int 16), (3, .int 2), (2, .int 1), (0, .ref 66), (1, .int (xs 1))], [.int 1], jzv182) : jS)) rfl ?_
  refine jl_s (S' := ((47, [(2, .int 1), (5, .int (b2)), (4, .int 16), (3, .int 2), (0, .ref 66), (1, .int (xs 1))], [], jzv182) : jS)) rfl ?_
  refine jl_s (S' := ((49, [(2, .int 1), (5, .int (b2)), (4, .int 16), (3, .int 2), (0, .ref 66), (1, .int (xs 1))], [.int (b2)], jzv182) : jS)) rfl ?_
  refine jl_iff (e := jm248) (o := 9) rfl (h.1) ?_
  refine jl_s (S' := ((53, [(2, .int 1), (5, .int (b2)), (4, .int 16), (3, .int 2), (0, .ref 66), (1, .int (xs 1))], [.int 2], jzv182) : jS)) rfl ?_
  refine jl_s (S' := ((54, [(2, .int 1), (5, .int (b2)), (4, .int 16), (3, .int 2), (0, .ref 66), (1, .int (xs 1))], [.int 1, .int 2], jzv182) : jS)) rfl ?_
  refine jl_s (S' := ((55, [(2, .int 1), (5, .int (b2)), (4, .int 16), (3, .int 2), (0, .ref 66), (1, .int (xs 1))], [.int 3], jzv182) : jS)) rfl ?_
  refine jl_s (S' := ((59, [(2, .int 1), (5, .int (b2)), (4, .int 16), (3, .int 2), (0, .ref 66), (1, .int (xs 1))], [.int 3], jzv182) : jS)) rfl ?_
  refine jl_s (S' := ((60, [(3, .int 3), (2, .int 1), (5, .int (b2)), (4, .int 16), (0, .ref 66), (1, .int (xs 1))], [], jzv182) : jS)) rfl ?_
  refine jl_s (S' := ((63, [(4, .int 24), (3, .int 3), (2, .int 1), (5, .int (b2)), (0, .ref 66), (1, .int (xs 1))], [], jzv182) : jS)) rfl ?_
  refine jl_s (S' := ((7, [(4, .int 24), (3, .int 3), (2, .int 1), (5, .int (b2)), (0, .ref 66), (1, .int (xs 1))], [], jzv182) : jS)) rfl ?_
  exact hq
set_option maxHeartbeats 4000000 in
set_option maxRecDepth 100000 in
theorem jzq840 (xs : Nat → Int32) (b0 b1 b2 b3 : Int32) (e : ((xs 1) >>> (24 &&& 31)) &&& 255 = b3) (h : jbz b3) {f : Nat} {q : jO × jH} (hq : jLoop (jRun ((4, xs) : jX) 2000 38) ((4, xs) : jX) jm248 f ((7, [(4, .int 32), (3, .int 3), (2, .int 1), (5, .int (b3)), (0, .ref 66), (1, .int (xs 1))], [], jzv182) : jS) = some q) : jLoop (jRun ((4, xs) : jX) 2000 38) ((4, xs) : jX) jm248 (f + 20) ((7, [(4, .int 24), (3, .int 3), (2, .int 1), (5, .int (b2)), (0, .ref 66), (1, .int (xs 1))], [], jzv182) : jS) = some q := by
  refine jl_s (S' := ((9, [(4, .int 24), (3, .int 3), (2, .int 1), (5, .int (b2)), (0, .ref 66), (1, .int (xs 1))], [.int 24], jzv182) : jS)) rfl ?_
  refine jl_s (S' := ((11, [(4, .int 24), (3, .int 3), (2, .int 1), (5, .int (b2)), (0, .ref 66), (1, .int (xs 1))], [.int 32, .int 24], jzv182) : jS)) rfl ?_
  refine jl_s (S' := ((14, [(4, .int 24), (3, .int 3), (2, .int 1), (5, .int (b2)), (0, .ref 66), (1, .int (xs 1))], [], jzv182) : jS)) rfl ?_
  refine jl_s (S' := ((15, [(4, .int 24), (3, .int 3), (2, .int 1), (5, .int (b2)), (0, .ref 66), (1, .int (xs 1))], [.int (xs 1)], jzv182) : jS)) rfl ?_
  refine jl_s (S' := ((17, [(4, .int 24), (3, .int 3), (2, .int 1), (5, .int (b2)), (0, .ref 66), (1, .int (xs 1))], [.int 24, .int (xs 1)], jzv182) : jS)) rfl ?_
  refine jl_s (S' := ((18, [(4, .int 24), (3, .int 3), (2, .int 1), (5, .int (b2)), (0, .ref 66), (1, .int (xs 1))], [.int ((xs 1) >>> (24 &&& 31))], jzv182) : jS)) rfl ?_
  refine jl_s (S' := ((21, [(4, .int 24), (3, .int 3), (2, .int 1), (5, .int (b2)), (0, .ref 66), (1, .int (xs 1))], [.int 255, .int ((xs 1) >>> (24 &&& 31))], jzv182) : jS)) rfl ?_
  refine jl_s (S' := ((22, [(4, .int 24), (3, .int 3), (2, .int 1), (5, .int (b2)), (0, .ref 66), (1, .int (xs 1))], [.int (((xs 1) >>> (24 &&& 31)) &&& 255)], jzv182) : jS)) rfl ?_
  rw [e]
  refine jl_s (S' := ((24, [(5, .int (b3)), (4, .int 24), (3, .int 3), (2, .int 1), (0, .ref 66), (1, .int (xs 1))], [], jzv182) : jS)) rfl ?_
  refine jl_s (S' := ((25, [(5, .int (b3)), (4, .int 24), (3, .int 3), (2, .int 1), (0, .ref 66), (1, .int (xs 1))], [.int 1], jzv182) : jS)) rfl ?_
  refine jl_s (S' := ((41, [(5, .int (b3)), (4, .int 24), (3, .int 3), (2, .int 1), (0, .ref 66), (1, .int (xs 1))], [], jzv182) : jS)) rfl ?_
  refine jl_s (S' := ((42, [(5, .int (b3)), (4, .int 24), (3, .int 3), (2, .int 1), (0, .ref 66), (1, .int (xs 1))], [.int 1], jzv182) : jS)) rfl ?_
  refine jl_s (S' := ((46, [(5, .int (b3)), (4, .int 24), (3, .int 3), (2, .int 1), (0, .ref 66), (1, .int (xs 1))], [.int 1], jzv182) : jS)) rfl ?_
  refine jl_s (S' := ((47, [(2, .int 1), (5, .int (b3)), (4, .int 24), (3, .int 3), (0, .ref 66), (1, .int (xs 1))], [], jzv182) : jS)) rfl ?_
  refine jl_s (S' := ((49, [(2, .int 1), (5, .int (b3)), (4, .int 24), (3, .int 3), (0, .ref 66), (1, .int (xs 1))], [.int (b3)], jzv182) : jS)) rfl ?_
  refine jl_ift (e := jm248) (o := 9) rfl (h.1) (t := 58) rfl ?_
  refine jl_s (S' := ((59, [(2, .int 1), (5, .int (b3)), (4, .int 24), (3, .int 3), (0, .ref 66), (1, .int (xs 1))], [.int 3], jzv182) : jS)) rfl ?_
  refine jl_s (S' := ((60, [(3, .int 3), (2, .int 1), (5, .int (b3)), (4, .int 24), (0, .ref 66), (1, .int (xs 1))], [], jzv182) : jS)) rfl ?_
  refine jl_s (S' := ((63, [(4, .int 32), (3, .int 3), (2, .int 1), (5, .int (b3)), (0, .ref 66), (1, .int (xs 1))], [], jzv182) : jS)) rfl ?_
  refine jl_s (S' := ((7, [(4, .int 32), (3, .int 3), (2, .int 1), (5, .int (b3)), (0, .ref 66), (1, .int (xs 1))], [], jzv182) : jS)) rfl ?_
  exact hq
set_option maxHeartbeats 4000000 in
set_option maxRecDepth 100000 in
theorem jzq842 (xs : Nat → Int32) (b0 b1 b2 b3 : Int32) (e : ((xs 1) >>> (24 &&& 31)) &&& 255 = b3) (h : jbn b3) {f : Nat} {q : jO × jH} (hq : jLoop (jRun ((4, xs) : jX) 2000 38) ((4, xs) : jX) jm248 f ((7, [(4, .int 32), (3, .int 4), (2, .int 1), (5, .int (b3)), (0, .ref 66), (1, .int (xs 1))], [], jzv182) : jS) = some q) : jLoop (jRun ((4, xs) : jX) 2000 38) ((4, xs) : jX) jm248 (f + 23) ((7, [(4, .int 24), (3, .int 3), (2, .int 1), (5, .int (b2)), (0, .ref 66), (1, .int (xs 1))], [], jzv182) : jS) = some q := by
  refine jl_s (S' := ((9, [(4, .int 24), (3, .int 3), (2, .int 1), (5, .int (b2)), (0, .ref 66), (1, .int (xs 1))], [.int 24], jzv182) : jS)) rfl ?_
  refine jl_s (S' := ((11, [(4, .int 24), (3, .int 3), (2, .int 1), (5, .int (b2)), (0, .ref 66), (1, .int (xs 1))], [.int 32, .int 24], jzv182) : jS)) rfl ?_
  refine jl_s (S' := ((14, [(4, .int 24), (3, .int 3), (2, .int 1), (5, .int (b2)), (0, .ref 66), (1, .int (xs 1))], [], jzv182) : jS)) rfl ?_
  refine jl_s (S' := ((15, [(4, .int 24), (3, .int 3), (2, .int 1), (5, .int (b2)), (0, .ref 66), (1, .int (xs 1))], [.int (xs 1)], jzv182) : jS)) rfl ?_
  refine jl_s (S' := ((17, [(4, .int 24), (3, .int 3), (2, .int 1), (5, .int (b2)), (0, .ref 66), (1, .int (xs 1))], [.int 24, .int (xs 1)], jzv182) : jS)) rfl ?_
  refine jl_s (S' := ((18, [(4, .int 24), (3, .int 3), (2, .int 1), (5, .int (b2)), (0, .ref 66), (1, .int (xs 1))], [.int ((xs 1) >>> (24 &&& 31))], jzv182) : jS)) rfl ?_
  refine jl_s (S' := ((21, [(4, .int 24), (3, .int 3), (2, .int 1), (5, .int (b2)), (0, .ref 66), (1, .int (xs 1))], [.int 255, .int ((xs 1) >>> (24 &&& 31))], jzv182) : jS)) rfl ?_
  refine jl_s (S' := ((22, [(4, .int 24), (3, .int 3), (2, .int 1), (5, .int (b2)), (0, .ref 66), (1, .int (xs 1))], [.int (((xs 1) >>> (24 &&& 31)) &&& 255)], jzv182) : jS)) rfl ?_
  rw [e]
  refine jl_s (S' := ((24, [(5, .int (b3)), (4, .int 24), (3, .int 3), (2, .int 1), (0, .ref 66), (1, .int (xs 1))], [], jzv182) : jS)) rfl ?_
  refine jl_s (S' := ((25, [(5, .int (b3)), (4, .int 24), (3, .int 3), (2, .int 1), (0, .ref 66), (1, .int (xs 1))], [.int 1], jzv182) : jS)) rfl ?_
  refine jl_s (S' := ((41, [(5, .int (b3)), (4, .int 24), (3, .int 3), (2, .int 1), (0, .ref 66), (1, .int (xs 1))], [], jzv182) : jS)) rfl ?_
  refine jl_s (S' := ((42, [(5, .int (b3)), (4, .int 24), (3, .int 3), (2, .int 1), (0, .ref 66), (1, .int (xs 1))], [.int 1], jzv182) : jS)) rfl ?_
  refine jl_s (S' := ((46, [(5, .int (b3)), (4, .int 24), (3, .int 3), (2, .int 1), (0, .ref 66), (1, .int (xs 1))], [.int 1], jzv182) : jS)) rfl ?_
  refine jl_s (S' := ((47, [(2, .int 1), (5, .int (b3)), (4, .int 24), (3, .int 3), (0, .ref 66), (1, .int (xs 1))], [], jzv182) : jS)) rfl ?_
  refine jl_s (S' := ((49, [(2, .int 1), (5, .int (b3)), (4, .int 24), (3, .int 3), (0, .ref 66), (1, .int (xs 1))], [.int (b3)], jzv182) : jS)) rfl ?_
  refine jl_iff (e := jm248) (o := 9) rfl (h.1) ?_
  refine jl_s (S' := ((53, [(2, .int 1), (5, .int (b3)), (4, .int 24), (3, .int 3), (0, .ref 66), (1, .int (xs 1))], [.int 3], jzv182) : jS)) rfl ?_
  refine jl_s (S' := ((54, [(2, .int 1), (5, .int (b3)), (4, .int 24), (3, .int 3), (0, .ref 66), (1, .int (xs 1))], [.int 1, .int 3], jzv182) : jS)) rfl ?_
  refine jl_s (S' := ((55, [(2, .int 1), (5, .int (b3)), (4, .int 24), (3, .int 3), (0, .ref 66), (1, .int (xs 1))], [.int 4], jzv182) : jS)) rfl ?_
  refine jl_s (S' := ((59, [(2, .int 1), (5, .int (b3)), (4, .int 24), (3, .int 3), (0, .ref 66), (1, .int (xs 1))], [.int 4], jzv182) : jS)) rfl ?_
  refine jl_s (S' := ((60, [(3, .int 4), (2, .int 1), (5, .int (b3)), (4, .int 24), (0, .ref 66), (1, .int (xs 1))], [], jzv182) : jS)) rfl ?_
  refine jl_s (S' := ((63, [(4, .int 32), (3, .int 4), (2, .int 1), (5, .int (b3)), (0, .ref 66), (1, .int (xs 1))], [], jzv182) : jS)) rfl ?_
  refine jl_s (S' := ((7, [(4, .int 32), (3, .int 4), (2, .int 1), (5, .int (b3)), (0, .ref 66), (1, .int (xs 1))], [], jzv182) : jS)) rfl ?_
  exact hq
set_option maxHeartbeats 4000000 in
set_option maxRecDepth 100000 in
theorem jzl843 (xs : Nat → Int32) (b0 b1 b2 b3 : Int32) : jRun ((4, xs) : jX) 2000 38 245 [.ref 66, .int 1, .int 0, .int 0] jzv182 = some (.inl (some (.int 1)), jzv183) := by
  refine jr_run (e := jm245) rfl (Nat.le_of_ble_eq_true rfl) ?_
  refine jl_s (S' := ((1, [(0, .ref 66), (1, .int 1), (2, .int 0), (3, .int 0)], [.ref 66], jzv182) : jS)) rfl ?_
  refine jl_s (S' := ((2, [(0, .ref 66), (1, .int 1), (2, .int 0), (3, .int 0)], [.int 1, .ref 66], jzv182) : jS)) rfl ?_
  refine jl_s (S' := ((5, [(0, .ref 66), (1, .int 1), (2, .int 0), (3, .int 0)], [.ref 66], jzv182) : jS)) rfl ?_
  refine jl_s (S' := ((6, [(0, .ref 66), (1, .int 1), (2, .int 0), (3, .int 0)], [.int 1, .ref 66], jzv182) : jS)) rfl ?_
  refine jl_s (S' := ((26, [(0, .ref 66), (1, .int 1), (2, .int 0), (3, .int 0)], [.int 1, .ref 66], jzv182) : jS)) rfl ?_
  refine jl_s (S' := ((29, [(0, .ref 66), (1, .int 1), (2, .int 0), (3, .int 0)], [], jzv183) : jS)) rfl ?_
  refine jl_s (S' := ((30, [(0, .ref 66), (1, .int 1), (2, .int 0), (3, .int 0)], [.ref 66], jzv183) : jS)) rfl ?_
  refine jl_s (S' := ((33, [(0, .ref 66), (1, .int 1), (2, .int 0), (3, .int 0)], [.int 1], jzv183) : jS)) rfl ?_
  refine jl_s (S' := ((36, [(0, .ref 66), (1, .int 1), (2, .int 0), (3, .int 0)], [], jzv183) : jS)) rfl ?_
  refine jl_s (S' := ((37, [(0, .ref 66), (1, .int 1), (2, .int 0), (3, .int 0)], [.int 1], jzv183) : jS)) rfl ?_
  refine jl_s (S' := ((41, [(0, .ref 66), (1, .int 1), (2, .int 0), (3, .int 0)], [.int 1], jzv183) : jS)) rfl ?_
  exact jl_r (r := (.inl (some (.int 1)), jzv183)) rfl
set_option maxHeartbeats 4000000 in
set_option maxRecDepth 100000 in
theorem jzq845 (xs : Nat → Int32) (b0 b1 b2 b3 : Int32) {f : Nat} : jLoop (jRun ((4, xs) : jX) 2000 38) ((4, xs) : jX) jm248 (f + 13) ((7, [(4, .int 32), (3, .int 4), (2, .int 1), (5, .int (b3)), (0, .ref 66), (1, .int (xs 1))], [], jzv182) : jS) = some (.inl (some (.int 0)), jzv183) := by
  refine jl_s (S' := ((9, [(4, .int 32), (3, .int 4), (2, .int 1), (5, .int (b3)), (0, .ref 66), (1, .int (xs 1))], [.int 32], jzv182) : jS)) rfl ?_
  refine jl_s (S' := ((11, [(4, .int 32), (3, .int 4), (2, .int 1), (5, .int (b3)), (0, .ref 66), (1, .int (xs 1))], [.int 32, .int 32], jzv182) : jS)) rfl ?_
  refine jl_s (S' := ((66, [(4, .int 32), (3, .int 4), (2, .int 1), (5, .int (b3)), (0, .ref 66), (1, .int (xs 1))], [], jzv182) : jS)) rfl ?_
  refine jl_s (S' := ((67, [(4, .int 32), (3, .int 4), (2, .int 1), (5, .int (b3)), (0, .ref 66), (1, .int (xs 1))], [.ref 66], jzv182) : jS)) rfl ?_
  refine jl_s (S' := ((68, [(4, .int 32), (3, .int 4), (2, .int 1), (5, .int (b3)), (0, .ref 66), (1, .int (xs 1))], [.int 1, .ref 66], jzv182) : jS)) rfl ?_
  refine jl_s (S' := ((69, [(4, .int 32), (3, .int 4), (2, .int 1), (5, .int (b3)), (0, .ref 66), (1, .int (xs 1))], [.int 1, .int 1, .ref 66], jzv182) : jS)) rfl ?_
  refine jl_s (S' := ((88, [(4, .int 32), (3, .int 4), (2, .int 1), (5, .int (b3)), (0, .ref 66), (1, .int (xs 1))], [.int 1, .ref 66], jzv182) : jS)) rfl ?_
  refine jl_s (S' := ((89, [(4, .int 32), (3, .int 4), (2, .int 1), (5, .int (b3)), (0, .ref 66), (1, .int (xs 1))], [.int 0, .int 1, .ref 66], jzv182) : jS)) rfl ?_
  refine jl_s (S' := ((90, [(4, .int 32), (3, .int 4), (2, .int 1), (5, .int (b3)), (0, .ref 66), (1, .int (xs 1))], [.int 0, .int 0, .int 1, .ref 66], jzv182) : jS)) rfl ?_
  refine jl_c (t := 245) (as := [.ref 66, .int 1, .int 0, .int 0]) (V := jzv182) (r := (.inl (some (.int 1)), jzv183)) (S' := ((93, [(4, .int 32), (3, .int 4), (2, .int 1), (5, .int (b3)), (0, .ref 66), (1, .int (xs 1))], [.int 1], jzv183) : jS)) rfl (jzl843 xs b0 b1 b2 b3) rfl ?_
  refine jl_s (S' := ((96, [(4, .int 32), (3, .int 4), (2, .int 1), (5, .int (b3)), (0, .ref 66), (1, .int (xs 1))], [], jzv183) : jS)) rfl ?_
  refine jl_s (S' := ((97, [(4, .int 32), (3, .int 4), (2, .int 1), (5, .int (b3)), (0, .ref 66), (1, .int (xs 1))], [.int 0], jzv183) : jS)) rfl ?_
  exact jl_r (r := (.inl (some (.int 0)), jzv183)) rfl
set_option maxHeartbeats 4000000 in
set_option maxRecDepth 100000 in
theorem jzri846 (xs : Nat → Int32) (b0 b1 b2 b3 : Int32) (e3 : ((xs 1) >>> (24 &&& 31)) &&& 255 = b3) (h : jbJ3 b3) {f : Nat} : jLoop (jRun ((4, xs) : jX) 2000 38) ((4, xs) : jX) jm248 (f + 120) ((7, [(4, .int 24), (3, .int 3), (2, .int 1), (5, .int (b2)), (0, .ref 66), (1, .int (xs 1))], [], jzv182) : jS) = some (.inl (some (.int 0)), jzv183) := by
  rcases h with h | h
  · exact jzq840 xs b0 b1 b2 b3 e3 h (jzq832 xs b0 b1 b2 b3)
  · exact jzq842 xs b0 b1 b2 b3 e3 h (jzq845 xs b0 b1 b2 b3)
set_option maxHeartbeats 4000000 in
set_option maxRecDepth 100000 in
theorem jzri847 (xs : Nat → Int32) (b0 b1 b2 b3 : Int32) (e2 : ((xs 1) >>> (16 &&& 31)) &&& 255 = b2) (e3 : ((xs 1) >>> (24 &&& 31)) &&& 255 = b3) (h : jbJ2 b2 b3) {f : Nat} : jLoop (jRun ((4, xs) : jX) 2000 38) ((4, xs) : jX) jm248 (f + 180) ((7, [(4, .int 16), (3, .int 2), (2, .int 1), (5, .int (b1)), (0, .ref 66), (1, .int (xs 1))], [], jzv182) : jS) = some (.inl (some (.int 0)), jzv183) := by
  obtain ⟨h | h, h'⟩ := id h
  · exact jzq836 xs b0 b1 b2 b3 e2 h (jzri833 xs b0 b1 b2 b3 e3 h')
  · exact jzq838 xs b0 b1 b2 b3 e2 h (jzri846 xs b0 b1 b2 b3 e3 h')
set_option maxHeartbeats 4000000 in
set_option maxRecDepth 100000 in
theorem jzri848 (xs : Nat → Int32) (b0 b1 b2 b3 : Int32) (e1 : ((xs 1) >>> (8 &&& 31)) &&& 255 = b1) (e2 : ((xs 1) >>> (16 &&& 31)) &&& 255 = b2) (e3 : ((xs 1) >>> (24 &&& 31)) &&& 255 = b3) (h : jbJ1 b1 b2 b3) {f : Nat} : jLoop (jRun ((4, xs) : jX) 2000 38) ((4, xs) : jX) jm248 (f + 240) ((7, [(4, .int 8), (3, .int 1), (2, .int 1), (5, .int (b0)), (0, .ref 66), (1, .int (xs 1))], [], jzv182) : jS) = some (.inl (some (.int 0)), jzv183) := by
  obtain ⟨h | h, h'⟩ := id h
  · exact jzq808 xs b0 b1 b2 b3 e1 h (jzri834 xs b0 b1 b2 b3 e2 e3 h')
  · exact jzq810 xs b0 b1 b2 b3 e1 h (jzri847 xs b0 b1 b2 b3 e2 e3 h')
set_option maxHeartbeats 4000000 in
set_option maxRecDepth 100000 in
theorem jzq850 (xs : Nat → Int32) (b0 b1 b2 b3 : Int32) (e : ((xs 1) >>> (0 &&& 31)) &&& 255 = b0) (h : jbz b0) {f : Nat} {q : jO × jH} (hq : jLoop (jRun ((4, xs) : jX) 2000 38) ((4, xs) : jX) jm248 f ((7, [(4, .int 8), (3, .int 0), (2, .int 0), (5, .int (b0)), (0, .ref 66), (1, .int (xs 1))], [], jzv182) : jS) = some q) : jLoop (jRun ((4, xs) : jX) 2000 38) ((4, xs) : jX) jm248 (f + 21) ((7, [(4, .int 0), (3, .int 0), (2, .int 0), (0, .ref 66), (1, .int (xs 1))], [], jzv182) : jS) = some q := by
  refine jl_s (S' := ((9, [(4, .int 0), (3, .int 0), (2, .int 0), (0, .ref 66), (1, .int (xs 1))], [.int 0], jzv182) : jS)) rfl ?_
  refine jl_s (S' := ((11, [(4, .int 0), (3, .int 0), (2, .int 0), (0, .ref 66), (1, .int (xs 1))], [.int 32, .int 0], jzv182) : jS)) rfl ?_
  refine jl_s (S' := ((14, [(4, .int 0), (3, .int 0), (2, .int 0), (0, .ref 66), (1, .int (xs 1))], [], jzv182) : jS)) rfl ?_
  refine jl_s (S' := ((15, [(4, .int 0), (3, .int 0), (2, .int 0), (0, .ref 66), (1, .int (xs 1))], [.int (xs 1)], jzv182) : jS)) rfl ?_
  refine jl_s (S' := ((17, [(4, .int 0), (3, .int 0), (2, .int 0), (0, .ref 66), (1, .int (xs 1))], [.int 0, .int (xs 1)], jzv182) : jS)) rfl ?_
  refine jl_s (S' := ((18, [(4, .int 0), (3, .int 0), (2, .int 0), (0, .ref 66), (1, .int (xs 1))], [.int ((xs 1) >>> (0 &&& 31))], jzv182) : jS)) rfl ?_
  refine jl_s (S' := ((21, [(4, .int 0), (3, .int 0), (2, .int 0), (0, .ref 66), (1, .int (xs 1))], [.int 255, .int ((xs 1) >>> (0 &&& 31))], jzv182) : jS)) rfl ?_
  refine jl_s (S' := ((22, [(4, .int 0), (3, .int 0), (2, .int 0), (0, .ref 66), (1, .int (xs 1))], [.int (((xs 1) >>> (0 &&& 31)) &&& 255)], jzv182) : jS)) rfl ?_
  rw [e]
  refine jl_s (S' := ((24, [(5, .int (b0)), (4, .int 0), (3, .int 0), (2, .int 0), (0, .ref 66), (1, .int (xs 1))], [], jzv182) : jS)) rfl ?_
  refine jl_s (S' := ((25, [(5, .int (b0)), (4, .int 0), (3, .int 0), (2, .int 0), (0, .ref 66), (1, .int (xs 1))], [.int 0], jzv182) : jS)) rfl ?_
  refine jl_s (S' := ((28, [(5, .int (b0)), (4, .int 0), (3, .int 0), (2, .int 0), (0, .ref 66), (1, .int (xs 1))], [], jzv182) : jS)) rfl ?_
  refine jl_s (S' := ((30, [(5, .int (b0)), (4, .int 0), (3, .int 0), (2, .int 0), (0, .ref 66), (1, .int (xs 1))], [.int (b0)], jzv182) : jS)) rfl ?_
  refine jl_ift (e := jm248) (o := 15) rfl (h.1) (t := 45) rfl ?_
  refine jl_s (S' := ((46, [(5, .int (b0)), (4, .int 0), (3, .int 0), (2, .int 0), (0, .ref 66), (1, .int (xs 1))], [.int 0], jzv182) : jS)) rfl ?_
  refine jl_s (S' := ((47, [(2, .int 0), (5, .int (b0)), (4, .int 0), (3, .int 0), (0, .ref 66), (1, .int (xs 1))], [], jzv182) : jS)) rfl ?_
  refine jl_s (S' := ((49, [(2, .int 0), (5, .int (b0)), (4, .int 0), (3, .int 0), (0, .ref 66), (1, .int (xs 1))], [.int (b0)], jzv182) : jS)) rfl ?_
  refine jl_ift (e := jm248) (o := 9) rfl (h.1) (t := 58) rfl ?_
  refine jl_s (S' := ((59, [(2, .int 0), (5, .int (b0)), (4, .int 0), (3, .int 0), (0, .ref 66), (1, .int (xs 1))], [.int 0], jzv182) : jS)) rfl ?_
  refine jl_s (S' := ((60, [(3, .int 0), (2, .int 0), (5, .int (b0)), (4, .int 0), (0, .ref 66), (1, .int (xs 1))], [], jzv182) : jS)) rfl ?_
  refine jl_s (S' := ((63, [(4, .int 8), (3, .int 0), (2, .int 0), (5, .int (b0)), (0, .ref 66), (1, .int (xs 1))], [], jzv182) : jS)) rfl ?_
  refine jl_s (S' := ((7, [(4, .int 8), (3, .int 0), (2, .int 0), (5, .int (b0)), (0, .ref 66), (1, .int (xs 1))], [], jzv182) : jS)) rfl ?_
  exact hq
set_option maxHeartbeats 4000000 in
set_option maxRecDepth 100000 in
theorem jzq852 (xs : Nat → Int32) (b0 b1 b2 b3 : Int32) (e : ((xs 1) >>> (0 &&& 31)) &&& 255 = b0) (h : jbv b0) {f : Nat} {q : jO × jH} (hq : jLoop (jRun ((4, xs) : jX) 2000 38) ((4, xs) : jX) jm248 f ((7, [(4, .int 8), (3, .int 1), (2, .int 0), (5, .int (b0)), (0, .ref 66), (1, .int (xs 1))], [], jzv182) : jS) = some q) : jLoop (jRun ((4, xs) : jX) 2000 38) ((4, xs) : jX) jm248 (f + 27) ((7, [(4, .int 0), (3, .int 0), (2, .int 0), (0, .ref 66), (1, .int (xs 1))], [], jzv182) : jS) = some q := by
  refine jl_s (S' := ((9, [(4, .int 0), (3, .int 0), (2, .int 0), (0, .ref 66), (1, .int (xs 1))], [.int 0], jzv182) : jS)) rfl ?_
  refine jl_s (S' := ((11, [(4, .int 0), (3, .int 0), (2, .int 0), (0, .ref 66), (1, .int (xs 1))], [.int 32, .int 0], jzv182) : jS)) rfl ?_
  refine jl_s (S' := ((14, [(4, .int 0), (3, .int 0), (2, .int 0), (0, .ref 66), (1, .int (xs 1))], [], jzv182) : jS)) rfl ?_
  refine jl_s (S' := ((15, [(4, .int 0), (3, .int 0), (2, .int 0), (0, .ref 66), (1, .int (xs 1))], [.int (xs 1)], jzv182) : jS)) rfl ?_
  refine jl_s (S' := ((17, [(4, .int 0), (3, .int 0), (2, .int 0), (0, .ref 66), (1, .int (xs 1))], [.int 0, .int (xs 1)], jzv182) : jS)) rfl ?_
  refine jl_s (S' := ((18, [(4, .int 0), (3, .int 0), (2, .int 0), (0, .ref 66), (1, .int (xs 1))], [.int ((xs 1) >>> (0 &&& 31))], jzv182) : jS)) rfl ?_
  refine jl_s (S' := ((21, [(4, .int 0), (3, .int 0), (2, .int 0), (0, .ref 66), (1, .int (xs 1))], [.int 255, .int ((xs 1) >>> (0 &&& 31))], jzv182) : jS)) rfl ?_
  refine jl_s (S' := ((22, [(4, .int 0), (3, .int 0), (2, .int 0), (0, .ref 66), (1, .int (xs 1))], [.int (((xs 1) >>> (0 &&& 31)) &&& 255)], jzv182) : jS)) rfl ?_
  rw [e]
  refine jl_s (S' := ((24, [(5, .int (b0)), (4, .int 0), (3, .int 0), (2, .int 0), (0, .ref 66), (1, .int (xs 1))], [], jzv182) : jS)) rfl ?_
  refine jl_s (S' := ((25, [(5, .int (b0)), (4, .int 0), (3, .int 0), (2, .int 0), (0, .ref 66), (1, .int (xs 1))], [.int 0], jzv182) : jS)) rfl ?_
  refine jl_s (S' := ((28, [(5, .int (b0)), (4, .int 0), (3, .int 0), (2, .int 0), (0, .ref 66), (1, .int (xs 1))], [], jzv182) : jS)) rfl ?_
  refine jl_s (S' := ((30, [(5, .int (b0)), (4, .int 0), (3, .int 0), (2, .int 0), (0, .ref 66), (1, .int (xs 1))], [.int (b0)], jzv182) : jS)) rfl ?_
  refine jl_iff (e := jm248) (o := 15) rfl (h.1.1) ?_
  refine jl_s (S' := ((35, [(5, .int (b0)), (4, .int 0), (3, .int 0), (2, .int 0), (0, .ref 66), (1, .int (xs 1))], [.int (b0)], jzv182) : jS)) rfl ?_
  refine jl_c (t := 247) (as := [.int (b0)]) (V := jzv182) (r := (.inl (some (.int 1)), jzv182)) (S' := ((38, [(5, .int (b0)), (4, .int 0), (3, .int 0), (2, .int 0), (0, .ref 66), (1, .int (xs 1))], [.int 1], jzv182) : jS)) rfl (jz_sv ((4, xs) : jX) jzv182 b0 h ) rfl ?_
  refine jl_s (S' := ((45, [(5, .int (b0)), (4, .int 0), (3, .int 0), (2, .int 0), (0, .ref 66), (1, .int (xs 1))], [], jzv182) : jS)) rfl ?_
  refine jl_s (S' := ((46, [(5, .int (b0)), (4, .int 0), (3, .int 0), (2, .int 0), (0, .ref 66), (1, .int (xs 1))], [.int 0], jzv182) : jS)) rfl ?_
  refine jl_s (S' := ((47, [(2, .int 0), (5, .int (b0)), (4, .int 0), (3, .int 0), (0, .ref 66), (1, .int (xs 1))], [], jzv182) : jS)) rfl ?_
  refine jl_s (S' := ((49, [(2, .int 0), (5, .int (b0)), (4, .int 0), (3, .int 0), (0, .ref 66), (1, .int (xs 1))], [.int (b0)], jzv182) : jS)) rfl ?_
  refine jl_iff (e := jm248) (o := 9) rfl (h.1.1) ?_
  refine jl_s (S' := ((53, [(2, .int 0), (5, .int (b0)), (4, .int 0), (3, .int 0), (0, .ref 66), (1, .int (xs 1))], [.int 0], jzv182) : jS)) rfl ?_
  refine jl_s (S' := ((54, [(2, .int 0), (5, .int (b0)), (4, .int 0), (3, .int 0), (0, .ref 66), (1, .int (xs 1))], [.int 1, .int 0], jzv182) : jS)) rfl ?_
  refine jl_s (S' := ((55, [(2, .int 0), (5, .int (b0)), (4, .int 0), (3, .int 0), (0, .ref 66), (1, .int (xs 1))], [.int 1], jzv182) : jS)) rfl ?_
  refine jl_s (S' := ((59, [(2, .int 0), (5, .int (b0)), (4, .int 0), (3, .int 0), (0, .ref 66), (1, .int (xs 1))], [.int 1], jzv182) : jS)) rfl ?_
  refine jl_s (S' := ((60, [(3, .int 1), (2, .int 0), (5, .int (b0)), (4, .int 0), (0, .ref 66), (1, .int (xs 1))], [], jzv182) : jS)) rfl ?_
  refine jl_s (S' := ((63, [(4, .int 8), (3, .int 1), (2, .int 0), (5, .int (b0)), (0, .ref 66), (1, .int (xs 1))], [], jzv182) : jS)) rfl ?_
  refine jl_s (S' := ((7, [(4, .int 8), (3, .int 1), (2, .int 0), (5, .int (b0)), (0, .ref 66), (1, .int (xs 1))], [], jzv182) : jS)) rfl ?_
  exact hq
set_option maxHeartbeats 4000000 in
set_option maxRecDepth 100000 in
theorem jzq854 (xs : Nat → Int32) (b0 b1 b2 b3 : Int32) (e : ((xs 1) >>> (8 &&& 31)) &&& 255 = b1) (h : jbi b1) {f : Nat} {q : jO × jH} (hq : jLoop (jRun ((4, xs) : jX) 2000 38) ((4, xs) : jX) jm248 f ((7, [(4, .int 16), (3, .int 1), (2, .int 1), (5, .int (b1)), (0, .ref 66), (1, .int (xs 1))], [], jzv182) : jS) = some q) : jLoop (jRun ((4, xs) : jX) 2000 38) ((4, xs) : jX) jm248 (f + 28) ((7, [(4, .int 8), (3, .int 0), (2, .int 0), (5, .int (b0)), (0, .ref 66), (1, .int (xs 1))], [], jzv182) : jS) = some q := by
  refine jl_s (S' := ((9, [(4, .int 8), (3, .int 0), (2, .int 0), (5, .int (b0)), (0, .ref 66), (1, .int (xs 1))], [.int 8], jzv182) : jS)) rfl ?_
  refine jl_s (S' := ((11, [(4, .int 8), (3, .int 0), (2, .int 0), (5, .int (b0)), (0, .ref 66), (1, .int (xs 1))], [.int 32, .int 8], jzv182) : jS)) rfl ?_
  refine jl_s (S' := ((14, [(4, .int 8), (3, .int 0), (2, .int 0), (5, .int (b0)), (0, .ref 66), (1, .int (xs 1))], [], jzv182) : jS)) rfl ?_
  refine jl_s (S' := ((15, [(4, .int 8), (3, .int 0), (2, .int 0), (5, .int (b0)), (0, .ref 66), (1, .int (xs 1))], [.int (xs 1)], jzv182) : jS)) rfl ?_
  refine jl_s (S' := ((17, [(4, .int 8), (3, .int 0), (2, .int 0), (5, .int (b0)), (0, .ref 66), (1, .int (xs 1))], [.int 8, .int (xs 1)], jzv182) : jS)) rfl ?_
  refine jl_s (S' := ((18, [(4, .int 8), (3, .int 0), (2, .int 0), (5, .int (b0)), (0, .ref 66), (1, .int (xs 1))], [.int ((xs 1) >>> (8 &&& 31))], jzv182) : jS)) rfl ?_
  refine jl_s (S' := ((21, [(4, .int 8), (3, .int 0), (2, .int 0), (5, .int (b0)), (0, .ref 66), (1, .int (xs 1))], [.int 255, .int ((xs 1) >>> (8 &&& 31))], jzv182) : jS)) rfl ?_
  refine jl_s (S' := ((22, [(4, .int 8), (3, .int 0), (2, .int 0), (5, .int (b0)), (0, .ref 66), (1, .int (xs 1))], [.int (((xs 1) >>> (8 &&& 31)) &&& 255)], jzv182) : jS)) rfl ?_
  rw [e]
  refine jl_s (S' := ((24, [(5, .int (b1)), (4, .int 8), (3, .int 0), (2, .int 0), (0, .ref 66), (1, .int (xs 1))], [], jzv182) : jS)) rfl ?_
  refine jl_s (S' := ((25, [(5, .int (b1)), (4, .int 8), (3, .int 0), (2, .int 0), (0, .ref 66), (1, .int (xs 1))], [.int 0], jzv182) : jS)) rfl ?_
  refine jl_s (S' := ((28, [(5, .int (b1)), (4, .int 8), (3, .int 0), (2, .int 0), (0, .ref 66), (1, .int (xs 1))], [], jzv182) : jS)) rfl ?_
  refine jl_s (S' := ((30, [(5, .int (b1)), (4, .int 8), (3, .int 0), (2, .int 0), (0, .ref 66), (1, .int (xs 1))], [.int (b1)], jzv182) : jS)) rfl ?_
  refine jl_iff (e := jm248) (o := 15) rfl (h.1.1) ?_
  refine jl_s (S' := ((35, [(5, .int (b1)), (4, .int 8), (3, .int 0), (2, .int 0), (0, .ref 66), (1, .int (xs 1))], [.int (b1)], jzv182) : jS)) rfl ?_
  refine jl_c (t := 247) (as := [.int (b1)]) (V := jzv182) (r := (.inl (some (.int 0)), jzv182)) (S' := ((38, [(5, .int (b1)), (4, .int 8), (3, .int 0), (2, .int 0), (0, .ref 66), (1, .int (xs 1))], [.int 0], jzv182) : jS)) rfl (jz_si ((4, xs) : jX) jzv182 b1 h ) rfl ?_
  refine jl_s (S' := ((41, [(5, .int (b1)), (4, .int 8), (3, .int 0), (2, .int 0), (0, .ref 66), (1, .int (xs 1))], [], jzv182) : jS)) rfl ?_
  refine jl_s (S' := ((42, [(5, .int (b1)), (4, .int 8), (3, .int 0), (2, .int 0), (0, .ref 66), (1, .int (xs 1))], [.int 1], jzv182) : jS)) rfl ?_
  refine jl_s (S' := ((46, [(5, .int (b1)), (4, .int 8), (3, .int 0), (2, .int 0), (0, .ref 66), (1, .int (xs 1))], [.int 1], jzv182) : jS)) rfl ?_
  refine jl_s (S' := ((47, [(2, .int 1), (5, .int (b1)), (4, .int 8), (3, .int 0), (0, .ref 66), (1, .int (xs 1))], [], jzv182) : jS)) rfl ?_
  refine jl_s (S' := ((49, [(2, .int 1), (5, .int (b1)), (4, .int 8), (3, .int 0), (0, .ref 66), (1, .int (xs 1))], [.int (b1)], jzv182) : jS)) rfl ?_
  refine jl_iff (e := jm248) (o := 9) rfl (h.1.1) ?_
  refine jl_s (S' := ((53, [(2, .int 1), (5, .int (b1)), (4, .int 8), (3, .int 0), (0, .ref 66), (1, .int (xs 1))], [.int 0], jzv182) : jS)) rfl ?_
  refine jl_s (S' := ((54, [(2, .int 1), (5, .int (b1)), (4, .int 8), (3, .int 0), (0, .ref 66), (1, .int (xs 1))], [.int 1, .int 0], jzv182) : jS)) rfl ?_
  refine jl_s (S' := ((55, [(2, .int 1), (5, .int (b1)), (4, .int 8), (3, .int 0), (0, .ref 66), (1, .int (xs 1))], [.int 1], jzv182) : jS)) rfl ?_
  refine jl_s (S' := ((59, [(2, .int 1), (5, .int (b1)), (4, .int 8), (3, .int 0), (0, .ref 66), (1, .int (xs 1))], [.int 1], jzv182) : jS)) rfl ?_
  refine jl_s (S' := ((60, [(3, .int 1), (2, .int 1), (5, .int (b1)), (4, .int 8), (0, .ref 66), (1, .int (xs 1))], [], jzv182) : jS)) rfl ?_
  refine jl_s (S' := ((63, [(4, .int 16), (3, .int 1), (2, .int 1), (5, .int (b1)), (0, .ref 66), (1, .int (xs 1))], [], jzv182) : jS)) rfl ?_
  refine jl_s (S' := ((7, [(4, .int 16), (3, .int 1), (2, .int 1), (5, .int (b1)), (0, .ref 66), (1, .int (xs 1))], [], jzv182) : jS)) rfl ?_
  exact hq
set_option maxHeartbeats 4000000 in
set_option maxRecDepth 100000 in
theorem jzq856 (xs : Nat → Int32) (b0 b1 b2 b3 : Int32) (e : ((xs 1) >>> (8 &&& 31)) &&& 255 = b1) (h : jbz b1) {f : Nat} {q : jO × jH} (hq : jLoop (jRun ((4, xs) : jX) 2000 38) ((4, xs) : jX) jm248 f ((7, [(4, .int 16), (3, .int 0), (2, .int 0), (5, .int (b1)), (0, .ref 66), (1, .int (xs 1))], [], jzv182) : jS) = some q) : jLoop (jRun ((4, xs) : jX) 2000 38) ((4, xs) : jX) jm248 (f + 21) ((7, [(4, .int 8), (3, .int 0), (2, .int 0), (5, .int (b0)), (0, .ref 66), (1, .int (xs 1))], [], jzv182) : jS) = some q := by
  refine jl_s (S' := ((9, [(4, .int 8), (3, .int 0), (2, .int 0), (5, .int (b0)), (0, .ref 66), (1, .int (xs 1))], [.int 8], jzv182) : jS)) rfl ?_
  refine jl_s (S' := ((11, [(4, .int 8), (3, .int 0), (2, .int 0), (5, .int (b0)), (0, .ref 66), (1, .int (xs 1))], [.int 32, .int 8], jzv182) : jS)) rfl ?_
  refine jl_s (S' := ((14, [(4, .int 8), (3, .int 0), (2, .int 0), (5, .int (b0)), (0, .ref 66), (1, .int (xs 1))], [], jzv182) : jS)) rfl ?_
  refine jl_s (S' := ((15, [(4, .int 8), (3, .int 0), (2, .int 0), (5, .int (b0)), (0, .ref 66), (1, .int (xs 1))], [.int (xs 1)], jzv182) : jS)) rfl ?_
  refine jl_s (S' := ((17, [(4, .int 8), (3, .int 0), (2, .int 0), (5, .int (b0)), (0, .ref 66), (1, .int (xs 1))], [.int 8, .int (xs 1)], jzv182) : jS)) rfl ?_
  refine jl_s (S' := ((18, [(4, .int 8), (3, .int 0), (2, .int 0), (5, .int (b0)), (0, .ref 66), (1, .int (xs 1))], [.int ((xs 1) >>> (8 &&& 31))], jzv182) : jS)) rfl ?_
  refine jl_s (S' := ((21, [(4, .int 8), (3, .int 0), (2, .int 0), (5, .int (b0)), (0, .ref 66), (1, .int (xs 1))], [.int 255, .int ((xs 1) >>> (8 &&& 31))], jzv182) : jS)) rfl ?_
  refine jl_s (S' := ((22, [(4, .int 8), (3, .int 0), (2, .int 0), (5, .int (b0)), (0, .ref 66), (1, .int (xs 1))], [.int (((xs 1) >>> (8 &&& 31)) &&& 255)], jzv182) : jS)) rfl ?_
  rw [e]
  refine jl_s (S' := ((24, [(5, .int (b1)), (4, .int 8), (3, .int 0), (2, .int 0), (0, .ref 66), (1, .int (xs 1))], [], jzv182) : jS)) rfl ?_
  refine jl_s (S' := ((25, [(5, .int (b1)), (4, .int 8), (3, .int 0), (2, .int 0), (0, .ref 66), (1, .int (xs 1))], [.int 0], jzv182) : jS)) rfl ?_
  refine jl_s (S' := ((28, [(5, .int (b1)), (4, .int 8), (3, .int 0), (2, .int 0), (0, .ref 66), (1, .int (xs 1))], [], jzv182) : jS)) rfl ?_
  refine jl_s (S' := ((30, [(5, .int (b1)), (4, .int 8), (3, .int 0), (2, .int 0), (0, .ref 66), (1, .int (xs 1))], [.int (b1)], jzv182) : jS)) rfl ?_
  refine jl_ift (e := jm248) (o := 15) rfl (h.1) (t := 45) rfl ?_
  refine jl_s (S' := ((46, [(5, .int (b1)), (4, .int 8), (3, .int 0), (2, .int 0), (0, .ref 66), (1, .int (xs 1))], [.int 0], jzv182) : jS)) rfl ?_
  refine jl_s (S' := ((47, [(2, .int 0), (5, .int (b1)), (4, .int 8), (3, .int 0), (0, .ref 66), (1, .int (xs 1))], [], jzv182) : jS)) rfl ?_
  refine jl_s (S' := ((49, [(2, .int 0), (5, .int (b1)), (4, .int 8), (3, .int 0), (0, .ref 66), (1, .int (xs 1))], [.int (b1)], jzv182) : jS)) rfl ?_
  refine jl_ift (e := jm248) (o := 9) rfl (h.1) (t := 58) rfl ?_
  refine jl_s (S' := ((59, [(2, .int 0), (5, .int (b1)), (4, .int 8), (3, .int 0), (0, .ref 66), (1, .int (xs 1))], [.int 0], jzv182) : jS)) rfl ?_
  refine jl_s (S' := ((60, [(3, .int 0), (2, .int 0), (5, .int (b1)), (4, .int 8), (0, .ref 66), (1, .int (xs 1))], [], jzv182) : jS)) rfl ?_
  refine jl_s (S' := ((63, [(4, .int 16), (3, .int 0), (2, .int 0), (5, .int (b1)), (0, .ref 66), (1, .int (xs 1))], [], jzv182) : jS)) rfl ?_
  refine jl_s (S' := ((7, [(4, .int 16), (3, .int 0), (2, .int 0), (5, .int (b1)), (0, .ref 66), (1, .int (xs 1))], [], jzv182) : jS)) rfl ?_
  exact hq
set_option maxHeartbeats 4000000 in
set_option maxRecDepth 100000 in
theorem jzq858 (xs : Nat → Int32) (b0 b1 b2 b3 : Int32) (e : ((xs 1) >>> (8 &&& 31)) &&& 255 = b1) (h : jbv b1) {f : Nat} {q : jO × jH} (hq : jLoop (jRun ((4, xs) : jX) 2000 38) ((4, xs) : jX) jm248 f ((7, [(4, .int 16), (3, .int 1), (2, .int 0), (5, .int (b1)), (0, .ref 66), (1, .int (xs 1))], [], jzv182) : jS) = some q) : jLoop (jRun ((4, xs) : jX) 2000 38) ((4, xs) : jX) jm248 (f + 27) ((7, [(4, .int 8), (3, .int 0), (2, .int 0), (5, .int (b0)), (0, .ref 66), (1, .int (xs 1))], [], jzv182) : jS) = some q := by
  refine jl_s (S' := ((9, [(4, .int 8), (3, .int 0), (2, .int 0), (5, .int (b0)), (0, .ref 66), (1, .int (xs 1))], [.int 8], jzv182) : jS)) rfl ?_
  refine jl_s (S' := ((11, [(4, .int 8), (3, .int 0), (2, .int 0), (5, .int (b0)), (0, .ref 66), (1, .int (xs 1))], [.int 32, .int 8], jzv182) : jS)) rfl ?_
  refine jl_s (S' := ((14, [(4, .int 8), (3, .int 0), (2, .int 0), (5, .int (b0)), (0, .ref 66), (1, .int (xs 1))], [], jzv182) : jS)) rfl ?_
  refine jl_s (S' := ((15, [(4, .int 8), (3, .int 0), (2, .int 0), (5, .int (b0)), (0, .ref 66), (1, .int (xs 1))], [.int (xs 1)], jzv182) : jS)) rfl ?_
  refine jl_s (S' := ((17, [(4, .int 8), (3, .int 0), (2, .int 0), (5, .int (b0)), (0, .ref 66), (1, .int (xs 1))], [.int 8, .int (xs 1)], jzv182) : jS)) rfl ?_
  refine jl_s (S' := ((18, [(4, .int 8), (3, .int 0), (2, .int 0), (5, .int (b0)), (0, .ref 66), (1, .int (xs 1))], [.int ((xs 1) >>> (8 &&& 31))], jzv182) : jS)) rfl ?_
  refine jl_s (S' := ((21, [(4, .int 8), (3, .int 0), (2, .int 0), (5, .int (b0)), (0, .ref 66), (1, .int (xs 1))], [.int 255, .int ((xs 1) >>> (8 &&& 31))], jzv182) : jS)) rfl ?_
  refine jl_s (S' := ((22, [(4, .int 8), (3, .int 0), (2, .int 0), (5, .int (b0)), (0, .ref 66), (1, .int (xs 1))], [.int (((xs 1) >>> (8 &&& 31)) &&& 255)], jzv182) : jS)) rfl ?_
  rw [e]
  refine jl_s (S' := ((24, [(5, .int (b1)), (4, .int 8), (3, .int 0), (2, .int 0), (0, .ref 66), (1, .int (xs 1))], [], jzv182) : jS)) rfl ?_
  refine jl_s (S' := ((25, [(5, .int (b1)), (4, .int 8), (3, .int 0), (2, .int 0), (0, .ref 66), (1, .int (xs 1))], [.int 0], jzv182) : jS)) rfl ?_
  refine jl_s (S' := ((28, [(5, .int (b1)), (4, .int 8), (3, .int 0), (2, .int 0), (0, .ref 66), (1, .int (xs 1))], [], jzv182) : jS)) rfl ?_
  refine jl_s (S' := ((30, [(5, .int (b1)), (4, .int 8), (3, .int 0), (2, .int 0), (0, .ref 66), (1, .int (xs 1))], [.int (b1)], jzv182) : jS)) rfl ?_
  refine jl_iff (e := jm248) (o := 15) rfl (h.1.1) ?_
  refine jl_s (S' := ((35, [(5, .int (b1)), (4, .int 8), (3, .int 0), (2, .int 0), (0, .ref 66), (1, .int (xs 1))], [.int (b1)], jzv182) : jS)) rfl ?_
  refine jl_c (t := 247) (as := [.int (b1)]) (V := jzv182) (r := (.inl (some (.int 1)), jzv182)) (S' := ((38, [(5, .int (b1)), (4, .int 8), (3, .int 0), (2, .int 0), (0, .ref 66), (1, .int (xs 1))], [.int 1], jzv182) : jS)) rfl (jz_sv ((4, xs) : jX) jzv182 b1 h ) rfl ?_
  refine jl_s (S' := ((45, [(5, .int (b1)), (4, .int 8), (3, .int 0), (2, .int 0), (0, .ref 66), (1, .int (xs 1))], [], jzv182) : jS)) rfl ?_
  refine jl_s (S' := ((46, [(5, .int (b1)), (4, .int 8), (3, .int 0), (2, .int 0), (0, .ref 66), (1, .int (xs 1))], [.int 0], jzv182) : jS)) rfl ?_
  refine jl_s (S' := ((47, [(2, .int 0), (5, .int (b1)), (4, .int 8), (3, .int 0), (0, .ref 66), (1, .int (xs 1))], [], jzv182) : jS)) rfl ?_
  refine jl_s (S' := ((49, [(2, .int 0), (5, .int (b1)), (4, .int 8), (3, .int 0), (0, .ref 66), (1, .int (xs 1))], [.int (b1)], jzv182) : jS)) rfl ?_
  refine jl_iff (e := jm248) (o := 9) rfl (h.1.1) ?_
  refine jl_s (S' := ((53, [(2, .int 0), (5, .int (b1)), (4, .int 8), (3, .int 0), (0, .ref 66), (1, .int (xs 1))], [.int 0], jzv182) : jS)) rfl ?_
  refine jl_s (S' := ((54, [(2, .int 0), (5, .int (b1)), (4, .int 8), (3, .int 0), (0, .ref 66), (1, .int (xs 1))], [.int 1, .int 0], jzv182) : jS)) rfl ?_
  refine jl_s (S' := ((55, [(2, .int 0), (5, .int (b1)), (4, .int 8), (3, .int 0), (0, .ref 66), (1, .int (xs 1))], [.int 1], jzv182) : jS)) rfl ?_
  refine jl_s (S' := ((59, [(2, .int 0), (5, .int (b1)), (4, .int 8), (3, .int 0), (0, .ref 66), (1, .int (xs 1))], [.int 1], jzv182) : jS)) rfl ?_
  refine jl_s (S' := ((60, [(3, .int 1), (2, .int 0), (5, .int (b1)), (4, .int 8), (0, .ref 66), (1, .int (xs 1))], [], jzv182) : jS)) rfl ?_
  refine jl_s (S' := ((63, [(4, .int 16), (3, .int 1), (2, .int 0), (5, .int (b1)), (0, .ref 66), (1, .int (xs 1))], [], jzv182) : jS)) rfl ?_
  refine jl_s (S' := ((7, [(4, .int 16), (3, .int 1), (2, .int 0), (5, .int (b1)), (0, .ref 66), (1, .int (xs 1))], [], jzv182) : jS)) rfl ?_
  exact hq
set_option maxHeartbeats 4000000 in
set_option maxRecDepth 100000 in
theorem jzq860 (xs : Nat → Int32) (b0 b1 b2 b3 : Int32) (e : ((xs 1) >>> (16 &&& 31)) &&& 255 = b2) (h : jbi b2) {f : Nat} {q : jO × jH} (hq : jLoop (jRun ((4, xs) : jX) 2000 38) ((4, xs) : jX) jm248 f ((7, [(4, .int 24), (3, .int 1), (2, .int 1), (5, .int (b2)), (0, .ref 66), (1, .int (xs 1))], [], jzv182) : jS) = some q) : jLoop (jRun ((4, xs) : jX) 2000 38) ((4, xs) : jX) jm248 (f + 28) ((7, [(4, .int 16), (3, .int 0), (2, .int 0), (5, .int (b1)), (0, .ref 66), (1, .int (xs 1))], [], jzv182) : jS) = some q := by
  refine jl_s (S' := ((9, [(4, .int 16), (3, .int 0), (2, .int 0), (5, .int (b1)), (0, .ref 66), (1, .int (xs 1))], [.int 16], jzv182) : jS)) rfl ?_
  refine jl_s (S' := ((11, [(4, .int 16), (3, .int 0), (2, .int 0), (5, .int (b1)), (0, .ref 66), (1, .int (xs 1))], [.int 32, .int 16], jzv182) : jS)) rfl ?_
  refine jl_s (S' := ((14, [(4, .int 16), (3, .int 0), (2, .int 0), (5, .int (b1)), (0, .ref 66), (1, .int (xs 1))], [], jzv182) : jS)) rfl ?_
  refine jl_s (S' := ((15, [(4, .int 16), (3, .int 0), (2, .int 0), (5, .int (b1)), (0, .ref 66), (1, .int (xs 1))], [.int (xs 1)], jzv182) : jS)) rfl ?_
  refine jl_s (S' := ((17, [(4, .int 16), (3, .int 0), (2, .int 0), (5, .int (b1)), (0, .ref 66), (1, .int (xs 1))], [.int 16, .int (xs 1)], jzv182) : jS)) rfl ?_
  refine jl_s (S' := ((18, [(4, .int 16), (3, .int 0), (2, .int 0), (5, .int (b1)), (0, .ref 66), (1, .int (xs 1))], [.int ((xs 1) >>> (16 &&& 31))], jzv182) : jS)) rfl ?_
  refine jl_s (S' := ((21, [(4, .int 16), (3, .int 0), (2, .int 0), (5, .int (b1)), (0, .ref 66), (1, .int (xs 1))], [.int 255, .int ((xs 1) >>> (16 &&& 31))], jzv182) : jS)) rfl ?_
  refine jl_s (S' := ((22, [(4, .int 16), (3, .int 0), (2, .int 0), (5, .int (b1)), (0, .ref 66), (1, .int (xs 1))], [.int (((xs 1) >>> (16 &&& 31)) &&& 255)], jzv182) : jS)) rfl ?_
  rw [e]
  refine jl_s (S' := ((24, [(5, .int (b2)), (4, .int 16), (3, .int 0), (2, .int 0), (0, .ref 66), (1, .int (xs 1))], [], jzv182) : jS)) rfl ?_
  refine jl_s (S' := ((25, [(5, .int (b2)), (4, .int 16), (3, .int 0), (2, .int 0), (0, .ref 66), (1, .int (xs 1))], [.int 0], jzv182) : jS)) rfl ?_
  refine jl_s (S' := ((28, [(5, .int (b2)), (4, .int 16), (3, .int 0), (2, .int 0), (0, .ref 66), (1, .int (xs 1))], [], jzv182) : jS)) rfl ?_
  refine jl_s (S' := ((30, [(5, .int (b2)), (4, .int 16), (3, .int 0), (2, .int 0), (0, .ref 66), (1, .int (xs 1))], [.int (b2)], jzv182) : jS)) rfl ?_
  refine jl_iff (e := jm248) (o := 15) rfl (h.1.1) ?_
  refine jl_s (S' := ((35, [(5, .int (b2)), (4, .int 16), (3, .int 0), (2, .int 0), (0, .ref 66), (1, .int (xs 1))], [.int (b2)], jzv182) : jS)) rfl ?_
  refine jl_c (t := 247) (as := [.int (b2)]) (V := jzv182) (r := (.inl (some (.int 0)), jzv182)) (S' := ((38, [(5, .int (b2)), (4, .int 16), (3, .int 0), (2, .int 0), (0, .ref 66), (1, .int (xs 1))], [.int 0], jzv182) : jS)) rfl (jz_si ((4, xs) : jX) jzv182 b2 h ) rfl ?_
  refine jl_s (S' := ((41, [(5, .int (b2)), (4, .int 16), (3, .int 0), (2, .int 0), (0, .ref 66), (1, .int (xs 1))], [], jzv182) : jS)) rfl ?_
  refine jl_s (S' := ((42, [(5, .int (b2)), (4, .int 16), (3, .int 0), (2, .int 0), (0, .ref 66), (1, .int (xs 1))], [.int 1], jzv182) : jS)) rfl ?_
  refine jl_s (S' := ((46, [(5, .int (b2)), (4, .int 16), (3, .int 0), (2, .int 0), (0, .ref 66), (1, .int (xs 1))], [.int 1], jzv182) : jS)) rfl ?_
  refine jl_s (S' := ((47, [(2, .int 1), (5, .int (b2)), (4, .int 16), (3, .int 0), (0, .ref 66), (1, .int (xs 1))], [], jzv182) : jS)) rfl ?_
  refine jl_s (S' := ((49, [(2, .int 1), (5, .int (b2)), (4, .int 16), (3, .int 0), (0, .ref 66), (1, .int (xs 1))], [.int (b2)], jzv182) : jS)) rfl ?_
  refine jl_iff (e := jm248) (o := 9) rfl (h.1.1) ?_
  refine jl_s (S' := ((53, [(2, .int 1), (5, .int (b2)), (4, .int 16), (3, .int 0), (0, .ref 66), (1, .int (xs 1))], [.int 0], jzv182) : jS)) rfl ?_
  refine jl_s (S' := ((54, [(2, .int 1), (5, .int (b2)), (4, .int 16), (3, .int 0), (0, .ref 66), (1, .int (xs 1))], [.int 1, .int 0], jzv182) : jS)) rfl ?_
  refine jl_s (S' := ((55, [(2, .int 1), (5, .int (b2)), (4, .int 16), (3, .int 0), (0, .ref 66), (1, .int (xs 1))], [.int 1], jzv182) : jS)) rfl ?_
  refine jl_s (S' := ((59, [(2, .int 1), (5, .int (b2)), (4, .int 16), (3, .int 0), (0, .ref 66), (1, .int (xs 1))], [.int 1], jzv182) : jS)) rfl ?_
  refine jl_s (S' := ((60, [(3, .int 1), (2, .int 1), (5, .int (b2)), (4, .int 16), (0, .ref 66), (1, .int (xs 1))], [], jzv182) : jS)) rfl ?_
  refine jl_s (S' := ((63, [(4, .int 24), (3, .int 1), (2, .int 1), (5, .int (b2)), (0, .ref 66), (1, .int (xs 1))], [], jzv182) : jS)) rfl ?_
  refine jl_s (S' := ((7, [(4, .int 24), (3, .int 1), (2, .int 1), (5, .int (b2)), (0, .ref 66), (1, .int (xs 1))], [], jzv182) : jS)) rfl ?_
  exact hq
set_option maxHeartbeats 4000000 in
set_option maxRecDepth 100000 in
theorem jzq862 (xs : Nat → Int32) (b0 b1 b2 b3 : Int32) (e : ((xs 1) >>> (16 &&& 31)) &&& 255 = b2) (h : jbz b2) {f : Nat} {q : jO × jH} (hq : jLoop (jRun ((4, xs) : jX) 2000 38) ((4, xs) : jX) jm248 f ((7, [(4, .int 24), (3, .int 0), (2, .int 0), (5, .int (b2)), (0, .ref 66), (1, .int (xs 1))], [], jzv182) : jS) = some q) : jLoop (jRun ((4, xs) : jX) 2000 38) ((4, xs) : jX) jm248 (f + 21) ((7, [(4, .int 16), (3, .int 0), (2, .int 0), (5, .int (b1)), (0, .ref 66), (1, .int (xs 1))], [], jzv182) : jS) = some q := by
  refine jl_s (S' := ((9, [(4, .int 16), (3, .int 0), (2, .int 0), (5, .int (b1)), (0, .ref 66), (1, .int (xs 1))], [.int 16], jzv182) : jS)) rfl ?_
  refine jl_s (S' := ((11, [(4, .int 16), (3, .int 0), (2, .int 0), (5, .int (b1)), (0, .ref 66), (1, .int (xs 1))], [.int 32, .int 16], jzv182) : jS)) rfl ?_
  refine jl_s (S' := ((14, [(4, .int 16), (3, .int 0), (2, .int 0), (5, .int (b1)), (0, .ref 66), (1, .int (xs 1))], [], jzv182) : jS)) rfl ?_
  refine jl_s (S' := ((15, [(4, .int 16), (3, .int 0), (2, .int 0), (5, .int (b1)), (0, .ref 66), (1, .int (xs 1))], [.int (xs 1)], jzv182) : jS)) rfl ?_
  refine jl_s (S' := ((17, [(4, .int 16), (3, .int 0), (2, .int 0), (5, .int (b1)), (0, .ref 66), (1, .int (xs 1))], [.int 16, .int (xs 1)], jzv182) : jS)) rfl ?_
  refine jl_s (S' := ((18, [(4, .int 16), (3, .int 0), (2, .int 0), (5, .int (b1)), (0, .ref 66), (1, .int (xs 1))], [.int ((xs 1) >>> (16 &&& 31))], jzv182) : jS)) rfl ?_
  refine jl_s (S' := ((21, [(4, .int 16), (3, .int 0), (2, .int 0), (5, .int (b1)), (0, .ref 66), (1, .int (xs 1))], [.int 255, .int ((xs 1) >>> (16 &&& 31))], jzv182) : jS)) rfl ?_
  refine jl_s (S' := ((22, [(4, .int 16), (3, .int 0), (2, .int 0), (5, .int (b1)), (0, .ref 66), (1, .int (xs 1))], [.int (((xs 1) >>> (16 &&& 31)) &&& 255)], jzv182) : jS)) rfl ?_
  rw [e]
  refine jl_s (S' := ((24, [(5, .int (b2)), (4, .int 16), (3, .int 0), (2, .int 0), (0, .ref 66), (1, .int (xs 1))], [], jzv182) : jS)) rfl ?_
  refine jl_s (S' := ((25, [(5, .int (b2)), (4, .int 16), (3, .int 0), (2, .int 0), (0, .ref 66), (1, .int (xs 1))], [.int 0], jzv182) : jS)) rfl ?_
  refine jl_s (S' := ((28, [(5, .int (b2)), (4, .int 16), (3, .int 0), (2, .int 0), (0, .ref 66), (1, .int (xs 1))], [], jzv182) : jS)) rfl ?_
  refine jl_s (S' := ((30, [(5, .int (b2)), (4, .int 16), (3, .int 0), (2, .int 0), (0, .ref 66), (1, .int (xs 1))], [.int (b2)], jzv182) : jS)) rfl ?_
  refine jl_ift (e := jm248) (o := 15) rfl (h.1) (t := 45) rfl ?_
  refine jl_s (S' := ((46, [(5, .int (b2)), (4, .int 16), (3, .int 0), (2, .int 0), (0, .ref 66), (1, .int (xs 1))], [.int 0], jzv182) : jS)) rfl ?_
  refine jl_s (S' := ((47, [(2, .int 0), (5, .int (b2)), (4, .int 16), (3, .int 0), (0, .ref 66), (1, .int (xs 1))], [], jzv182) : jS)) rfl ?_
  refine jl_s (S' := ((49, [(2, .int 0), (5, .int (b2)), (4, .int 16), (3, .int 0), (0, .ref 66), (1, .int (xs 1))], [.int (b2)], jzv182) : jS)) rfl ?_
  refine jl_ift (e := jm248) (o := 9) rfl (h.1) (t := 58) rfl ?_
  refine jl_s (S' := ((59, [(2, .int 0), (5, .int (b2)), (4, .int 16), (3, .int 0), (0, .ref 66), (1, .int (xs 1))], [.int 0], jzv182) : jS)) rfl ?_
  refine jl_s (S' := ((60, [(3, .int 0), (2, .int 0), (5, .int (b2)), (4, .int 16), (0, .ref 66), (1, .int (xs 1))], [], jzv182) : jS)) rfl ?_
  refine jl_s (S' := ((63, [(4, .int 24), (3, .int 0), (2, .int 0), (5, .int (b2)), (0, .ref 66), (1, .int (xs 1))], [], jzv182) : jS)) rfl ?_
  refine jl_s (S' := ((7, [(4, .int 24), (3, .int 0), (2, .int 0), (5, .int (b2)), (0, .ref 66), (1, .int (xs 1))], [], jzv182) : jS)) rfl ?_
  exact hq
set_option maxHeartbeats 4000000 in
set_option maxRecDepth 100000 in
theorem jzq864 (xs : Nat → Int32) (b0 b1 b2 b3 : Int32) (e : ((xs 1) >>> (16 &&& 31)) &&& 255 = b2) (h : jbv b2) {f : Nat} {q : jO × jH} (hq : jLoop (jRun ((4, xs) : jX) 2000 38) ((4, xs) : jX) jm248 f ((7, [(4, .int 24), (3, .int 1), (2, .int 0), (5, .int (b2)), (0, .ref 66), (1, .int (xs 1))], [], jzv182) : jS) = some q) : jLoop (jRun ((4, xs) : jX) 2000 38) ((4, xs) : jX) jm248 (f + 27) ((7, [(4, .int 16), (3, .int 0), (2, .int 0), (5, .int (b1)), (0, .ref 66), (1, .int (xs 1))], [], jzv182) : jS) = some q := by
  refine jl_s (S' := ((9, [(4, .int 16), (3, .int 0), (2, .int 0), (5, .int (b1)), (0, .ref 66), (1, .int (xs 1))], [.int 16], jzv182) : jS)) rfl ?_
  refine jl_s (S' := ((11, [(4, .int 16), (3, .int 0), (2, .int 0), (5, .int (b1)), (0, .ref 66), (1, .int (xs 1))], [.int 32, .int 16], jzv182) : jS)) rfl ?_
  refine jl_s (S' := ((14, [(4, .int 16), (3, .int 0), (2, .int 0), (5, .int (b1)), (0, .ref 66), (1, .int (xs 1))], [], jzv182) : jS)) rfl ?_
  refine jl_s (S' := ((15, [(4, .int 16), (3, .int 0), (2, .int 0), (5, .int (b1)), (0, .ref 66), (1, .int (xs 1))], [.int (xs 1)], jzv182) : jS)) rfl ?_
  refine jl_s (S' := ((17, [(4, .int 16), (3, .int 0), (2, .int 0), (5, .int (b1)), (0, .ref 66), (1, .int (xs 1))], [.int 16, .int (xs 1)], jzv182) : jS)) rfl ?_
  refine jl_s (S' := ((18, [(4, .int 16), (3, .int 0), (2, .int 0), (5, .int (b1)), (0, .ref 66), (1, .int (xs 1))], [.int ((xs 1) >>> (16 &&& 31))], jzv182) : jS)) rfl ?_
  refine jl_s (S' := ((21, [(4, .int 16), (3, .int 0), (2, .int 0), (5, .int (b1)), (0, .ref 66), (1, .int (xs 1))], [.int 255, .int ((xs 1) >>> (16 &&& 31))], jzv182) : jS)) rfl ?_
  refine jl_s (S' := ((22, [(4, .int 16), (3, .int 0), (2, .int 0), (5, .int (b1)), (0, .ref 66), (1, .int (xs 1))], [.int (((xs 1) >>> (16 &&& 31)) &&& 255)], jzv182) : jS)) rfl ?_
  rw [e]
  refine jl_s (S' := ((24, [(5, .int (b2)), (4, .int 16), (3, .int 0), (2, .int 0), (0, .ref 66), (1, .int (xs 1))], [], jzv182) : jS)) rfl ?_
  refine jl_s (S' := ((25, [(5, .int (b2)), (4, .int 16), (3, .int 0), (2, .int 0), (0, .ref 66), (1, .int (xs 1))], [.int 0], jzv182) : jS)) rfl ?_
  refine jl_s (S' := ((28, [(5, .int (b2)), (4, .int 16), (3, .int 0), (2, .int 0), (0, .ref 66), (1, .int (xs 1))], [], jzv182) : jS)) rfl ?_
  refine jl_s (S' := ((30, [(5, .int (b2)), (4, .int 16), (3, .int 0), (2, .int 0), (0, .ref 66), (1, .int (xs 1))], [.int (b2)], jzv182) : jS)) rfl ?_
  refine jl_iff (e := jm248) (o := 15) rfl (h.1.1) ?_
  refine jl_s (S' := ((35, [(5, .int (b2)), (4, .int 16), (3, .int 0), (2, .int 0), (0, .ref 66), (1, .int (xs 1))], [.int (b2)], jzv182) : jS)) rfl ?_
  refine jl_c (t := 247) (as := [.int (b2)]) (V := jzv182) (r := (.inl (some (.int 1)), jzv182)) (S' := ((38, [(5, .int (b2)), (4, .int 16), (3, .int 0), (2, .int 0), (0, .ref 66), (1, .int (xs 1))], [.int 1], jzv182) : jS)) rfl (jz_sv ((4, xs) : jX) jzv182 b2 h ) rfl ?_
  refine jl_s (S' := ((45, [(5, .int (b2)), (4, .int 16), (3, .int 0), (2, .int 0), (0, .ref 66), (1, .int (xs 1))], [], jzv182) : jS)) rfl ?_
  refine jl_s (S' := ((46, [(5, .int (b2)), (4, .int 16), (3, .int 0), (2, .int 0), (0, .ref 66), (1, .int (xs 1))], [.int 0], jzv182) : jS)) rfl ?_
  refine jl_s (S' := ((47, [(2, .int 0), (5, .int (b2)), (4, .int 16), (3, .int 0), (0, .ref 66), (1, .int (xs 1))], [], jzv182) : jS)) rfl ?_
  refine jl_s (S' := ((49, [(2, .int 0), (5, .int (b2)), (4, .int 16), (3, .int 0), (0, .ref 66), (1, .int (xs 1))], [.int (b2)], jzv182) : jS)) rfl ?_
  refine jl_iff (e := jm248) (o := 9) rfl (h.1.1) ?_
  refine jl_s (S' := ((53, [(2, .int 0), (5, .int (b2)), (4, .int 16), (3, .int 0), (0, .ref 66), (1, .int (xs 1))], [.int 0], jzv182) : jS)) rfl ?_
  refine jl_s (S' := ((54, [(2, .int 0), (5, .int (b2)), (4, .int 16), (3, .int 0), (0, .ref 66), (1, .int (xs 1))], [.int 1, .int 0], jzv182) : jS)) rfl ?_
  refine jl_s (S' := ((55, [(2, .int 0), (5, .int (b2)), (4, .int 16), (3, .int 0), (0, .ref 66), (1, .int (xs 1))], [.int 1], jzv182) : jS)) rfl ?_
  refine jl_s (S' := ((59, [(2, .int 0), (5, .int (b2)), (4, .int 16), (3, .int 0), (0, .ref 66), (1, .int (xs 1))], [.int 1], jzv182) : jS)) rfl ?_
  refine jl_s (S' := ((60, [(3, .int 1), (2, .int 0), (5, .int (b2)), (4, .int 16), (0, .ref 66), (1, .int (xs 1))], [], jzv182) : jS)) rfl ?_
  refine jl_s (S' := ((63, [(4, .int 24), (3, .int 1), (2, .int 0), (5, .int (b2)), (0, .ref 66), (1, .int (xs 1))], [], jzv182) : jS)) rfl ?_
  refine jl_s (S' := ((7, [(4, .int 24), (3, .int 1), (2, .int 0), (5, .int (b2)), (0, .ref 66), (1, .int (xs 1))], [], jzv182) : jS)) rfl ?_
  exact hq
set_option maxHeartbeats 4000000 in
set_option maxRecDepth 100000 in
theorem jzq866 (xs : Nat → Int32) (b0 b1 b2 b3 : Int32) (e : ((xs 1) >>> (24 &&& 31)) &&& 255 = b3) (h : jbi b3) {f : Nat} {q : jO × jH} (hq : jLoop (jRun ((4, xs) : jX) 2000 38) ((4, xs) : jX) jm248 f ((7, [(4, .int 32), (3, .int 1), (2, .int 1), (5, .int (b3)), (0, .ref 66), (1, .int (xs 1))], [], jzv182) : jS) = some q) : jLoop (jRun ((4, xs) : jX) 2000 38) ((4, xs) : jX) jm248 (f + 28) ((7, [(4, .int 24), (3, .int 0), (2, .int 0), (5, .int (b2)), (0, .ref 66), (1, .int (xs 1))], [], jzv182) : jS) = some q := by
  refine jl_s (S' := ((9, [(4, .int 24), (3, .int 0), (2, .int 0), (5, .int (b2)), (0, .ref 66), (1, .int (xs 1))], [.int 24], jzv182) : jS)) rfl ?_
  refine jl_s (S' := ((11, [(4, .int 24), (3, .int 0), (2, .int 0), (5, .int (b2)), (0, .ref 66), (1, .int (xs 1))], [.int 32, .int 24], jzv182) : jS)) rfl ?_
  refine jl_s (S' := ((14, [(4, .int 24), (3, .int 0), (2, .int 0), (5, .int (b2)), (0, .ref 66), (1, .int (xs 1))], [], jzv182) : jS)) rfl ?_
  refine jl_s (S' := ((15, [(4, .int 24), (3, .int 0), (2, .int 0), (5, .int (b2)), (0, .ref 66), (1, .int (xs 1))], [.int (xs 1)], jzv182) : jS)) rfl ?_
  refine jl_s (S' := ((17, [(4, .int 24), (3, .int 0), (2, .int 0), (5, .int (b2)), (0, .ref 66), (1, .int (xs 1))], [.int 24, .int (xs 1)], jzv182) : jS)) rfl ?_
  refine jl_s (S' := ((18, [(4, .int 24), (3, .int 0), (2, .int 0), (5, .int (b2)), (0, .ref 66), (1, .int (xs 1))], [.int ((xs 1) >>> (24 &&& 31))], jzv182) : jS)) rfl ?_
  refine jl_s (S' := ((21, [(4, .int 24), (3, .int 0), (2, .int 0), (5, .int (b2)), (0, .ref 66), (1, .int (xs 1))], [.int 255, .int ((xs 1) >>> (24 &&& 31))], jzv182) : jS)) rfl ?_
  refine jl_s (S' := ((22, [(4, .int 24), (3, .int 0), (2, .int 0), (5, .int (b2)), (0, .ref 66), (1, .int (xs 1))], [.int (((xs 1) >>> (24 &&& 31)) &&& 255)], jzv182) : jS)) rfl ?_
  rw [e]
  refine jl_s (S' := ((24, [(5, .int (b3)), (4, .int 24), (3, .int 0), (2, .int 0), (0, .ref 66), (1, .int (xs 1))], [], jzv182) : jS)) rfl ?_
  refine jl_s (S' := ((25, [(5, .int (b3)), (4, .int 24), (3, .int 0), (2, .int 0), (0, .ref 66), (1, .int (xs 1))], [.int 0], jzv182) : jS)) rfl ?_
  refine jl_s (S' := ((28, [(5, .int (b3)), (4, .int 24), (3, .int 0), (2, .int 0), (0, .ref 66), (1, .int (xs 1))], [], jzv182) : jS)) rfl ?_
  refine jl_s (S' := ((30, [(5, .int (b3)), (4, .int 24), (3, .int 0), (2, .int 0), (0, .ref 66), (1, .int (xs 1))], [.int (b3)], jzv182) : jS)) rfl ?_
  refine jl_iff (e := jm248) (o := 15) rfl (h.1.1) ?_
  refine jl_s (S' := ((35, [(5, .int (b3)), (4, .int 24), (3, .int 0), (2, .int 0), (0, .ref 66), (1, .int (xs 1))], [.int (b3)], jzv182) : jS)) rfl ?_
  refine jl_c (t := 247) (as := [.int (b3)]) (V := jzv182) (r := (.inl (some (.int 0)), jzv182)) (S' := ((38, [(5, .int (b3)), (4, .int 24), (3, .int 0), (2, .int 0), (0, .ref 66), (1, .int (xs 1))], [.int 0], jzv182) : jS)) rfl (jz_si ((4, xs) : jX) jzv182 b3 h ) rfl ?_
  refine jl_s (S' := ((41, [(5, .int (b3)), (4, .int 24), (3, .int 0), (2, .int 0), (0, .ref 66), (1, .int (xs 1))], [], jzv182) : jS)) rfl ?_
  refine jl_s (S' := ((42, [(5, .int (b3)), (4, .int 24), (3, .int 0), (2, .int 0), (0, .ref 66), (1, .int (xs 1))], [.int 1], jzv182) : jS)) rfl ?_
  refine jl_s (S' := ((46, [(5, .int (b3)), (4, .int 24), (3, .int 0), (2, .int 0), (0, .ref 66), (1, .int (xs 1))], [.int 1], jzv182) : jS)) rfl ?_
  refine jl_s (S' := ((47, [(2, .int 1), (5, .int (b3)), (4, .int 24), (3, .int 0), (0, .ref 66), (1, .int (xs 1))], [], jzv182) : jS)) rfl ?_
  refine jl_s (S' := ((49, [(2, .int 1), (5, .int (b3)), (4, .int 24), (3, .int 0), (0, .ref 66), (1, .int (xs 1))], [.int (b3)], jzv182) : jS)) rfl ?_
  refine jl_iff (e := jm248) (o := 9) rfl (h.1.1) ?_
  refine jl_s (S' := ((53, [(2, .int 1), (5, .int (b3)), (4, .int 24), (3, .int 0), (0, .ref 66), (1, .int (xs 1))], [.int 0], jzv182) : jS)) rfl ?_
  refine jl_s (S' := ((54, [(2, .int 1), (5, .int (b3)), (4, .int 24), (3, .int 0), (0, .ref 66), (1, .int (xs 1))], [.int 1, .int 0], jzv182) : jS)) rfl ?_
  refine jl_s (S' := ((55, [(2, .int 1), (5, .int (b3)), (4, .int 24), (3, .int 0), (0, .ref 66), (1, .int (xs 1))], [.int 1], jzv182) : jS)) rfl ?_
  refine jl_s (S' := ((59, [(2, .int 1), (5, .int (b3)), (4, .int 24), (3, .int 0), (0, .ref 66), (1, .int (xs 1))], [.int 1], jzv182) : jS)) rfl ?_
  refine jl_s (S' := ((60, [(3, .int 1), (2, .int 1), (5, .int (b3)), (4, .int 24), (0, .ref 66), (1, .int (xs 1))], [], jzv182) : jS)) rfl ?_
  refine jl_s (S' := ((63, [(4, .int 32), (3, .int 1), (2, .int 1), (5, .int (b3)), (0, .ref 66), (1, .int (xs 1))], [], jzv182) : jS)) rfl ?_
  refine jl_s (S' := ((7, [(4, .int 32), (3, .int 1), (2, .int 1), (5, .int (b3)), (0, .ref 66), (1, .int (xs 1))], [], jzv182) : jS)) rfl ?_
  exact hq
set_option maxHeartbeats 4000000 in
set_option maxRecDepth 100000 in
theorem jzrg867 (xs : Nat → Int32) (b0 b1 b2 b3 : Int32) (e3 : ((xs 1) >>> (24 &&& 31)) &&& 255 = b3) (h : jbI3 b3) {f : Nat} : jLoop (jRun ((4, xs) : jX) 2000 38) ((4, xs) : jX) jm248 (f + 180) ((7, [(4, .int 24), (3, .int 0), (2, .int 0), (5, .int (b2)), (0, .ref 66), (1, .int (xs 1))], [], jzv182) : jS) = some (.inl (some (.int 0)), jzv183) := by
  exact jzq866 xs b0 b1 b2 b3 e3 h (jzq821 xs b0 b1 b2 b3)
set_option maxHeartbeats 4000000 in
set_option maxRecDepth 100000 in
theorem jzq869 (xs : Nat → Int32) (b0 b1 b2 b3 : Int32) (e : ((xs 1) >>> (24 &&& 31)) &&& 255 = b3) (h : jbi b3) {f : Nat} {q : jO × jH} (hq : jLoop (jRun ((4, xs) : jX) 2000 38) ((4, xs) : jX) jm248 f ((7, [(4, .int 32), (3, .int 2), (2, .int 1), (5, .int (b3)), (0, .ref 66), (1, .int (xs 1))], [], jzv182) : jS) = some q) : jLoop (jRun ((4, xs) : jX) 2000 38) ((4, xs) : jX) jm248 (f + 28) ((7, [(4, .int 24), (3, .int 1), (2, .int 0), (5, .int (b2)), (0, .ref 66), (1, .int (xs 1))], [], jzv182) : jS) = some q := by
  refine jl_s (S' := ((9, [(4, .int 24), (3, .int 1), (2, .int 0), (5, .int (b2)), (0, .ref 66), (1, .int (xs 1))], [.int 24], jzv182) : jS)) rfl ?_
  refine jl_s (S' := ((11, [(4, .int 24), (3, .int 1), (2, .int 0), (5, .int (b2)), (0, .ref 66), (1, .int (xs 1))], [.int 32, .int 24], jzv182) : jS)) rfl ?_
  refine jl_s (S' := ((14, [(4, .int 24), (3, .int 1), (2, .int 0), (5, .int (b2)), (0, .ref 66), (1, .int (xs 1))], [], jzv182) : jS)) rfl ?_
  refine jl_s (S' := ((15, [(4, .int 24), (3, .int 1), (2, .int 0), (5, .int (b2)), (0, .ref 66), (1, .int (xs 1))], [.int (xs 1)], jzv182) : jS)) rfl ?_
  refine jl_s (S' := ((17, [(4, .int 24), (3, .int 1), (2, .int 0), (5, .int (b2)), (0, .ref 66), (1, .int (xs 1))], [.int 24, .int (xs 1)], jzv182) : jS)) rfl ?_
  refine jl_s (S' := ((18, [(4, .int 24), (3, .int 1), (2, .int 0), (5, .int (b2)), (0, .ref 66), (1, .int (xs 1))], [.int ((xs 1) >>> (24 &&& 31))], jzv182) : jS)) rfl ?_
  refine jl_s (S' := ((21, [(4, .int 24), (3, .int 1), (2, .int 0), (5, .int (b2)), (0, .ref 66), (1, .int (xs 1))], [.int 255, .int ((xs 1) >>> (24 &&& 31))], jzv182) : jS)) rfl ?_
  refine jl_s (S' := ((22, [(4, .int 24), (3, .int 1), (2, .int 0), (5, .int (b2)), (0, .ref 66), (1, .int (xs 1))], [.int (((xs 1) >>> (24 &&& 31)) &&& 255)], jzv182) : jS)) rfl ?_
  rw [e]
  refine jl_s (S' := ((24, [(5, .int (b3)), (4, .int 24), (3, .int 1), (2, .int 0), (0, .ref 66), (1, .int (xs 1))], [], jzv182) : jS)) rfl ?_
  refine jl_s (S' := ((25, [(5, .int (b3)), (4, .int 24), (3, .int 1), (2, .int 0), (0, .ref 66), (1, .int (xs 1))], [.int 0], jzv182) : jS)) rfl ?_
  refine jl_s (S' := ((28, [(5, .int (b3)), (4, .int 24), (3, .int 1), (2, .int 0), (0, .ref 66), (1, .int (xs 1))], [], jzv182) : jS)) rfl ?_
  refine jl_s (S' := ((30, [(5, .int (b3)), (4, .int 24), (3, .int 1), (2, .int 0), (0, .ref 66), (1, .int (xs 1))], [.int (b3)], jzv182) : jS)) rfl ?_
  refine jl_iff (e := jm248) (o := 15) rfl (h.1.1) ?_
  refine jl_s (S' := ((35, [(5, .int (b3)), (4, .int 24), (3, .int 1), (2, .int 0), (0, .ref 66), (1, .int (xs 1))], [.int (b3)], jzv182) : jS)) rfl ?_
  refine jl_c (t := 247) (as := [.int (b3)]) (V := jzv182) (r := (.inl (some (.int 0)), jzv182)) (S' := ((38, [(5, .int (b3)), (4, .int 24), (3, .int 1), (2, .int 0), (0, .ref 66), (1, .int (xs 1))], [.int 0], jzv182) : jS)) rfl (jz_si ((4, xs) : jX) jzv182 b3 h ) rfl ?_
  refine jl_s (S' := ((41, [(5, .int (b3)), (4, .int 24), (3, .int 1), (2, .int 0), (0, .ref 66), (1, .int (xs 1))], [], jzv182) : jS)) rfl ?_
  refine jl_s (S' := ((42, [(5, .int (b3)), (4, .int 24), (3, .int 1), (2, .int 0), (0, .ref 66), (1, .int (xs 1))], [.int 1], jzv182) : jS)) rfl ?_
  refine jl_s (S' := ((46, [(5, .int (b3)), (4, .int 24), (3, .int 1), (2, .int 0), (0, .ref 66), (1, .int (xs 1))], [.int 1], jzv182) : jS)) rfl ?_
  refine jl_s (S' := ((47, [(2, .int 1), (5, .int (b3)), (4, .int 24), (3, .int 1), (0, .ref 66), (1, .int (xs 1))], [], jzv182) : jS)) rfl ?_
  refine jl_s (S' := ((49, [(2, .int 1), (5, .int (b3)), (4, .int 24), (3, .int 1), (0, .ref 66), (1, .int (xs 1))], [.int (b3)], jzv182) : jS)) rfl ?_
  refine jl_iff (e := jm248) (o := 9) rfl (h.1.1) ?_
  refine jl_s (S' := ((53, [(2, .int 1), (5, .int (b3)), (4, .int 24), (3, .int 1), (0, .ref 66), (1, .int (xs 1))], [.int 1], jzv182) : jS)) rfl ?_
  refine jl_s (S' := ((54, [(2, .int 1), (5, .int (b3)), (4, .int 24), (3, .int 1), (0, .ref 66), (1, .int (xs 1))], [.int 1, .int 1], jzv182) : jS)) rfl ?_
  refine jl_s (S' := ((55, [(2, .int 1), (5, .int (b3)), (4, .int 24), (3, .int 1), (0, .ref 66), (1, .int (xs 1))], [.int 2], jzv182) : jS)) rfl ?_
  refine jl_s (S' := ((59, [(2, .int 1), (5, .int (b3)), (4, .int 24), (3, .int 1), (0, .ref 66), (1, .int (xs 1))], [.int 2], jzv182) : jS)) rfl ?_
  refine jl_s (S' := ((60, [(3, .int 2), (2, .int 1), (5, .int (b3)), (4, .int 24), (0, .ref 66), (1, .int (xs 1))], [], jzv182) : jS)) rfl ?_
  refine jl_s (S' := ((63, [(4, .int 32), (3, .int 2), (2, .int 1), (5, .int (b3)), (0, .ref 66), (1, .int (xs 1))], [], jzv182) : jS)) rfl ?_
  refine jl_s (S' := ((7, [(4, .int 32), (3, .int 2), (2, .int 1), (5, .int (b3)), (0, .ref 66), (1, .int (xs 1))], [], jzv182) : jS)) rfl ?_
  exact hq
set_option maxHeartbeats 4000000 in
set_option maxRecDepth 100000 in
theorem jzrg870 (xs : Nat → Int32) (b0 b1 b2 b3 : Int32) (e3 : ((xs 1) >>> (24 &&& 31)) &&& 255 = b3) (h : jbI3 b3) {f : Nat} : jLoop (jRun ((4, xs) : jX) 2000 38) ((4, xs) : jX) jm248 (f + 180) ((7, [(4, .int 24), (3, .int 1), (2, .int 0), (5, .int (b2)), (0, .ref 66), (1, .int (xs 1))], [], jzv182) : jS) = some (.inl (some (.int 0)), jzv183) := by
  exact jzq869 xs b0 b1 b2 b3 e3 h (jzq824 xs b0 b1 b2 b3)
set_option maxHeartbeats 4000000 in
set_option maxRecDepth 100000 in
theorem jzrg871 (xs : Nat → Int32) (b0 b1 b2 b3 : Int32) (e2 : ((xs 1) >>> (16 &&& 31)) &&& 255 = b2) (e3 : ((xs 1) >>> (24 &&& 31)) &&& 255 = b3) (h : jbI2 b2 b3) (hj : jbJ3 b3) {f : Nat} : jLoop (jRun ((4, xs) : jX) 2000 38) ((4, xs) : jX) jm248 (f + 240) ((7, [(4, .int 16), (3, .int 0), (2, .int 0), (5, .int (b1)), (0, .ref 66), (1, .int (xs 1))], [], jzv182) : jS) = some (.inl (some (.int 0)), jzv183) := by
  rcases h with h | ⟨h | h, h'⟩
  · exact jzq860 xs b0 b1 b2 b3 e2 h (jzri825 xs b0 b1 b2 b3 e3 hj)
  · exact jzq862 xs b0 b1 b2 b3 e2 h (jzrg867 xs b0 b1 b2 b3 e3 h')
  · exact jzq864 xs b0 b1 b2 b3 e2 h (jzrg870 xs b0 b1 b2 b3 e3 h')
set_option maxHeartbeats 4000000 in
set_option maxRecDepth 100000 in
theorem jzq873 (xs : Nat → Int32) (b0 b1 b2 b3 : Int32) (e : ((xs 1) >>> (16 &&& 31)) &&& 255 = b2) (h : jbi b2) {f : Nat} {q : jO × jH} (hq : jLoop (jRun ((4, xs) : jX) 2000 38) ((4, xs) : jX) jm248 f ((7, [(4, .int 24), (3, .int 2), (2, .int 1), (5, .int (b2)), (0, .ref 66), (1, .int (xs 1))], [], jzv182) : jS) = some q) : jLoop (jRun ((4, xs) : jX) 2000 38) ((4, xs) : jX) jm248 (f + 28) ((7, [(4, .int 16), (3, .int 1), (2, .int 0), (5, .int (b1)), (0, .ref 66), (1, .int (xs 1))], [], jzv182) : jS) = some q := by
  refine jl_s (S' := ((9, [(4, .int 16), (3, .int 1), (2, .int 0), (5, .int (b1)), (0, .ref 66), (1, .int (xs 1))], [.int 16], jzv182) : jS)) rfl ?_
  refine jl_s (S' := ((11, [(4, .int 16), (3, .int 1), (2, .int 0), (5, .int (b1)), (0, .ref 66), (1, .int (xs 1))], [.int 32, .int 16], jzv182) : jS)) rfl ?_
  refine jl_s (S' := ((14, [(4, .int 16), (3, .int 1), (2, .int 0), (5, .int (b1)), (0, .ref 66), (1, .int (xs 1))], [], jzv182) : jS)) rfl ?_
  refine jl_s (S' := ((15, [(4, .int 16), (3, .int 1), (2, .int 0), (5, .int (b1)), (0, .ref 66), (1, .int (xs 1))], [.int (xs 1)], jzv182) : jS)) rfl ?_
  refine jl_s (S' := ((17, [(4, .int 16), (3, .int 1), (2, .int 0), (5, .int (b1)), (0, .ref 66), (1, .int (xs 1))], [.int 16, .int (xs 1)], jzv182) : jS)) rfl ?_
  refine jl_s (S' := ((18, [(4, .int 16), (3, .int 1), (2, .int 0), (5, .int (b1)), (0, .ref 66), (1, .int (xs 1))], [.int ((xs 1) >>> (16 &&& 31))], jzv182) : jS)) rfl ?_
  refine jl_s (S' := ((21, [(4, .int 16), (3, .int 1), (2, .int 0), (5, .int (b1)), (0, .ref 66), (1, .int (xs 1))], [.int 255, .int ((xs 1) >>> (16 &&& 31))], jzv182) : jS)) rfl ?_
  refine jl_s (S' := ((22, [(4, .int 16), (3, .int 1), (2, .int 0), (5, .int (b1)), (0, .ref 66), (1, .int (xs 1))], [.int (((xs 1) >>> (16 &&& 31)) &&& 255)], jzv182) : jS)) rfl ?_
  rw [e]
  refine jl_s (S' := ((24, [(5, .int (b2)), (4, .int 16), (3, .int 1), (2, .int 0), (0, .ref 66), (1, .int (xs 1))], [], jzv182) : jS)) rfl ?_
  refine jl_s (S' := ((25, [(5, .int (b2)), (4, .int 16), (3, .int 1), (2, .int 0), (0, .ref 66), (1, .int (xs 1))], [.int 0], jzv182) : jS)) rfl ?_
  refine jl_s (S' := ((28, [(5, .int (b2)), (4, .int 16), (3, .int 1), (2, .int 0), (0, .ref 66), (1, .int (xs 1))], [], jzv182) : jS)) rfl ?_
  refine jl_s (S' := ((30, [(5, .int (b2)), (4, .int 16), (3, .int 1), (2, .int 0), (0, .ref 66), (1, .int (xs 1))], [.int (b2)], jzv182) : jS)) rfl ?_
  refine jl_iff (e := jm248) (o := 15) rfl (h.1.1) ?_
  refine jl_s (S' := ((35, [(5, .int (b2)), (4, .int 16), (3, .int 1), (2, .int 0), (0, .ref 66), (1, .int (xs 1))], [.int (b2)], jzv182) : jS)) rfl ?_
  refine jl_c (t := 247) (as := [.int (b2)]) (V := jzv182) (r := (.inl (some (.int 0)), jzv182)) (S' := ((38, [(5, .int (b2)), (4, .int 16), (3, .int 1), (2, .int 0), (0, .ref 66), (1, .int (xs 1))], [.int 0], jzv182) : jS)) rfl (jz_si ((4, xs) : jX) jzv182 b2 h ) rfl ?_
  refine jl_s (S' := ((41, [(5, .int (b2)), (4, .int 16), (3, .int 1), (2, .int 0), (0, .ref 66), (1, .int (xs 1))], [], jzv182) : jS)) rfl ?_
  refine jl_s (S' := ((42, [(5, .int (b2)), (4, .int 16), (3, .int 1), (2, .int 0), (0, .ref 66), (1, .int (xs 1))], [.int 1], jzv182) : jS)) rfl ?_
  refine jl_s (S' := ((46, [(5, .int (b2)), (4, .int 16), (3, .int 1), (2, .int 0), (0, .ref 66), (1, .int (xs 1))], [.int 1], jzv182) : jS)) rfl ?_
  refine jl_s (S' := ((47, [(2, .int 1), (5, .int (b2)), (4, .int 16), (3, .int 1), (0, .ref 66), (1, .int (xs 1))], [], jzv182) : jS)) rfl ?_
  refine jl_s (S' := ((49, [(2, .int 1), (5, .int (b2)), (4, .int 16), (3, .int 1), (0, .ref 66), (1, .int (xs 1))], [.int (b2)], jzv182) : jS)) rfl ?_
  refine jl_iff (e := jm248) (o := 9) rfl (h.1.1) ?_
  refine jl_s (S' := ((53, [(2, .int 1), (5, .int (b2)), (4, .int 16), (3, .int 1), (0, .ref 66), (1, .int (xs 1))], [.int 1], jzv182) : jS)) rfl ?_
  refine jl_s (S' := ((54, [(2, .int 1), (5, .int (b2)), (4, .int 16), (3, .int 1), (0, .ref 66), (1, .int (xs 1))], [.int 1, .int 1], jzv182) : jS)) rfl ?_
  refine jl_s (S' := ((55, [(2, .int 1), (5, .int (b2)), (4, .int 16), (3, .int 1), (0, .ref 66), (1, .int (xs 1))], [.int 2], jzv182) : jS)) rfl ?_
  refine jl_s (S' := ((59, [(2, .int 1), (5, .int (b2)), (4, .int 16), (3, .int 1), (0, .ref 66), (1, .int (xs 1))], [.int 2], jzv182) : jS)) rfl ?_
  refine jl_s (S' := ((60, [(3, .int 2), (2, .int 1), (5, .int (b2)), (4, .int 16), (0, .ref 66), (1, .int (xs 1))], [], jzv182) : jS)) rfl ?_
  refine jl_s (S' := ((63, [(4, .int 24), (3, .int 2), (2, .int 1), (5, .int (b2)), (0, .ref 66), (1, .int (xs 1))], [], jzv182) : jS)) rfl ?_
  refine jl_s (S' := ((7, [(4, .int 24), (3, .int 2), (2, .int 1), (5, .int (b2)), (0, .ref 66), (1, .int (xs 1))], [], jzv182) : jS)) rfl ?_
  exact hq
set_option maxHeartbeats 4000000 in
set_option maxRecDepth 100000 in
theorem jzq875 (xs : Nat → Int32) (b0 b1 b2 b3 : Int32) (e : ((xs 1) >>> (16 &&& 31)) &&& 255 = b2) (h : jbz b2) {f : Nat} {q : jO × jH} (hq : jLoop (jRun ((4, xs) : jX) 2000 38) ((4, xs) : jX) jm248 f ((7, [(4, .int 24), (3, .int 1), (2, .int 0), (5, .int (b2)), (0, .ref 66), (1, .int (xs 1))], [], jzv182) : jS) = some q) : jLoop (jRun ((4, xs) : jX) 2000 38) ((4, xs) : jX) jm248 (f + 21) ((7, [(4, .int 16), (3, .int 1), (2, .int 0), (5, .int (b1)), (0, .ref 66), (1, .int (xs 1))], [], jzv182) : jS) = some q := by
  refine jl_s (S' := ((9, [(4, .int 16), (3, .int 1), (2, .int 0), (5, .int (b1)), (0, .ref 66), (1, .int (xs 1))], [.int 16], jzv182) : jS)) rfl ?_
  refine jl_s (S' := ((11, [(4, .int 16), (3, .int 1), (2, .int 0), (5, .int (b1)), (0, .ref 66), (1, .int (xs 1))], [.int 32, .int 16], jzv182) : jS)) rfl ?_
  refine jl_s (S' := ((14, [(4, .int 16), (3, .int 1), (2, .int 0), (5, .int (b1)), (0, .ref 66), (1, .int (xs 1))], [], jzv182) : jS)) rfl ?_
  refine jl_s (S' := ((15, [(4, .int 16), (3, .int 1), (2, .int 0), (5, .int (b1)), (0, .ref 66), (1, .int (xs 1))], [.int (xs 1)], jzv182) : jS)) rfl ?_
  refine jl_s (S' := ((17, [(4, .int 16), (3, .int 1), (2, .int 0), (5, .int (b1)), (0, .ref 66), (1, .int (xs 1))], [.int 16, .int (xs 1)], jzv182) : jS)) rfl ?_
  refine jl_s (S' := ((18, [(4, .int 16), (3, .int 1), (2, .int 0), (5, .int (b1)), (0, .ref 66), (1, .int (xs 1))], [.int ((xs 1) >>> (16 &&& 31))], jzv182) : jS)) rfl ?_
  refine jl_s (S' := ((21, [(4, .int 16), (3, .int 1), (2, .int 0), (5, .int (b1)), (0, .ref 66), (1, .int (xs 1))], [.int 255, .int ((xs 1) >>> (16 &&& 31))], jzv182) : jS)) rfl ?_
  refine jl_s (S' := ((22, [(4, .int 16), (3, .int 1), (2, .int 0), (5, .int (b1)), (0, .ref 66), (1, .int (xs 1))], [.int (((xs 1) >>> (16 &&& 31)) &&& 255)], jzv182) : jS)) rfl ?_
  rw [e]
  refine jl_s (S' := ((24, [(5, .int (b2)), (4, .int 16), (3, .int 1), (2, .int 0), (0, .ref 66), (1, .int (xs 1))], [], jzv182) : jS)) rfl ?_
  refine jl_s (S' := ((25, [(5, .int (b2)), (4, .int 16), (3, .int 1), (2, .int 0), (0, .ref 66), (1, .int (xs 1))], [.int 0], jzv182) : jS)) rfl ?_
  refine jl_s (S' := ((28, [(5, .int (b2)), (4, .int 16), (3, .int 1), (2, .int 0), (0, .ref 66), (1, .int (xs 1))], [], jzv182) : jS)) rfl ?_
  refine jl_s (S' := ((30, [(5, .int (b2)), (4, .int 16), (3, .int 1), (2, .int 0), (0, .ref 66), (1, .int (xs 1))], [.int (b2)], jzv182) : jS)) rfl ?_
  refine jl_ift (e := jm248) (o := 15) rfl (h.1) (t := 45) rfl ?_
  refine jl_s (S' := ((46, [(5, .int (b2)), (4, .int 16), (3, .int 1), (2, .int 0), (0, .ref 66), (1, .int (xs 1))], [.int 0], jzv182) : jS)) rfl ?_
  refine jl_s (S' := ((47, [(2, .int 0), (5, .int (b2)), (4, .int 16), (3, .int 1), (0, .ref 66), (1, .int (xs 1))], [], jzv182) : jS)) rfl ?_
  refine jl_s (S' := ((49, [(2, .int 0), (5, .int (b2)), (4, .int 16), (3, .int 1), (0, .ref 66), (1, .int (xs 1))], [.int (b2)], jzv182) : jS)) rfl ?_
  refine jl_ift (e := jm248) (o := 9) rfl (h.1) (t := 58) rfl ?_
  refine jl_s (S' := ((59, [(2, .int 0), (5, .int (b2)), (4, .int 16), (3, .int 1), (0, .ref 66), (1, .int (xs 1))], [.int 1], jzv182) : jS)) rfl ?_
  refine jl_s (S' := ((60, [(3, .int 1), (2, .int 0), (5, .int (b2)), (4, .int 16), (0, .ref 66), (1, .int (xs 1))], [], jzv182) : jS)) rfl ?_
  refine jl_s (S' := ((63, [(4, .int 24), (3, .int 1), (2, .int 0), (5, .int (b2)), (0, .ref 66), (1, .int (xs 1))], [], jzv182) : jS)) rfl ?_
  refine jl_s (S' := ((7, [(4, .int 24), (3, .int 1), (2, .int 0), (5, .int (b2)), (0, .ref 66), (1, .int (xs 1))], [], jzv182) : jS)) rfl ?_
  exact hq
set_option maxHeartbeats 4000000 in
set_option maxRecDepth 100000 in
theorem jzq877 (xs : Nat → Int32) (b0 b1 b2 b3 : Int32) (e : ((xs 1) >>> (16 &&& 31)) &&& 255 = b2) (h : jbv b2) {f : Nat} {q : jO × jH} (hq : jLoop (jRun ((4, xs) : jX) 2000 38) ((4, xs) : jX) jm248 f ((7, [(4, .int 24), (3, .int 2), (2, .int 0), (5, .int (b2)), (0, .ref 66), (1, .int (xs 1))], [], jzv182) : jS) = some q) : jLoop (jRun ((4, xs) : jX) 2000 38) ((4, xs) : jX) jm248 (f + 27) ((7, [(4, .int 16), (3, .int 1), (2, .int 0), (5, .int (b1)), (0, .ref 66), (1, .int (xs 1))], [], jzv182) : jS) = some q := by
  refine jl_s (S' := ((9, [(4, .int 16), (3, .int 1), (2, .int 0), (5, .int (b1)), (0, .ref 66), (1, .int (xs 1))], [.int 16], jzv182) : jS)) rfl ?_
  refine jl_s (S' := ((11, [(4, .int 16), (3, .int 1), (2, .int 0), (5, .int (b1)), (0, .ref 66), (1, .int (xs 1))], [.int 32, .int 16], jzv182) : jS)) rfl ?_
  refine jl_s (S' := ((14, [(4, .int 16), (3, .int 1), (2, .int 0), (5, .int (b1)), (0, .ref 66), (1, .int (xs 1))], [], jzv182) : jS)) rfl ?_
  refine jl_s (S' := ((15, [(4, .int 16), (3, .int 1), (2, .int 0), (5, .int (b1)), (0, .ref 66), (1, .int (xs 1))], [.int (xs 1)], jzv182) : jS)) rfl ?_
  refine jl_s (S' := ((17, [(4, .int 16), (3, .int 1), (2, .int 0), (5, .int (b1)), (0, .ref 66), (1, .int (xs 1))], [.int 16, .int (xs 1)], jzv182) : jS)) rfl ?_
  refine jl_s (S' := ((18, [(4, .int 16), (3, .int 1), (2, .int 0), (5, .int (b1)), (0, .ref 66), (1, .int (xs 1))], [.int ((xs 1) >>> (16 &&& 31))], jzv182) : jS)) rfl ?_
  refine jl_s (S' := ((21, [(4, .int 16), (3, .int 1), (2, .int 0), (5, .int (b1)), (0, .ref 66), (1, .int (xs 1))], [.int 255, .int ((xs 1) >>> (16 &&& 31))], jzv182) : jS)) rfl ?_
  refine jl_s (S' := ((22, [(4, .int 16), (3, .int 1), (2, .int 0), (5, .int (b1)), (0, .ref 66), (1, .int (xs 1))], [.int (((xs 1) >>> (16 &&& 31)) &&& 255)], jzv182) : jS)) rfl ?_
  rw [e]
  refine jl_s (S' := ((24, [(5, .int (b2)), (4, .int 16), (3, .int 1), (2, .int 0), (0, .ref 66), (1, .int (xs 1))], [], jzv182) : jS)) rfl ?_
  refine jl_s (S' := ((25, [(5, .int (b2)), (4, .int 16), (3, .int 1), (2, .int 0), (0, .ref 66), (1, .int (xs 1))], [.int 0], jzv182) : jS)) rfl ?_
  refine jl_s (S' := ((28, [(5, .int (b2)), (4, .int 16), (3, .int 1), (2, .int 0), (0, .ref 66), (1, .int (xs 1))], [], jzv182) : jS)) rfl ?_
  refine jl_s (S' := ((30, [(5, .int (b2)), (4, .int 16), (3, .int 1), (2, .int 0), (0, .ref 66), (1, .int (xs 1))], [.int (b2)], jzv182) : jS)) rfl ?_
  refine jl_iff (e := jm248) (o := 15) rfl (h.1.1) ?_
  refine jl_s (S' := ((35, [(5, .int (b2)), (4, .int 16), (3, .int 1), (2, .int 0), (0, .ref 66), (1, .int (xs 1))], [.int (b2)], jzv182) : jS)) rfl ?_
  refine jl_c (t := 247) (as := [.int (b2)]) (V := jzv182) (r := (.inl (some (.int 1)), jzv182)) (S' := ((38, [(5, .int (b2)), (4, .int 16), (3, .int 1), (2, .int 0), (0, .ref 66), (1, .int (xs 1))], [.int 1], jzv182) : jS)) rfl (jz_sv ((4, xs) : jX) jzv182 b2 h ) rfl ?_
  refine jl_s (S' := ((45, [(5, .int (b2)), (4, .int 16), (3, .int 1), (2, .int 0), (0, .ref 66), (1, .int (xs 1))], [], jzv182) : jS)) rfl ?_
  refine jl_s (S' := ((46, [(5, .int (b2)), (4, .int 16), (3, .int 1), (2, .int 0), (0, .ref 66), (1, .int (xs 1))], [.int 0], jzv182) : jS)) rfl ?_
  refine jl_s (S' := ((47, [(2, .int 0), (5, .int (b2)), (4, .int 16), (3, .int 1), (0, .ref 66), (1, .int (xs 1))], [], jzv182) : jS)) rfl ?_
  refine jl_s (S' := ((49, [(2, .int 0), (5, .int (b2)), (4, .int 16), (3, .int 1), (0, .ref 66), (1, .int (xs 1))], [.int (b2)], jzv182) : jS)) rfl ?_
  refine jl_iff (e := jm248) (o := 9) rfl (h.1.1) ?_
  refine jl_s (S' := ((53, [(2, .int 0), (5, .int (b2)), (4, .int 16), (3, .int 1), (0, .ref 66), (1, .int (xs 1))], [.int 1], jzv182) : jS)) rfl ?_
  refine jl_s (S' := ((54, [(2, .int 0), (5, .int (b2)), (4, .int 16), (3, .int 1), (0, .ref 66), (1, .int (xs 1))], [.int 1, .int 1], jzv182) : jS)) rfl ?_
  refine jl_s (S' := ((55, [(2, .int 0), (5, .int (b2)), (4, .int 16), (3, .int 1), (0, .ref 66), (1, .int (xs 1))], [.int 2], jzv182) : jS)) rfl ?_
  refine jl_s (S' := ((59, [(2, .int 0), (5, .int (b2)), (4, .int 16), (3, .int 1), (0, .ref 66), (1, .int (xs 1))], [.int 2], jzv182) : jS)) rfl ?_
  refine jl_s (S' := ((60, [(3, .int 2), (2, .int 0), (5, .int (b2)), (4, .int 16), (0, .ref 66), (1, .int (xs 1))], [], jzv182) : jS)) rfl ?_
  refine jl_s (S' := ((63, [(4, .int 24), (3, .int 2), (2, .int 0), (5, .int (b2)), (0, .ref 66), (1, .int (xs 1))], [], jzv182) : jS)) rfl ?_
  refine jl_s (S' := ((7, [(4, .int 24), (3, .int 2), (2, .int 0), (5, .int (b2)), (0, .ref 66), (1, .int (xs 1))], [], jzv182) : jS)) rfl ?_
  exact hq
set_option maxHeartbeats 4000000 in
set_option maxRecDepth 100000 in
theorem jzq879 (xs : Nat → Int32) (b0 b1 b2 b3 : Int32) (e : ((xs 1) >>> (24 &&& 31)) &&& 255 = b3) (h : jbi b3) {f : Nat} {q : jO × jH} (hq : jLoop (jRun ((4, xs) : jX) 2000 38) ((4, xs) : jX) jm248 f ((7, [(4, .int 32), (3, .int 3), (2, .int 1), (5, .int (b3)), (0, .ref 66), (1, .int (xs 1))], [], jzv182) : jS) = some q) : jLoop (jRun ((4, xs) : jX) 2000 38) ((4, xs) : jX) jm248 (f + 28) ((7, [(4, .int 24), (3, .int 2), (2, .int 0), (5, .int (b2)), (0, .ref 66), (1, .int (xs 1))], [], jzv182) : jS) = some q := by
  refine jl_s (S' := ((9, [(4, .int 24), (3, .int 2), (2, .int 0), (5, .int (b2)), (0, .ref 66), (1, .int (xs 1))], [.int 24], jzv182) : jS)) rfl ?_
  refine jl_s (S' := ((11, [(4, .int 24), (3, .int 2), (2, .int 0), (5, .int (b2)), (0, .ref 66), (1, .int (xs 1))], [.int 32, .int 24], jzv182) : jS)) rfl ?_
  refine jl_s (S' := ((14, [(4, .int 24), (3, .int 2), (2, .int 0), (5, .int (b2)), (0, .ref 66), (1, .int (xs 1))], [], jzv182) : jS)) rfl ?_
  refine jl_s (S' := ((15, [(4, .int 24), (3, .int 2), (2, .int 0), (5, .int (b2)), (0, .ref 66), (1, .int (xs 1))], [.int (xs 1)], jzv182) : jS)) rfl ?_
  refine jl_s (S' := ((17, [(4, .int 24), (3, .int 2), (2, .int 0), (5, .int (b2)), (0, .ref 66), (1, .int (xs 1))], [.int 24, .int (xs 1)], jzv182) : jS)) rfl ?_
  refine jl_s (S' := ((18, [(4, .int 24), (3, .int 2), (2, .int 0), (5, .int (b2)), (0, .ref 66), (1, .int (xs 1))], [.int ((xs 1) >>> (24 &&& 31))], jzv182) : jS)) rfl ?_
  refine jl_s (S' := ((21, [(4, .int 24), (3, .int 2), (2, .int 0), (5, .int (b2)), (0, .ref 66), (1, .int (xs 1))], [.int 255, .int ((xs 1) >>> (24 &&& 31))], jzv182) : jS)) rfl ?_
  refine jl_s (S' := ((22, [(4, .int 24), (3, .int 2), (2, .int 0), (5, .int (b2)), (0, .ref 66), (1, .int (xs 1))], [.int (((xs 1) >>> (24 &&& 31)) &&& 255)], jzv182) : jS)) rfl ?_
  rw [e]
  refine jl_s (S' := ((24, [(5, .int (b3)), (4, .int 24), (3, .int 2), (2, .int 0), (0, .ref 66), (1, .int (xs 1))], [], jzv182) : jS)) rfl ?_
  refine jl_s (S' := ((25, [(5, .int (b3)), (4, .int 24), (3, .int 2), (2, .int 0), (0, .ref 66), (1, .int (xs 1))], [.int 0], jzv182) : jS)) rfl ?_
  refine jl_s (S' := ((28, [(5, .int (b3)), (4, .int 24), (3, .int 2), (2, .int 0), (0, .ref 66), (1, .int (xs 1))], [], jzv182) : jS)) rfl ?_
  refine jl_s (S' := ((30, [(5, .int (b3)), (4, .int 24), (3, .int 2), (2, .int 0), (0, .ref 66), (1, .int (xs 1))], [.int (b3)], jzv182) : jS)) rfl ?_
  refine jl_iff (e := jm248) (o := 15) rfl (h.1.1) ?_
  refine jl_s (S' := ((35, [(5, .int (b3)), (4, .int 24), (3, .int 2), (2, .int 0), (0, .ref 66), (1, .int (xs 1))], [.int (b3)], jzv182) : jS)) rfl ?_
  refine jl_c (t := 247) (as := [.int (b3)]) (V := jzv182) (r := (.inl (some (.int 0)), jzv182)) (S' := ((38, [(5, .int (b3)), (4, .int 24), (3, .int 2), (2, .int 0), (0, .ref 66), (1, .int (xs 1))], [.int 0], jzv182) : jS)) rfl (jz_si ((4, xs) : jX) jzv182 b3 h ) rfl ?_
  refine jl_s (S' := ((41, [(5, .int (b3)), (4, .int 24), (3, .int 2), (2, .int 0), (0, .ref 66), (1, .int (xs 1))], [], jzv182) : jS)) rfl ?_
  refine jl_s (S' := ((42, [(5, .int (b3)), (4, .int 24), (3, .int 2), (2, .int 0), (0, .ref 66), (1, .int (xs 1))], [.int 1], jzv182) : jS)) rfl ?_
  refine jl_s (S' := ((46, [(5, .int (b3)), (4, .int 24), (3, .int 2), (2, .int 0), (0, .ref 66), (1, .int (xs 1))], [.int 1], jzv182) : jS)) rfl ?_
  refine jl_s (S' := ((47, [(2, .int 1), (5, .int (b3)), (4, .int 24), (3, .int 2), (0, .ref 66), (1, .int (xs 1))], [], jzv182) : jS)) rfl ?_
  refine jl_s (S' := ((49, [(2, .int 1), (5, .int (b3)), (4, .int 24), (3, .int 2), (0, .ref 66), (1, .int (xs 1))], [.int (b3)], jzv182) : jS)) rfl ?_
  refine jl_iff (e := jm248) (o := 9) rfl (h.1.1) ?_
  refine jl_s (S' := ((53, [(2, .int 1), (5, .int (b3)), (4, .int 24), (3, .int 2), (0, .ref 66), (1, .int (xs 1))], [.int 2], jzv182) : jS)) rfl ?_
  refine jl_s (S' := ((54, [(2, .int 1), (5, .int (b3)), (4, .int 24), (3, .int 2), (0, .ref 66), (1, .int (xs 1))], [.int 1, .int 2], jzv182) : jS)) rfl ?_
  refine jl_s (S' := ((55, [(2, .int 1), (5, .int (b3)), (4, .int 24), (3, .int 2), (0, .ref 66), (1, .int (xs 1))], [.int 3], jzv182) : jS)) rfl ?_
  refine jl_s (S' := ((59, [(2, .int 1), (5, .int (b3)), (4, .int 24), (3, .int 2), (0, .ref 66), (1, .int (xs 1))], [.int 3], jzv182) : jS)) rfl ?_
  refine jl_s (S' := ((60, [(3, .int 3), (2, .int 1), (5, .int (b3)), (4, .int 24), (0, .ref 66), (1, .int (xs 1))], [], jzv182) : jS)) rfl ?_
  refine jl_s (S' := ((63, [(4, .int 32), (3, .int 3), (2, .int 1), (5, .int (b3)), (0, .ref 66), (1, .int (xs 1))], [], jzv182) : jS)) rfl ?_
  refine jl_s (S' := ((7, [(4, .int 32), (3, .int 3), (2, .int 1), (5, .int (b3)), (0, .ref 66), (1, .int (xs 1))], [], jzv182) : jS)) rfl ?_
  exact hq
set_option maxHeartbeats 4000000 in
set_option maxRecDepth 100000 in
theorem jzrg880 (xs : Nat → Int32) (b0 b1 b2 b3 : Int32) (e3 : ((xs 1) >>> (24 &&& 31)) &&& 255 = b3) (h : jbI3 b3) {f : Nat} : jLoop (jRun ((4, xs) : jX) 2000 38) ((4, xs) : jX) jm248 (f + 180) ((7, [(4, .int 24), (3, .int 2), (2, .int 0), (5, .int (b2)), (0, .ref 66), (1, .int (xs 1))], [], jzv182) : jS) = some (.inl (some (.int 0)), jzv183) := by
  exact jzq879 xs b0 b1 b2 b3 e3 h (jzq832 xs b0 b1 b2 b3)
set_option maxHeartbeats 4000000 in
set_option maxRecDepth 100000 in
theorem jzrg881 (xs : Nat → Int32) (b0 b1 b2 b3 : Int32) (e2 : ((xs 1) >>> (16 &&& 31)) &&& 255 = b2) (e3 : ((xs 1) >>> (24 &&& 31)) &&& 255 = b3) (h : jbI2 b2 b3) (hj : jbJ3 b3) {f : Nat} : jLoop (jRun ((4, xs) : jX) 2000 38) ((4, xs) : jX) jm248 (f + 240) ((7, [(4, .int 16), (3, .int 1), (2, .int 0), (5, .int (b1)), (0, .ref 66), (1, .int (xs 1))], [], jzv182) : jS) = some (.inl (some (.int 0)), jzv183) := by
  rcases h with h | ⟨h | h, h'⟩
  · exact jzq873 xs b0 b1 b2 b3 e2 h (jzri833 xs b0 b1 b2 b3 e3 hj)
  · exact jzq875 xs b0 b1 b2 b3 e2 h (jzrg870 xs b0 b1 b2 b3 e3 h')
  · exact jzq877 xs b0 b1 b2 b3 e2 h (jzrg880 xs b0 b1 b2 b3 e3 h')
set_option maxHeartbeats 4000000 in
set_option maxRecDepth 100000 in
theorem jzrg882 (xs : Nat → Int32) (b0 b1 b2 b3 : Int32) (e1 : ((xs 1) >>> (8 &&& 31)) &&& 255 = b1) (e2 : ((xs 1) >>> (16 &&& 31)) &&& 255 = b2) (e3 : ((xs 1) >>> (24 &&& 31)) &&& 255 = b3) (h : jbI1 b1 b2 b3) (hj : jbJ2 b2 b3) {f : Nat} : jLoop (jRun ((4, xs) : jX) 2000 38) ((4, xs) : jX) jm248 (f + 300) ((7, [(4, .int 8), (3, .int 0), (2, .int 0), (5, .int (b0)), (0, .ref 66), (1, .int (xs 1))], [], jzv182) : jS) = some (.inl (some (.int 0)), jzv183) := by
  rcases h with h | ⟨h | h, h'⟩
  · exact jzq854 xs b0 b1 b2 b3 e1 h (jzri834 xs b0 b1 b2 b3 e2 e3 hj)
  · exact jzq856 xs b0 b1 b2 b3 e1 h (jzrg871 xs b0 b1 b2 b3 e2 e3 h' hj.2)
  · exact jzq858 xs b0 b1 b2 b3 e1 h (jzrg881 xs b0 b1 b2 b3 e2 e3 h' hj.2)
set_option maxHeartbeats 4000000 in
set_option maxRecDepth 100000 in
theorem jzq884 (xs : Nat → Int32) (b0 b1 b2 b3 : Int32) (e : ((xs 1) >>> (8 &&& 31)) &&& 255 = b1) (h : jbi b1) {f : Nat} {q : jO × jH} (hq : jLoop (jRun ((4, xs) : jX) 2000 38) ((4, xs) : jX) jm248 f ((7, [(4, .int 16), (3, .int 2), (2, .int 1), (5, .int (b1)), (0, .ref 66), (1, .int (xs 1))], [], jzv182) : jS) = some q) : jLoop (jRun ((4, xs) : jX) 2000 38) ((4, xs) : jX) jm248 (f + 28) ((7, [(4, .int 8), (3, .int 1), (2, .int 0), (5, .int (b0)), (0, .ref 66), (1, .int (xs 1))], [], jzv182) : jS) = some q := by
  refine jl_s (S' := ((9, [(4, .int 8), (3, .int 1), (2, .int 0), (5, .int (b0)), (0, .ref 66), (1, .int (xs 1))], [.int 8], jzv182) : jS)) rfl ?_
  refine jl_s (S' := ((11, [(4, .int 8), (3, .int 1), (2, .int 0), (5, .int (b0)), (0, .ref 66), (1, .int (xs 1))], [.int 32, .int 8], jzv182) : jS)) rfl ?_
  refine jl_s (S' := ((14, [(4, .int 8), (3, .int 1), (2, .int 0), (5, .int (b0)), (0, .ref 66), (1, .int (xs 1))], [], jzv182) : jS)) rfl ?_
  refine jl_s (S' := ((15, [(4, .int 8), (3, .int 1), (2, .int 0), (5, .int (b0)), (0, .ref 66), (1, .int (xs 1))], [.int (xs 1)], jzv182) : jS)) rfl ?_
  refine jl_s (S' := ((17, [(4, .int 8), (3, .int 1), (2, .int 0), (5, .int (b0)), (0, .ref 66), (1, .int (xs 1))], [.int 8, .int (xs 1)], jzv182) : jS)) rfl ?_
  refine jl_s (S' := ((18, [(4, .int 8), (3, .int 1), (2, .int 0), (5, .int (b0)), (0, .ref 66), (1, .int (xs 1))], [.int ((xs 1) >>> (8 &&& 31))], jzv182) : jS)) rfl ?_
  refine jl_s (S' := ((21, [(4, .int 8), (3, .int 1), (2, .int 0), (5, .int (b0)), (0, .ref 66), (1, .int (xs 1))], [.int 255, .int ((xs 1) >>> (8 &&& 31))], jzv182) : jS)) rfl ?_
  refine jl_s (S' := ((22, [(4, .int 8), (3, .int 1), (2, .int 0), (5, .int (b0)), (0, .ref 66), (1, .int (xs 1))], [.int (((xs 1) >>> (8 &&& 31)) &&& 255)], jzv182) : jS)) rfl ?_
  rw [e]
  refine jl_s (S' := ((24, [(5, .int (b1)), (4, .int 8), (3, .int 1), (2, .int 0), (0, .ref 66), (1, .int (xs 1))], [], jzv182) : jS)) rfl ?_
  refine jl_s (S' := ((25, [(5, .int (b1)), (4, .int 8), (3, .int 1), (2, .int 0), (0, .ref 66), (1, .int (xs 1))], [.int 0], jzv182) : jS)) rfl ?_
  refine jl_s (S' := ((28, [(5, .int (b1)), (4, .int 8), (3, .int 1), (2, .int 0), (0, .ref 66), (1, .int (xs 1))], [], jzv182) : jS)) rfl ?_
  refine jl_s (S' := ((30, [(5, .int (b1)), (4, .int 8), (3, .int 1), (2, .int 0), (0, .ref 66), (1, .int (xs 1))], [.int (b1)], jzv182) : jS)) rfl ?_
  refine jl_iff (e := jm248) (o := 15) rfl (h.1.1) ?_
  refine jl_s (S' := ((35, [(5, .int (b1)), (4, .int 8), (3, .int 1), (2, .int 0), (0, .ref 66), (1, .int (xs 1))], [.int (b1)], jzv182) : jS)) rfl ?_
  refine jl_c (t := 247) (as := [.int (b1)]) (V := jzv182) (r := (.inl (some (.int 0)), jzv182)) (S' := ((38, [(5, .int (b1)), (4, .int 8), (3, .int 1), (2, .int 0), (0, .ref 66), (1, .int (xs 1))], [.int 0], jzv182) : jS)) rfl (jz_si ((4, xs) : jX) jzv182 b1 h ) rfl ?_
  refine jl_s (S' := ((41, [(5, .int (b1)), (4, .int 8), (3, .int 1), (2, .int 0), (0, .ref 66), (1, .int (xs 1))], [], jzv182) : jS)) rfl ?_
  refine jl_s (S' := ((42, [(5, .int (b1)), (4, .int 8), (3, .int 1), (2, .int 0), (0, .ref 66), (1, .int (xs 1))], [.int 1], jzv182) : jS)) rfl ?_
  refine jl_s (S' := ((46, [(5, .int (b1)), (4, .int 8), (3, .int 1), (2, .int 0), (0, .ref 66), (1, .int (xs 1))], [.int 1], jzv182) : jS)) rfl ?_
  refine jl_s (S' := ((47, [(2, .int 1), (5, .int (b1)), (4, .int 8), (3, .int 1), (0, .ref 66), (1, .int (xs 1))], [], jzv182) : jS)) rfl ?_
  refine jl_s (S' := ((49, [(2, .int 1), (5, .int (b1)), (4, .int 8), (3, .int 1), (0, .ref 66), (1, .int (xs 1))], [.int (b1)], jzv182) : jS)) rfl ?_
  refine jl_iff (e := jm248) (o := 9) rfl (h.1.1) ?_
  refine jl_s (S' := ((53, [(2, .int 1), (5, .int (b1)), (4, .int 8), (3, .int 1), (0, .ref 66), (1, .int (xs 1))], [.int 1], jzv182) : jS)) rfl ?_
  refine jl_s (S' := ((54, [(2, .int 1), (5, .int (b1)), (4, .int 8), (3, .int 1), (0, .ref 66), (1, .int (xs 1))], [.int 1, .int 1], jzv182) : jS)) rfl ?_
  refine jl_s (S' := ((55, [(2, .int 1), (5, .int (b1)), (4, .int 8), (3, .int 1), (0, .ref 66), (1, .int (xs 1))], [.int 2], jzv182) : jS)) rfl ?_
  refine jl_s (S' := ((59, [(2, .int 1), (5, .int (b1)), (4, .int 8), (3, .int 1), (0, .ref 66), (1, .int (xs 1))], [.int 2], jzv182) : jS)) rfl ?_
  refine jl_s (S' := ((60, [(3, .int 2), (2, .int 1), (5, .int (b1)), (4, .int 8), (0, .ref 66), (1, .int (xs 1))], [], jzv182) : jS)) rfl ?_
  refine jl_s (S' := ((63, [(4, .int 16), (3, .int 2), (2, .int 1), (5, .int (b1)), (0, .ref 66), (1, .int (xs 1))], [], jzv182) : jS)) rfl ?_
  refine jl_s (S' := ((7, [(4, .int 16), (3, .int 2), (2, .int 1), (5, .int (b1)), (0, .ref 66), (1, .int (xs 1))], [], jzv182) : jS)) rfl ?_
  exact hq
set_option maxHeartbeats 4000000 in
set_option maxRecDepth 100000 in
theorem jzq886 (xs : Nat → Int32) (b0 b1 b2 b3 : Int32) (e : ((xs 1) >>> (8 &&& 31)) &&& 255 = b1) (h : jbz b1) {f : Nat} {q : jO × jH} (hq : jLoop (jRun ((4, xs) : jX) 2000 38) ((4, xs) : jX) jm248 f ((7, [(4, .int 16), (3, .int 1), (2, .int 0), (5, .int (b1)), (0, .ref 66), (1, .int (xs 1))], [], jzv182) : jS) = some q) : jLoop (jRun ((4, xs) : jX) 2000 38) ((4, xs) : jX) jm248 (f + 21) ((7, [(4, .int 8), (3, .int 1), (2, .int 0), (5, .int (b0)), (0, .ref 66), (1, .int (xs 1))], [], jzv182) : jS) = some q := by
  refine jl_s (S' := ((9, [(4, .int 8), (3, .int 1), (2, .int 0), (5, .int (b0)), (0, .ref 66), (1, .int (xs 1))], [.int 8], jzv182) : jS)) rfl ?_
  refine jl_s (S' := ((11, [(4, .int 8), (3, .int 1), (2, .int 0), (5, .int (b0)), (0, .ref 66), (1, .int (xs 1))], [.int 32, .int 8], jzv182) : jS)) rfl ?_
  refine jl_s (S' := ((14, [(4, .int 8), (3, .int 1), (2, .int 0), (5, .int (b0)), (0, .ref 66), (1, .int (xs 1))], [], jzv182) : jS)) rfl ?_
  refine jl_s (S' := ((15, [(4, .int 8), (3, .int 1), (2, .int 0), (5, .int (b0)), (0, .ref 66), (1, .int (xs 1))], [.int (xs 1)], jzv182) : jS)) rfl ?_
  refine jl_s (S' := ((17, [(4, .int 8), (3, .int 1), (2, .int 0), (5, .int (b0)), (0, .ref 66), (1, .int (xs 1))], [.int 8, .int (xs 1)], jzv182) : jS)) rfl ?_
  refine jl_s (S' := ((18, [(4, .int 8), (3, .int 1), (2, .int 0), (5, .int (b0)), (0, .ref 66), (1, .int (xs 1))], [.int ((xs 1) >>> (8 &&& 31))], jzv182) : jS)) rfl ?_
  refine jl_s (S' := ((21, [(4, .int 8), (3, .int 1), (2, .int 0), (5, .int (b0)), (0, .ref 66), (1, .int (xs 1))], [.int 255, .int ((xs 1) >>> (8 &&& 31))], jzv182) : jS)) rfl ?_
  refine jl_s (S' := ((22, [(4, .int 8), (3, .int 1), (2, .int 0), (5, .int (b0)), (0, .ref 66), (1, .int (xs 1))], [.int (((xs 1) >>> (8 &&& 31)) &&& 255)], jzv182) : jS)) rfl ?_
  rw [e]
  refine jl_s (S' := ((24, [(5, .int (b1)), (4, .int 8), (3, .int 1), (2, .int 0), (0, .ref 66), (1, .int (xs 1))], [], jzv182) : jS)) rfl ?_
  refine jl_s (S' := ((25, [(5, .int (b1)), (4, .int 8), (3, .int 1), (2, .int 0), (0, .ref 66), (1, .int (xs 1))], [.int 0], jzv182) : jS)) rfl ?_
  refine jl_s (S' := ((28, [(5, .int (b1)), (4, .int 8), (3, .int 1), (2, .int 0), (0, .ref 66), (1, .int (xs 1))], [], jzv182) : jS)) rfl ?_
  refine jl_s (S' := ((30, [(5, .int (b1)), (4, .int 8), (3, .int 1), (2, .int 0), (0, .ref 66), (1, .int (xs 1))], [.int (b1)], jzv182) : jS)) rfl ?_
  refine jl_ift (e := jm248) (o := 15) rfl (h.1) (t := 45) rfl ?_
  refine jl_s (S' := ((46, [(5, .int (b1)), (4, .int 8), (3, .int 1), (2, .int 0), (0, .ref 66), (1, .int (xs 1))], [.int 0], jzv182) : jS)) rfl ?_
  refine jl_s (S' := ((47, [(2, .int 0), (5, .int (b1)), (4, .int 8), (3, .int 1), (0, .ref 66), (1, .int (xs 1))], [], jzv182) : jS)) rfl ?_
  refine jl_s (S' := ((49, [(2, .int 0), (5, .int (b1)), (4, .int 8), (3, .int 1), (0, .ref 66), (1, .int (xs 1))], [.int (b1)], jzv182) : jS)) rfl ?_
  refine jl_ift (e := jm248) (o := 9) rfl (h.1) (t := 58) rfl ?_
  refine jl_s (S' := ((59, [(2, .int 0), (5, .int (b1)), (4, .int 8), (3, .int 1), (0, .ref 66), (1, .int (xs 1))], [.int 1], jzv182) : jS)) rfl ?_
  refine jl_s (S' := ((60, [(3, .int 1), (2, .int 0), (5, .int (b1)), (4, .int 8), (0, .ref 66), (1, .int (xs 1))], [], jzv182) : jS)) rfl ?_
  refine jl_s (S' := ((63, [(4, .int 16), (3, .int 1), (2, .int 0), (5, .int (b1)), (0, .ref 66), (1, .int (xs 1))], [], jzv182) : jS)) rfl ?_
  refine jl_s (S' := ((7, [(4, .int 16), (3, .int 1), (2, .int 0), (5, .int (b1)), (0, .ref 66), (1, .int (xs 1))], [], jzv182) : jS)) rfl ?_
  exact hq
set_option maxHeartbeats 4000000 in
set_option maxRecDepth 100000 in
theorem jzq888 (xs : Nat → Int32) (b0 b1 b2 b3 : Int32) (e : ((xs 1) >>> (8 &&& 31)) &&& 255 = b1) (h : jbv b1) {f : Nat} {q : jO × jH} (hq : jLoop (jRun ((4, xs) : jX) 2000 38) ((4, xs) : jX) jm248 f ((7, [(4, .int 16), (3, .int 2), (2, .int 0), (5, .int (b1)), (0, .ref 66), (1, .int (xs 1))], [], jzv182) : jS) = some q) : jLoop (jRun ((4, xs) : jX) 2000 38) ((4, xs) : jX) jm248 (f + 27) ((7, [(4, .int 8), (3, .int 1), (2, .int 0), (5, .int (b0)), (0, .ref 66), (1, .int (xs 1))], [], jzv182) : jS) = some q := by
  refine jl_s (S' := ((9, [(4, .int 8), (3, .int 1), (2, .int 0), (5, .int (b0)), (0, .ref 66), (1, .int (xs 1))], [.int 8], jzv182) : jS)) rfl ?_
  refine jl_s (S' := ((11, [(4, .int 8), (3, .int 1), (2, .int 0), (5, .int (b0)), (0, .ref 66), (1, .int (xs 1))], [.int 32, .int 8], jzv182) : jS)) rfl ?_
  refine jl_s (S' := ((14, [(4, .int 8), (3, .int 1), (2, .int 0), (5, .int (b0)), (0, .ref 66), (1, .int (xs 1))], [], jzv182) : jS)) rfl ?_
  refine jl_s (S' := ((15, [(4, .int 8), (3, .int 1), (2, .int 0), (5, .int (b0)), (0, .ref 66), (1, .int (xs 1))], [.int (xs 1)], jzv182) : jS)) rfl ?_
  refine jl_s (S' := ((17, [(4, .int 8), (3, .int 1), (2, .int 0), (5, .int (b0)), (0, .ref 66), (1, .int (xs 1))], [.int 8, .int (xs 1)], jzv182) : jS)) rfl ?_
  refine jl_s (S' := ((18, [(4, .int 8), (3, .int 1), (2, .int 0), (5, .int (b0)), (0, .ref 66), (1, .int (xs 1))], [.int ((xs 1) >>> (8 &&& 31))], jzv182) : jS)) rfl ?_
  refine jl_s (S' := ((21, [(4, .int 8), (3, .int 1), (2, .int 0), (5, .int (b0)), (0, .ref 66), (1, .int (xs 1))], [.int 255, .int ((xs 1) >>> (8 &&& 31))], jzv182) : jS)) rfl ?_
  refine jl_s (S' := ((22, [(4, .int 8), (3, .int 1), (2, .int 0), (5, .int (b0)), (0, .ref 66), (1, .int (xs 1))], [.int (((xs 1) >>> (8 &&& 31)) &&& 255)], jzv182) : jS)) rfl ?_
  rw [e]
  refine jl_s (S' := ((24, [(5, .int (b1)), (4, .int 8), (3, .int 1), (2, .int 0), (0, .ref 66), (1, .int (xs 1))], [], jzv182) : jS)) rfl ?_
  refine jl_s (S' := ((25, [(5, .int (b1)), (4, .int 8), (3, .int 1), (2, .int 0), (0, .ref 66), (1, .int (xs 1))], [.int 0], jzv182) : jS)) rfl ?_
  refine jl_s (S' := ((28, [(5, .int (b1)), (4, .int 8), (3, .int 1), (2, .int 0), (0, .ref 66), (1, .int (xs 1))], [], jzv182) : jS)) rfl ?_
  refine jl_s (S' := ((30, [(5, .int (b1)), (4, .int 8), (3, .int 1), (2, .int 0), (0, .ref 66), (1, .int (xs 1))], [.int (b1)], jzv182) : jS)) rfl ?_
  refine jl_iff (e := jm248) (o := 15) rfl (h.1.1) ?_
  refine jl_s (S' := ((35, [(5, .int (b1)), (4, .int 8), (3, .int 1), (2, .int 0), (0, .ref 66), (1, .int (xs 1))], [.int (b1)], jzv182) : jS)) rfl ?_
  refine jl_c (t := 247) (as := [.int (b1)]) (V := jzv182) (r := (.inl (some (.int 1)), jzv182)) (S' := ((38, [(5, .int (b1)), (4, .int 8), (3, .int 1), (2, .int 0), (0, .ref 66), (1, .int (xs 1))], [.int 1], jzv182) : jS)) rfl (jz_sv ((4, xs) : jX) jzv182 b1 h ) rfl ?_
  refine jl_s (S' := ((45, [(5, .int (b1)), (4, .int 8), (3, .int 1), (2, .int 0), (0, .ref 66), (1, .int (xs 1))], [], jzv182) : jS)) rfl ?_
  refine jl_s (S' := ((46, [(5, .int (b1)), (4, .int 8), (3, .int 1), (2, .int 0), (0, .ref 66), (1, .int (xs 1))], [.int 0], jzv182) : jS)) rfl ?_
  refine jl_s (S' := ((47, [(2, .int 0), (5, .int (b1)), (4, .int 8), (3, .int 1), (0, .ref 66), (1, .int (xs 1))], [], jzv182) : jS)) rfl ?_
  refine jl_s (S' := ((49, [(2, .int 0), (5, .int (b1)), (4, .int 8), (3, .int 1), (0, .ref 66), (1, .int (xs 1))], [.int (b1)], jzv182) : jS)) rfl ?_
  refine jl_iff (e := jm248) (o := 9) rfl (h.1.1) ?_
  refine jl_s (S' := ((53, [(2, .int 0), (5, .int (b1)), (4, .int 8), (3, .int 1), (0, .ref 66), (1, .int (xs 1))], [.int 1], jzv182) : jS)) rfl ?_
  refine jl_s (S' := ((54, [(2, .int 0), (5, .int (b1)), (4, .int 8), (3, .int 1), (0, .ref 66), (1, .int (xs 1))], [.int 1, .int 1], jzv182) : jS)) rfl ?_
  refine jl_s (S' := ((55, [(2, .int 0), (5, .int (b1)), (4, .int 8), (3, .int 1), (0, .ref 66), (1, .int (xs 1))], [.int 2], jzv182) : jS)) rfl ?_
  refine jl_s (S' := ((59, [(2, .int 0), (5, .int (b1)), (4, .int 8), (3, .int 1), (0, .ref 66), (1, .int (xs 1))], [.int 2], jzv182) : jS)) rfl ?_
  refine jl_s (S' := ((60, [(3, .int 2), (2, .int 0), (5, .int (b1)), (4, .int 8), (0, .ref 66), (1, .int (xs 1))], [], jzv182) : jS)) rfl ?_
  refine jl_s (S' := ((63, [(4, .int 16), (3, .int 2), (2, .int 0), (5, .int (b1)), (0, .ref 66), (1, .int (xs 1))], [], jzv182) : jS)) rfl ?_
  refine jl_s (S' := ((7, [(4, .int 16), (3, .int 2), (2, .int 0), (5, .int (b1)), (0, .ref 66), (1, .int (xs 1))], [], jzv182) : jS)) rfl ?_
  exact hq
set_option maxHeartbeats 4000000 in
set_option maxRecDepth 100000 in
theorem jzq890 (xs : Nat → Int32) (b0 b1 b2 b3 : Int32) (e : ((xs 1) >>> (16 &&& 31)) &&& 255 = b2) (h : jbi b2) {f : Nat} {q : jO × jH} (hq : jLoop (jRun ((4, xs) : jX) 2000 38) ((4, xs) : jX) jm248 f ((7, [(4, .int 24), (3, .int 3), (2, .int 1), (5, .int (b2)), (0, .ref 66), (1, .int (xs 1))], [], jzv182) : jS) = some q) : jLoop (jRun ((4, xs) : jX) 2000 38) ((4, xs) : jX) jm248 (f + 28) ((7, [(4, .int 16), (3, .int 2), (2, .int 0), (5, .int (b1)), (0, .ref 66), (1, .int (xs 1))], [], jzv182) : jS) = some q := by
  refine jl_s (S' := ((9, [(4, .int 16), (3, .int 2), (2, .int 0), (5, .int (b1)), (0, .ref 66), (1, .int (xs 1))], [.int 16], jzv182) : jS)) rfl ?_
  refine jl_s (S' := ((11, [(4, .int 16), (3, .int 2), (2, .int 0), (5, .int (b1)), (0, .ref 66), (1, .int (xs 1))], [.int 32, .int 16], jzv182) : jS)) rfl ?_
  refine jl_s (S' := ((14, [(4, .int 16), (3, .int 2), (2, .int 0), (5, .int (b1)), (0, .ref 66), (1, .int (xs 1))], [], jzv182) : jS)) rfl ?_
  refine jl_s (S' := ((15, [(4, .int 16), (3, .int 2), (2, .int 0), (5, .int (b1)), (0, .ref 66), (1, .int (xs 1))], [.int (xs 1)], jzv182) : jS)) rfl ?_
  refine jl_s (S' := ((17, [(4, .int 16), (3, .int 2), (2, .int 0), (5, .int (b1)), (0, .ref 66), (1, .int (xs 1))], [.int 16, .int (xs 1)], jzv182) : jS)) rfl ?_
  refine jl_s (S' := ((18, [(4, .int 16), (3, .int 2), (2, .int 0), (5, .int (b1)), (0, .ref 66), (1, .int (xs 1))], [.int ((xs 1) >>> (16 &&& 31))], jzv182) : jS)) rfl ?_
  refine jl_s (S' := ((21, [(4, .int 16), (3, .int 2), (2, .int 0), (5, .int (b1)), (0, .ref 66), (1, .int (xs 1))], [.int 255, .int ((xs 1) >>> (16 &&& 31))], jzv182) : jS)) rfl ?_
  refine jl_s (S' := ((22, [(4, .int 16), (3, .int 2), (2, .int 0), (5, .int (b1)), (0, .ref 66), (1, .int (xs 1))], [.int (((xs 1) >>> (16 &&& 31)) &&& 255)], jzv182) : jS)) rfl ?_
  rw [e]
  refine jl_s (S' := ((24, [(5, .int (b2)), (4, .int 16), (3, .int 2), (2, .int 0), (0, .ref 66), (1, .int (xs 1))], [], jzv182) : jS)) rfl ?_
  refine jl_s (S' := ((25, [(5, .int (b2)), (4, .int 16), (3, .int 2), (2, .int 0), (0, .ref 66), (1, .int (xs 1))], [.int 0], jzv182) : jS)) rfl ?_
  refine jl_s (S' := ((28, [(5, .int (b2)), (4, .int 16), (3, .int 2), (2, .int 0), (0, .ref 66), (1, .int (xs 1))], [], jzv182) : jS)) rfl ?_
  refine jl_s (S' := ((30, [(5, .int (b2)), (4, .int 16), (3, .int 2), (2, .int 0), (0, .ref 66), (1, .int (xs 1))], [.int (b2)], jzv182) : jS)) rfl ?_
  refine jl_iff (e := jm248) (o := 15) rfl (h.1.1) ?_
  refine jl_s (S' := ((35, [(5, .int (b2)), (4, .int 16), (3, .int 2), (2, .int 0), (0, .ref 66), (1, .int (xs 1))], [.int (b2)], jzv182) : jS)) rfl ?_
  refine jl_c (t := 247) (as := [.int (b2)]) (V := jzv182) (r := (.inl (some (.int 0)), jzv182)) (S' := ((38, [(5, .int (b2)), (4, .int 16), (3, .int 2), (2, .int 0), (0, .ref 66), (1, .int (xs 1))], [.int 0], jzv182) : jS)) rfl (jz_si ((4, xs) : jX) jzv182 b2 h ) rfl ?_
  refine jl_s (S' := ((41, [(5, .int (b2)), (4, .int 16), (3, .int 2), (2, .int 0), (0, .ref 66), (1, .int (xs 1))], [], jzv182) : jS)) rfl ?_
  refine jl_s (S' := ((42, [(5, .int (b2)), (4, .int 16), (3, .int 2), (2, .int 0), (0, .ref 66), (1, .int (xs 1))], [.int 1], jzv182) : jS)) rfl ?_
  refine jl_s (S' := ((46, [(5, .int (b2)), (4, .int 16), (3, .int 2), (2, .int 0), (0, .ref 66), (1, .int (xs 1))], [.int 1], jzv182) : jS)) rfl ?_
  refine jl_s (S' := ((47, [(2, .int 1), (5, .int (b2)), (4, .int 16), (3, .int 2), (0, .ref 66), (1, .int (xs 1))], [], jzv182) : jS)) rfl ?_
  refine jl_s (S' := ((49, [(2, .int 1), (5, .int (b2)), (4, .int 16), (3, .int 2), (0, .ref 66), (1, .int (xs 1))], [.int (b2)], jzv182) : jS)) rfl ?_
  refine jl_iff (e := jm248) (o := 9) rfl (h.1.1) ?_
  refine jl_s (S' := ((53, [(2, .int 1), (5, .int (b2)), (4, .int 16), (3, .int 2), (0, .ref 66), (1, .int (xs 1))], [.int 2], jzv182) : jS)) rfl ?_
  refine jl_s (S' := ((54, [(2, .int 1), (5, .int (b2)), (4, .int 16), (3, .int 2), (0, .ref 66), (1, .int (xs 1))], [.int 1, .int 2], jzv182) : jS)) rfl ?_
  refine jl_s (S' := ((55, [(2, .int 1), (5, .int (b2)), (4, .int 16), (3, .int 2), (0, .ref 66), (1, .int (xs 1))], [.int 3], jzv182) : jS)) rfl ?_
  refine jl_s (S' := ((59, [(2, .int 1), (5, .int (b2)), (4, .int 16), (3, .int 2), (0, .ref 66), (1, .int (xs 1))], [.int 3], jzv182) : jS)) rfl ?_
  refine jl_s (S' := ((60, [(3, .int 3), (2, .int 1), (5, .int (b2)), (4, .int 16), (0, .ref 66), (1, .int (xs 1))], [], jzv182) : jS)) rfl ?_
  refine jl_s (S' := ((63, [(4, .int 24), (3, .int 3), (2, .int 1), (5, .int (b2)), (0, .ref 66), (1, .int (xs 1))], [], jzv182) : jS)) rfl ?_
  refine jl_s (S' := ((7, [(4, .int 24), (3, .int 3), (2, .int 1), (5, .int (b2)), (0, .ref 66), (1, .int (xs 1))], [], jzv182) : jS)) rfl ?_
  exact hq
set_option maxHeartbeats 4000000 in
set_option maxRecDepth 100000 in
theorem jzq892 (xs : Nat → Int32) (b0 b1 b2 b3 : Int32) (e : ((xs 1) >>> (16 &&& 31)) &&& 255 = b2) (h : jbz b2) {f : Nat} {q : jO × jH} (hq : jLoop (jRun ((4, xs) : jX) 2000 38) ((4, xs) : jX) jm248 f ((7, [(4, .int 24), (3, .int 2), (2, .int 0), (5, .int (b2)), (0, .ref 66), (1, .int (xs 1))], [], jzv182) : jS) = some q) : jLoop (jRun ((4, xs) : jX) 2000 38) ((4, xs) : jX) jm248 (f + 21) ((7, [(4, .int 16), (3, .int 2), (2, .int 0), (5, .int (b1)), (0, .ref 66), (1, .int (xs 1))], [], jzv182) : jS) = some q := by
  refine jl_s (S' := ((9, [(4, .int 16), (3, .int 2), (2, .int 0), (5, .int (b1)), (0, .ref 66), (1, .int (xs 1))], [.int 16], jzv182) : jS)) rfl ?_
  refine jl_s (S' := ((11, [(4, .int 16), (3, .int 2), (2, .int 0), (5, .int (b1)), (0, .ref 66), (1, .int (xs 1))], [.int 32, .int 16], jzv182) : jS)) rfl ?_
  refine jl_s (S' := ((14, [(4, .int 16), (3, .int 2), (2, .int 0), (5, .int (b1)), (0, .ref 66), (1, .int (xs 1))], [], jzv182) : jS)) rfl ?_
  refine jl_s (S' := ((15, [(4, .int 16), (3, .int 2), (2, .int 0), (5, .int (b1)), (0, .ref 66), (1, .int (xs 1))], [.int (xs 1)], jzv182) : jS)) rfl ?_
  refine jl_s (S' := ((17, [(4, .int 16), (3, .int 2), (2, .int 0), (5, .int (b1)), (0, .ref 66), (1, .int (xs 1))], [.int 16, .int (xs 1)], jzv182) : jS)) rfl ?_
  refine jl_s (S' := ((18, [(4, .int 16), (3, .int 2), (2, .int 0), (5, .int (b1)), (0, .ref 66), (1, .int (xs 1))], [.int ((xs 1) >>> (16 &&& 31))], jzv182) : jS)) rfl ?_
  refine jl_s (S' := ((21, [(4, .int 16), (3, .int 2), (2, .int 0), (5, .int (b1)), (0, .ref 66), (1, .int (xs 1))], [.int 255, .int ((xs 1) >>> (16 &&& 31))], jzv182) : jS)) rfl ?_
  refine jl_s (S' := ((22, [(4, .int 16), (3, .int 2), (2, .int 0), (5, .int (b1)), (0, .ref 66), (1, .int (xs 1))], [.int (((xs 1) >>> (16 &&& 31)) &&& 255)], jzv182) : jS)) rfl ?_
  rw [e]
  refine jl_s (S' := ((24, [(5, .int (b2)), (4, .int 16), (3, .int 2), (2, .int 0), (0, .ref 66), (1, .int (xs 1))], [], jzv182) : jS)) rfl ?_
  refine jl_s (S' := ((25, [(5, .int (b2)), (4, .int 16), (3, .int 2), (2, .int 0), (0, .ref 66), (1, .int (xs 1))], [.int 0], jzv182) : jS)) rfl ?_
  refine jl_s (S' := ((28, [(5, .int (b2)), (4, .int 16), (3, .int 2), (2, .int 0), (0, .ref 66), (1, .int (xs 1))], [], jzv182) : jS)) rfl ?_
  refine jl_s (S' := ((30, [(5, .int (b2)), (4, .int 16), (3, .int 2), (2, .int 0), (0, .ref 66), (1, .int (xs 1))], [.int (b2)], jzv182) : jS)) rfl ?_
  refine jl_ift (e := jm248) (o := 15) rfl (h.1) (t := 45) rfl ?_
  refine jl_s (S' := ((46, [(5, .int (b2)), (4, .int 16), (3, .int 2), (2, .int 0), (0, .ref 66), (1, .int (xs 1))], [.int 0], jzv182) : jS)) rfl ?_
  refine jl_s (S' := ((47, [(2, .int 0), (5, .int (b2)), (4, .int 16), (3, .int 2), (0, .ref 66), (1, .int (xs 1))], [], jzv182) : jS)) rfl ?_
  refine jl_s (S' := ((49, [(2, .int 0), (5, .int (b2)), (4, .int 16), (3, .int 2), (0, .ref 66), (1, .int (xs 1))], [.int (b2)], jzv182) : jS)) rfl ?_
  refine jl_ift (e := jm248) (o := 9) rfl (h.1) (t := 58) rfl ?_
  refine jl_s (S' := ((59, [(2, .int 0), (5, .int (b2)), (4, .int 16), (3, .int 2), (0, .ref 66), (1, .int (xs 1))], [.int 2], jzv182) : jS)) rfl ?_
  refine jl_s (S' := ((60, [(3, .int 2), (2, .int 0), (5, .int (b2)), (4, .int 16), (0, .ref 66), (1, .int (xs 1))], [], jzv182) : jS)) rfl ?_
  refine jl_s (S' := ((63, [(4, .int 24), (3, .int 2), (2, .int 0), (5, .int (b2)), (0, .ref 66), (1, .int (xs 1))], [], jzv182) : jS)) rfl ?_
  refine jl_s (S' := ((7, [(4, .int 24), (3, .int 2), (2, .int 0), (5, .int (b2)), (0, .ref 66), (1, .int (xs 1))], [], jzv182) : jS)) rfl ?_
  exact hq
set_option maxHeartbeats 4000000 in
set_option maxRecDepth 100000 in
theorem jzq894 (xs : Nat → Int32) (b0 b1 b2 b3 : Int32) (e : ((xs 1) >>> (16 &&& 31)) &&& 255 = b2) (h : jbv b2) {f : Nat} {q : jO × jH} (hq : jLoop (jRun ((4, xs) : jX) 2000 38) ((4, xs) : jX) jm248 f ((7, [(4, .int 24), (3, .int 3), (2, .int 0), (5, .int (b2)), (0, .ref 66), (1, .int (xs 1))], [], jzv182) : jS) = some q) : jLoop (jRun ((4, xs) : jX) 2000 38) ((4, xs) : jX) jm248 (f + 27) ((7, [(4, .int 16), (3, .int 2), (2, .int 0), (5, .int (b1)), (0, .ref 66), (1, .int (xs 1))], [], jzv182) : jS) = some q := by
  refine jl_s (S' := ((9, [(4, .int 16), (3, .int 2), (2, .int 0), (5, .int (b1)), (0, .ref 66), (1, .int (xs 1))], [.int 16], jzv182) : jS)) rfl ?_
  refine jl_s (S' := ((11, [(4, .int 16), (3, .int 2), (2, .int 0), (5, .int (b1)), (0, .ref 66), (1, .int (xs 1))], [.int 32, .int 16], jzv182) : jS)) rfl ?_
  refine jl_s (S' := ((14, [(4, .int 16), (3, .int 2), (2, .int 0), (5, .int (b1)), (0, .ref 66), (1, .int (xs 1))], [], jzv182) : jS)) rfl ?_
  refine jl_s (S' := ((15, [(4, .int 16), (3, .int 2), (2, .int 0), (5, .int (b1)), (0, .ref 66), (1, .int (xs 1))], [.int (xs 1)], jzv182) : jS)) rfl ?_
  refine jl_s (S' := ((17, [(4, .int 16), (3, .int 2), (2, .int 0), (5, .int (b1)), (0, .ref 66), (1, .int (xs 1))], [.int 16, .int (xs 1)], jzv182) : jS)) rfl ?_
  refine jl_s (S' := ((18, [(4, .int 16), (3, .int 2), (2, .int 0), (5, .int (b1)), (0, .ref 66), (1, .int (xs 1))], [.int ((xs 1) >>> (16 &&& 31))], jzv182) : jS)) rfl ?_
  refine jl_s (S' := ((21, [(4, .int 16), (3, .int 2), (2, .int 0), (5, .int (b1)), (0, .ref 66), (1, .int (xs 1))], [.int 255, .int ((xs 1) >>> (16 &&& 31))], jzv182) : jS)) rfl ?_
  refine jl_s (S' := ((22, [(4, .int 16), (3, .int 2), (2, .int 0), (5, .int (b1)), (0, .ref 66), (1, .int (xs 1))], [.int (((xs 1) >>> (16 &&& 31)) &&& 255)], jzv182) : jS)) rfl ?_
  rw [e]
  refine jl_s (S' := ((24, [(5, .int (b2)), (4, .int 16), (3, .int 2), (2, .int 0), (0, .ref 66), (1, .int (xs 1))], [], jzv182) : jS)) rfl ?_
  refine jl_s (S' := ((25, [(5, .int (b2)), (4, .int 16), (3, .int 2), (2, .int 0), (0, .ref 66), (1, .int (xs 1))], [.int 0], jzv182) : jS)) rfl ?_
  refine jl_s (S' := ((28, [(5, .int (b2)), (4, .int 16), (3, .int 2), (2, .int 0), (0, .ref 66), (1, .int (xs 1))], [], jzv182) : jS)) rfl ?_
  refine jl_s (S' := ((30, [(5, .int (b2)), (4, .int 16), (3, .int 2), (2, .int 0), (0, .ref 66), (1, .int (xs 1))], [.int (b2)], jzv182) : jS)) rfl ?_
  refine jl_iff (e := jm248) (o := 15) rfl (h.1.1) ?_
  refine jl_s (S' := ((35, [(5, .int (b2)), (4, .int 16), (3, .int 2), (2, .int 0), (0, .ref 66), (1, .int (xs 1))], [.int (b2)], jzv182) : jS)) rfl ?_
  refine jl_c (t := 247) (as := [.int (b2)]) (V := jzv182) (r := (.inl (some (.int 1)), jzv182)) (S' := ((38, [(5, .int (b2)), (4, .int 16), (3, .int 2), (2, .int 0), (0, .ref 66), (1, .int (xs 1))], [.int 1], jzv182) : jS)) rfl (jz_sv ((4, xs) : jX) jzv182 b2 h ) rfl ?_
  refine jl_s (S' := ((45, [(5, .int (b2)), (4, .int 16), (3, .int 2), (2, .int 0), (0, .ref 66), (1, .int (xs 1))], [], jzv182) : jS)) rfl ?_
  refine jl_s (S' := ((46, [(5, .int (b2)), (4, .int 16), (3, .int 2), (2, .int 0), (0, .ref 66), (1, .int (xs 1))], [.int 0], jzv182) : jS)) rfl ?_
  refine jl_s (S' := ((47, [(2, .int 0), (5, .int (b2)), (4, .int 16), (3, .int 2), (0, .ref 66), (1, .int (xs 1))], [], jzv182) : jS)) rfl ?_
  refine jl_s (S' := ((49, [(2, .int 0), (5, .int (b2)), (4, .int 16), (3, .int 2), (0, .ref 66), (1, .int (xs 1))], [.int (b2)], jzv182) : jS)) rfl ?_
  refine jl_iff (e := jm248) (o := 9) rfl (h.1.1) ?_
  refine jl_s (S' := ((53, [(2, .int 0), (5, .int (b2)), (4, .int 16), (3, .int 2), (0, .ref 66), (1, .int (xs 1))], [.int 2], jzv182) : jS)) rfl ?_
  refine jl_s (S' := ((54, [(2, .int 0), (5, .int (b2)), (4, .int 16), (3, .int 2), (0, .ref 66), (1, .int (xs 1))], [.int 1, .int 2], jzv182) : jS)) rfl ?_
  refine jl_s (S' := ((55, [(2, .int 0), (5, .int (b2)), (4, .int 16), (3, .int 2), (0, .ref 66), (1, .int (xs 1))], [.int 3], jzv182) : jS)) rfl ?_
  refine jl_s (S' := ((59, [(2, .int 0), (5, .int (b2)), (4, .int 16), (3, .int 2), (0, .ref 66), (1, .int (xs 1))], [.int 3], jzv182) : jS)) rfl ?_
  refine jl_s (S' := ((60, [(3, .int 3), (2, .int 0), (5, .int (b2)), (4, .int 16), (0, .ref 66), (1, .int (xs 1))], [], jzv182) : jS)) rfl ?_
  refine jl_s (S' := ((63, [(4, .int 24), (3, .int 3), (2, .int 0), (5, .int (b2)), (0, .ref 66), (1, .int (xs 1))], [], jzv182) : jS)) rfl ?_
  refine jl_s (S' := ((7, [(4, .int 24), (3, .int 3), (2, .int 0), (5, .int (b2)), (0, .ref 66), (1, .int (xs 1))], [], jzv182) : jS)) rfl ?_
  exact hq
set_option maxHeartbeats 4000000 in
set_option maxRecDepth 100000 in
theorem jzq896 (xs : Nat → Int32) (b0 b1 b2 b3 : Int32) (e : ((xs 1) >>> (24 &&& 31)) &&& 255 = b3) (h : jbi b3) {f : Nat} {q : jO × jH} (hq : jLoop (jRun ((4, xs) : jX) 2000 38) ((4, xs) : jX) jm248 f ((7, [(4, .int 32), (3, .int 4), (2, .int 1), (5, .int (b3)), (0, .ref 66), (1, .int (xs 1))], [], jzv182) : jS) = some q) : jLoop (jRun ((4, xs) : jX) 2000 38) ((4, xs) : jX) jm248 (f + 28) ((7, [(4, .int 24), (3, .int 3), (2, .int 0), (5, .int (b2)), (0, .ref 66), (1, .int (xs 1))], [], jzv182) : jS) = some q := by
  refine jl_s (S' := ((9, [(4, .int 24), (3, .int 3), (2, .int 0), (5, .int (b2)), (0, .ref 66), (1, .int (xs 1))], [.int 24], jzv182) : jS)) rfl ?_
  refine jl_s (S' := ((11, [(4, .int 24), (3, .int 3), (2, .int 0), (5, .int (b2)), (0, .ref 66), (1, .int (xs 1))], [.int 32, .int 24], jzv182) : jS)) rfl ?_
  refine jl_s (S' := ((14, [(4, .int 24), (3, .int 3), (2, .int 0), (5, .int (b2)), (0, .ref 66), (1, .int (xs 1))], [], jzv182) : jS)) rfl ?_
  refine jl_s (S' := ((15, [(4, .int 24), (3, .int 3), (2, .int 0), (5, .int (b2)), (0, .ref 66), (1, .int (xs 1))], [.int (xs 1)], jzv182) : jS)) rfl ?_
  refine jl_s (S' := ((17, [(4, .int 24), (3, .int 3), (2, .int 0), (5, .int (b2)), (0, .ref 66), (1, .int (xs 1))], [.int 24, .int (xs 1)], jzv182) : jS)) rfl ?_
  refine jl_s (S' := ((18, [(4, .int 24), (3, .int 3), (2, .int 0), (5, .int (b2)), (0, .ref 66), (1, .int (xs 1))], [.int ((xs 1) >>> (24 &&& 31))], jzv182) : jS)) rfl ?_
  refine jl_s (S' := ((21, [(4, .int 24), (3, .int 3), (2, .int 0), (5, .int (b2)), (0, .ref 66), (1, .int (xs 1))], [.int 255, .int ((xs 1) >>> (24 &&& 31))], jzv182) : jS)) rfl ?_
  refine jl_s (S' := ((22, [(4, .int 24), (3, .int 3), (2, .int 0), (5, .int (b2)), (0, .ref 66), (1, .int (xs 1))], [.int (((xs 1) >>> (24 &&& 31)) &&& 255)], jzv182) : jS)) rfl ?_
  rw [e]
  refine jl_s (S' := ((24, [(5, .int (b3)), (4, .int 24), (3, .int 3), (2, .int 0), (0, .ref 66), (1, .int (xs 1))], [], jzv182) : jS)) rfl ?_
  refine jl_s (S' := ((25, [(5, .int (b3)), (4, .int 24), (3, .int 3), (2, .int 0), (0, .ref 66), (1, .int (xs 1))], [.int 0], jzv182) : jS)) rfl ?_
  refine jl_s (S' := ((28, [(5, .int (b3)), (4, .int 24), (3, .int 3), (2, .int 0), (0, .ref 66), (1, .int (xs 1))], [], jzv182) : jS)) rfl ?_
  refine jl_s (S' := ((30, [(5, .int (b3)), (4, .int 24), (3, .int 3), (2, .int 0), (0, .ref 66), (1, .int (xs 1))], [.int (b3)], jzv182) : jS)) rfl ?_
  refine jl_iff (e := jm248) (o := 15) rfl (h.1.1) ?_
  refine jl_s (S' := ((35, [(5, .int (b3)), (4, .int 24), (3, .int 3), (2, .int 0), (0, .ref 66), (1, .int (xs 1))], [.int (b3)], jzv182) : jS)) rfl ?_
  refine jl_c (t := 247) (as := [.int (b3)]) (V := jzv182) (r := (.inl (some (.int 0)), jzv182)) (S' := ((38, [(5, .int (b3)), (4, .int 24), (3, .int 3), (2, .int 0), (0, .ref 66), (1, .int (xs 1))], [.int 0], jzv182) : jS)) rfl (jz_si ((4, xs) : jX) jzv182 b3 h ) rfl ?_
  refine jl_s (S' := ((41, [(5, .int (b3)), (4, .int 24), (3, .int 3), (2, .int 0), (0, .ref 66), (1, .int (xs 1))], [], jzv182) : jS)) rfl ?_
  refine jl_s (S' := ((42, [(5, .int (b3)), (4, .int 24), (3, .int 3), (2, .int 0), (0, .ref 66), (1, .int (xs 1))], [.int 1], jzv182) : jS)) rfl ?_
  refine jl_s (S' := ((46, [(5, .int (b3)), (4, .int 24), (3, .int 3), (2, .int 0), (0, .ref 66), (1, .int (xs 1))], [.int 1], jzv182) : jS)) rfl ?_
  refine jl_s (S' := ((47, [(2, .int 1), (5, .int (b3)), (4, .int 24), (3, .int 3), (0, .ref 66), (1, .int (xs 1))], [], jzv182) : jS)) rfl ?_
  refine jl_s (S' := ((49, [(2, .int 1), (5, .int (b3)), (4, .int 24), (3, .int 3), (0, .ref 66), (1, .int (xs 1))], [.int (b3)], jzv182) : jS)) rfl ?_
  refine jl_iff (e := jm248) (o := 9) rfl (h.1.1) ?_
  refine jl_s (S' := ((53, [(2, .int 1), (5, .int (b3)), (4, .int 24), (3, .int 3), (0, .ref 66), (1, .int (xs 1))], [.int 3], jzv182) : jS)) rfl ?_
  refine jl_s (S' := ((54, [(2, .int 1), (5, .int (b3)), (4, .int 24), (3, .int 3), (0, .ref 66), (1, .int (xs 1))], [.int 1, .int 3], jzv182) : jS)) rfl ?_
  refine jl_s (S' := ((55, [(2, .int 1), (5, .int (b3)), (4, .int 24), (3, .int 3), (0, .ref 66), (1, .int (xs 1))], [.int 4], jzv182) : jS)) rfl ?_
  refine jl_s (S' := ((59, [(2, .int 1), (5, .int (b3)), (4, .int 24), (3, .int 3), (0, .ref 66), (1, .int (xs 1))], [.int 4], jzv182) : jS)) rfl ?_
  refine jl_s (S' := ((60, [(3, .int 4), (2, .int 1), (5, .int (b3)), (4, .int 24), (0, .ref 66), (1, .int (xs 1))], [], jzv182) : jS)) rfl ?_
  refine jl_s (S' := ((63, [(4, .int 32), (3, .int 4), (2, .int 1), (5, .int (b3)), (0, .ref 66), (1, .int (xs 1))], [], jzv182) : jS)) rfl ?_
  refine jl_s (S' := ((7, [(4, .int 32), (3, .int 4), (2, .int 1), (5, .int (b3)), (0, .ref 66), (1, .int (xs 1))], [], jzv182) : jS)) rfl ?_
  exact hq
set_option maxHeartbeats 4000000 in
set_option maxRecDepth 100000 in
theorem jzrg897 (xs : Nat → Int32) (b0 b1 b2 b3 : Int32) (e3 : ((xs 1) >>> (24 &&& 31)) &&& 255 = b3) (h : jbI3 b3) {f : Nat} : jLoop (jRun ((4, xs) : jX) 2000 38) ((4, xs) : jX) jm248 (f + 180) ((7, [(4, .int 24), (3, .int 3), (2, .int 0), (5, .int (b2)), (0, .ref 66), (1, .int (xs 1))], [], jzv182) : jS) = some (.inl (some (.int 0)), jzv183) := by
  exact jzq896 xs b0 b1 b2 b3 e3 h (jzq845 xs b0 b1 b2 b3)
set_option maxHeartbeats 4000000 in
set_option maxRecDepth 100000 in
theorem jzrg898 (xs : Nat → Int32) (b0 b1 b2 b3 : Int32) (e2 : ((xs 1) >>> (16 &&& 31)) &&& 255 = b2) (e3 : ((xs 1) >>> (24 &&& 31)) &&& 255 = b3) (h : jbI2 b2 b3) (hj : jbJ3 b3) {f : Nat} : jLoop (jRun ((4, xs) : jX) 2000 38) ((4, xs) : jX) jm248 (f + 240) ((7, [(4, .int 16), (3, .int 2), (2, .int 0), (5, .int (b1)), (0, .ref 66), (1, .int (xs 1))], [], jzv182) : jS) = some (.inl (some (.int 0)), jzv183) := by
  rcases h with h | ⟨h | h, h'⟩
  · exact jzq890 xs b0 b1 b2 b3 e2 h (jzri846 xs b0 b1 b2 b3 e3 hj)
  · exact jzq892 xs b0 b1 b2 b3 e2 h (jzrg880 xs b0 b1 b2 b3 e3 h')
  · exact jzq894 xs b0 b1 b2 b3 e2 h (jzrg897 xs b0 b1 b2 b3 e3 h')
set_option maxHeartbeats 4000000 in
set_option maxRecDepth 100000 in
theorem jzrg899 (xs : Nat → Int32) (b0 b1 b2 b3 : Int32) (e1 : ((xs 1) >>> (8 &&& 31)) &&& 255 = b1) (e2 : ((xs 1) >>> (16 &&& 31)) &&& 255 = b2) (e3 : ((xs 1) >>> (24 &&& 31)) &&& 255 = b3) (h : jbI1 b1 b2 b3) (hj : jbJ2 b2 b3) {f : Nat} : jLoop (jRun ((4, xs) : jX) 2000 38) ((4, xs) : jX) jm248 (f + 300) ((7, [(4, .int 8), (3, .int 1), (2, .int 0), (5, .int (b0)), (0, .ref 66), (1, .int (xs 1))], [], jzv182) : jS) = some (.inl (some (.int 0)), jzv183) := by
  rcases h with h | ⟨h | h, h'⟩
  · exact jzq884 xs b0 b1 b2 b3 e1 h (jzri847 xs b0 b1 b2 b3 e2 e3 hj)
  · exact jzq886 xs b0 b1 b2 b3 e1 h (jzrg881 xs b0 b1 b2 b3 e2 e3 h' hj.2)
  · exact jzq888 xs b0 b1 b2 b3 e1 h (jzrg898 xs b0 b1 b2 b3 e2 e3 h' hj.2)
set_option maxHeartbeats 4000000 in
set_option maxRecDepth 100000 in
theorem jzrg900 (xs : Nat → Int32) (b0 b1 b2 b3 : Int32) (e0 : ((xs 1) >>> (0 &&& 31)) &&& 255 = b0) (e1 : ((xs 1) >>> (8 &&& 31)) &&& 255 = b1) (e2 : ((xs 1) >>> (16 &&& 31)) &&& 255 = b2) (e3 : ((xs 1) >>> (24 &&& 31)) &&& 255 = b3) (h : jbI0 b0 b1 b2 b3) (hj : jbJ1 b1 b2 b3) {f : Nat} : jLoop (jRun ((4, xs) : jX) 2000 38) ((4, xs) : jX) jm248 (f + 360) ((7, [(4, .int 0), (3, .int 0), (2, .int 0), (0, .ref 66), (1, .int (xs 1))], [], jzv182) : jS) = some (.inl (some (.int 0)), jzv183) := by
  rcases h with h | ⟨h | h, h'⟩
  · exact jzq806 xs b0 b1 b2 b3 e0 h (jzri848 xs b0 b1 b2 b3 e1 e2 e3 hj)
  · exact jzq850 xs b0 b1 b2 b3 e0 h (jzrg882 xs b0 b1 b2 b3 e1 e2 e3 h' hj.2)
  · exact jzq852 xs b0 b1 b2 b3 e0 h (jzrg899 xs b0 b1 b2 b3 e1 e2 e3 h' hj.2)
set_option maxHeartbeats 4000000 in
set_option maxRecDepth 100000 in
theorem jzrp_I (xs : Nat → Int32) (b0 b1 b2 b3 : Int32) (e0 : ((xs 1) >>> (0 &&& 31)) &&& 255 = b0) (e1 : ((xs 1) >>> (8 &&& 31)) &&& 255 = b1) (e2 : ((xs 1) >>> (16 &&& 31)) &&& 255 = b2) (e3 : ((xs 1) >>> (24 &&& 31)) &&& 255 = b3) (h : jbI0 b0 b1 b2 b3) (hj : jbJ1 b1 b2 b3) : jRun ((4, xs) : jX) 2000 39 248 [.ref 66, .int (xs 1)] jzv182 = some (.inl (some (.int 0)), jzv183) := by
  refine jr_run (e := jm248) rfl (Nat.le_of_ble_eq_true rfl) ?_
  refine jzq804 xs b0 b1 b2 b3 ?_
  exact jzrg900 xs b0 b1 b2 b3 e0 e1 e2 e3 h hj
set_option maxHeartbeats 4000000 in
set_option maxRecDepth 100000 in
theorem jzl901 (xs : Nat → Int32) (hop : xs 0 &&& 31 = 0) (b0 b1 b2 b3 : Int32) (e0 : ((Int32.toUInt32 (xs 1) >>> (Int32.toUInt32 0 &&& Int32.toUInt32 31)).toInt32) &&& 255 = b0) (e1 : ((Int32.toUInt32 (xs 1) >>> (Int32.toUInt32 8 &&& Int32.toUInt32 31)).toInt32) &&& 255 = b1) (e2 : ((Int32.toUInt32 (xs 1) >>> (Int32.toUInt32 16 &&& Int32.toUInt32 31)).toInt32) &&& 255 = b2) (e3 : ((Int32.toUInt32 (xs 1) >>> (Int32.toUInt32 24 &&& Int32.toUInt32 31)).toInt32) &&& 255 = b3) (g0 : ((xs 1) >>> (0 &&& 31)) &&& 255 = b0) (g1 : ((xs 1) >>> (8 &&& 31)) &&& 255 = b1) (g2 : ((xs 1) >>> (16 &&& 31)) &&& 255 = b2) (g3 : ((xs 1) >>> (24 &&& 31)) &&& 255 = b3) (h : jbI0 b0 b1 b2 b3) (hj : jbJ1 b1 b2 b3) : jRun ((4, xs) : jX) 2000 39 244 [.ref 66] jzv183 = some (.inl (some (.int 1)), jzv183) := by
  refine jr_run (e := jm244) rfl (Nat.le_of_ble_eq_true rfl) ?_
  refine jl_s (S' := ((1, [(0, .ref 66)], [.ref 66], jzv183) : jS)) rfl ?_
  refine jl_s (S' := ((4, [(0, .ref 66)], [.int 1], jzv183) : jS)) rfl ?_
  exact jl_r (r := (.inl (some (.int 1)), jzv183)) rfl
set_option maxHeartbeats 4000000 in
set_option maxRecDepth 100000 in
theorem jzl902 (xs : Nat → Int32) (hop : xs 0 &&& 31 = 0) (b0 b1 b2 b3 : Int32) (e0 : ((Int32.toUInt32 (xs 1) >>> (Int32.toUInt32 0 &&& Int32.toUInt32 31)).toInt32) &&& 255 = b0) (e1 : ((Int32.toUInt32 (xs 1) >>> (Int32.toUInt32 8 &&& Int32.toUInt32 31)).toInt32) &&& 255 = b1) (e2 : ((Int32.toUInt32 (xs 1) >>> (Int32.toUInt32 16 &&& Int32.toUInt32 31)).toInt32) &&& 255 = b2) (e3 : ((Int32.toUInt32 (xs 1) >>> (Int32.toUInt32 24 &&& Int32.toUInt32 31)).toInt32) &&& 255 = b3) (g0 : ((xs 1) >>> (0 &&& 31)) &&& 255 = b0) (g1 : ((xs 1) >>> (8 &&& 31)) &&& 255 = b1) (g2 : ((xs 1) >>> (16 &&& 31)) &&& 255 = b2) (g3 : ((xs 1) >>> (24 &&& 31)) &&& 255 = b3) (h : jbI0 b0 b1 b2 b3) (hj : jbJ1 b1 b2 b3) : jLoop (jRun ((4, xs) : jX) 2000 39) ((4, xs) : jX) jm18 1000 ((23, [(4, .int 0), (3, .ref 153), (2, .ref 66), (1, .ref 64), (0, .ref 63)], [], jzv181) : jS) = some (.inl (some (.int 1)), jzv183) := by
  refine jl_s (S' := ((25, [(4, .int 0), (3, .ref 153), (2, .ref 66), (1, .ref 64), (0, .ref 63)], [.int 0], jzv181) : jS)) rfl ?_
  refine jl_s (S' := ((26, [(4, .int 0), (3, .ref 153), (2, .ref 66), (1, .ref 64), (0, .ref 63)], [.ref 63, .int 0], jzv181) : jS)) rfl ?_
  refine jl_s (S' := ((27, [(4, .int 0), (3, .ref 153), (2, .ref 66), (1, .ref 64), (0, .ref 63)], [.int 4, .int 0], jzv181) : jS)) rfl ?_
  refine jl_s (S' := ((28, [(4, .int 0), (3, .ref 153), (2, .ref 66), (1, .ref 64), (0, .ref 63)], [.int 4, .int 4, .int 0], jzv181) : jS)) rfl ?_
  refine jl_s (S' := ((29, [(4, .int 0), (3, .ref 153), (2, .ref 66), (1, .ref 64), (0, .ref 63)], [.int 0, .int 0], jzv181) : jS)) rfl ?_
  refine jl_s (S' := ((32, [(4, .int 0), (3, .ref 153), (2, .ref 66), (1, .ref 64), (0, .ref 63)], [], jzv181) : jS)) rfl ?_
  refine jl_s (S' := ((33, [(4, .int 0), (3, .ref 153), (2, .ref 66), (1, .ref 64), (0, .ref 63)], [.ref 63], jzv181) : jS)) rfl ?_
  refine jl_s (S' := ((35, [(4, .int 0), (3, .ref 153), (2, .ref 66), (1, .ref 64), (0, .ref 63)], [.int 0, .ref 63], jzv181) : jS)) rfl ?_
  refine jl_s (S' := ((36, [(4, .int 0), (3, .ref 153), (2, .ref 66), (1, .ref 64), (0, .ref 63)], [.int (xs 0)], jzv181) : jS)) rfl ?_
  refine jl_s (S' := ((38, [(4, .int 0), (3, .ref 153), (2, .ref 66), (1, .ref 64), (0, .ref 63)], [.int 31, .int (xs 0)], jzv181) : jS)) rfl ?_
  refine jl_s (S' := ((39, [(4, .int 0), (3, .ref 153), (2, .ref 66), (1, .ref 64), (0, .ref 63)], [.int ((xs 0) &&& 31)], jzv181) : jS)) rfl ?_
  rw [hop]
  refine jl_s (S' := ((128, [(4, .int 0), (3, .ref 153), (2, .ref 66), (1, .ref 64), (0, .ref 63)], [], jzv181) : jS)) rfl ?_
  refine jl_s (S' := ((129, [(4, .int 0), (3, .ref 153), (2, .ref 66), (1, .ref 64), (0, .ref 63)], [.ref 64], jzv181) : jS)) rfl ?_
  refine jl_s (S' := ((130, [(4, .int 0), (3, .ref 153), (2, .ref 66), (1, .ref 64), (0, .ref 63)], [.ref 63, .ref 64], jzv181) : jS)) rfl ?_
  refine jl_s (S' := ((132, [(4, .int 0), (3, .ref 153), (2, .ref 66), (1, .ref 64), (0, .ref 63)], [.int 0, .ref 63, .ref 64], jzv181) : jS)) rfl ?_
  refine jl_s (S' := ((133, [(4, .int 0), (3, .ref 153), (2, .ref 66), (1, .ref 64), (0, .ref 63)], [.int 1, .int 0, .ref 63, .ref 64], jzv181) : jS)) rfl ?_
  refine jl_s (S' := ((134, [(4, .int 0), (3, .ref 153), (2, .ref 66), (1, .ref 64), (0, .ref 63)], [.int 1, .ref 63, .ref 64], jzv181) : jS)) rfl ?_
  refine jl_s (S' := ((135, [(4, .int 0), (3, .ref 153), (2, .ref 66), (1, .ref 64), (0, .ref 63)], [.int (xs 1), .ref 64], jzv181) : jS)) rfl ?_
  refine jl_s (S' := ((136, [(4, .int 0), (3, .ref 153), (2, .ref 66), (1, .ref 64), (0, .ref 63)], [.ref 153, .int (xs 1), .ref 64], jzv181) : jS)) rfl ?_
  refine jl_c (t := 0) (as := [.ref 64, .int (xs 1), .ref 153]) (V := jzv181) (r := (.inl (some (.int 1)), jzv182)) (S' := ((139, [(4, .int 0), (3, .ref 153), (2, .ref 66), (1, .ref 64), (0, .ref 63)], [.int 1], jzv182) : jS)) rfl (jzl802 xs hop b0 b1 b2 b3 e0 e1 e2 e3 g0 g1 g2 g3 h hj) rfl ?_
  refine jl_s (S' := ((141, [(5, .int 1), (4, .int 0), (3, .ref 153), (2, .ref 66), (1, .ref 64), (0, .ref 63)], [], jzv182) : jS)) rfl ?_
  refine jl_s (S' := ((142, [(5, .int 1), (4, .int 0), (3, .ref 153), (2, .ref 66), (1, .ref 64), (0, .ref 63)], [.ref 66], jzv182) : jS)) rfl ?_
  refine jl_s (S' := ((143, [(5, .int 1), (4, .int 0), (3, .ref 153), (2, .ref 66), (1, .ref 64), (0, .ref 63)], [.ref 63, .ref 66], jzv182) : jS)) rfl ?_
  refine jl_s (S' := ((145, [(5, .int 1), (4, .int 0), (3, .ref 153), (2, .ref 66), (1, .ref 64), (0, .ref 63)], [.int 0, .ref 63, .ref 66], jzv182) : jS)) rfl ?_
  refine jl_s (S' := ((146, [(5, .int 1), (4, .int 0), (3, .ref 153), (2, .ref 66), (1, .ref 64), (0, .ref 63)], [.int 1, .int 0, .ref 63, .ref 66], jzv182) : jS)) rfl ?_
  refine jl_s (S' := ((147, [(5, .int 1), (4, .int 0), (3, .ref 153), (2, .ref 66), (1, .ref 64), (0, .ref 63)], [.int 1, .ref 63, .ref 66], jzv182) : jS)) rfl ?_
  refine jl_s (S' := ((148, [(5, .int 1), (4, .int 0), (3, .ref 153), (2, .ref 66), (1, .ref 64), (0, .ref 63)], [.int (xs 1), .ref 66], jzv182) : jS)) rfl ?_
  refine jl_c (t := 248) (as := [.ref 66, .int (xs 1)]) (V := jzv182) (r := (.inl (some (.int 0)), jzv183)) (S' := ((151, [(5, .int 1), (4, .int 0), (3, .ref 153), (2, .ref 66), (1, .ref 64), (0, .ref 63)], [.int 0], jzv183) : jS)) rfl (jzrp_I xs b0 b1 b2 b3 g0 g1 g2 g3 h hj ) rfl ?_
  refine jl_s (S' := ((153, [(6, .int 0), (5, .int 1), (4, .int 0), (3, .ref 153), (2, .ref 66), (1, .ref 64), (0, .ref 63)], [], jzv183) : jS)) rfl ?_
  refine jl_s (S' := ((154, [(6, .int 0), (5, .int 1), (4, .int 0), (3, .ref 153), (2, .ref 66), (1, .ref 64), (0, .ref 63)], [.ref 66], jzv183) : jS)) rfl ?_
  refine jl_c (t := 244) (as := [.ref 66]) (V := jzv183) (r := (.inl (some (.int 1)), jzv183)) (S' := ((157, [(6, .int 0), (5, .int 1), (4, .int 0), (3, .ref 153), (2, .ref 66), (1, .ref 64), (0, .ref 63)], [.int 1], jzv183) : jS)) rfl (jzl901 xs hop b0 b1 b2 b3 e0 e1 e2 e3 g0 g1 g2 g3 h hj) rfl ?_
  refine jl_s (S' := ((159, [(6, .int 0), (5, .int 1), (4, .int 0), (3, .ref 153), (2, .ref 66), (1, .ref 64), (0, .ref 63)], [.int 1, .int 1], jzv183) : jS)) rfl ?_
  refine jl_s (S' := ((164, [(6, .int 0), (5, .int 1), (4, .int 0), (3, .ref 153), (2, .ref 66), (1, .ref 64), (0, .ref 63)], [], jzv183) : jS)) rfl ?_
  refine jl_s (S' := ((166, [(6, .int 0), (5, .int 1), (4, .int 0), (3, .ref 153), (2, .ref 66), (1, .ref 64), (0, .ref 63)], [.int 1], jzv183) : jS)) rfl ?_
  refine jl_s (S' := ((181, [(6, .int 0), (5, .int 1), (4, .int 0), (3, .ref 153), (2, .ref 66), (1, .ref 64), (0, .ref 63)], [], jzv183) : jS)) rfl ?_
  refine jl_s (S' := ((1193, [(6, .int 0), (5, .int 1), (4, .int 0), (3, .ref 153), (2, .ref 66), (1, .ref 64), (0, .ref 63)], [], jzv183) : jS)) rfl ?_
  refine jl_s (S' := ((1196, [(4, .int 4), (6, .int 0), (5, .int 1), (3, .ref 153), (2, .ref 66), (1, .ref 64), (0, .ref 63)], [], jzv183) : jS)) rfl ?_
  refine jl_s (S' := ((23, [(4, .int 4), (6, .int 0), (5, .int 1), (3, .ref 153), (2, .ref 66), (1, .ref 64), (0, .ref 63)], [], jzv183) : jS)) rfl ?_
  refine jl_s (S' := ((25, [(4, .int 4), (6, .int 0), (5, .int 1), (3, .ref 153), (2, .ref 66), (1, .ref 64), (0, .ref 63)], [.int 4], jzv183) : jS)) rfl ?_
  refine jl_s (S' := ((26, [(4, .int 4), (6, .int 0), (5, .int 1), (3, .ref 153), (2, .ref 66), (1, .ref 64), (0, .ref 63)], [.ref 63, .int 4], jzv183) : jS)) rfl ?_
  refine jl_s (S' := ((27, [(4, .int 4), (6, .int 0), (5, .int 1), (3, .ref 153), (2, .ref 66), (1, .ref 64), (0, .ref 63)], [.int 4, .int 4], jzv183) : jS)) rfl ?_
  refine jl_s (S' := ((28, [(4, .int 4), (6, .int 0), (5, .int 1), (3, .ref 153), (2, .ref 66), (1, .ref 64), (0, .ref 63)], [.int 4, .int 4, .int 4], jzv183) : jS)) rfl ?_
  refine jl_s (S' := ((29, [(4, .int 4), (6, .int 0), (5, .int 1), (3, .ref 153), (2, .ref 66), (1, .ref 64), (0, .ref 63)], [.int 0, .int 4], jzv183) : jS)) rfl ?_
  refine jl_s (S' := ((1199, [(4, .int 4), (6, .int 0), (5, .int 1), (3, .ref 153), (2, .ref 66), (1, .ref 64), (0, .ref 63)], [], jzv183) : jS)) rfl ?_
  refine jl_s (S' := ((1200, [(4, .int 4), (6, .int 0), (5, .int 1), (3, .ref 153), (2, .ref 66), (1, .ref 64), (0, .ref 63)], [.int 1], jzv183) : jS)) rfl ?_
  exact jl_r (r := (.inl (some (.int 1)), jzv183)) rfl
-- op 0 I: jzl902
