set_option maxHeartbeats 4000000 in
set_option maxRecDepth 100000 in
theorem jzl259 (X : jX) (V : jH) (b : Int32) (h1 : Op.if_icmp.holds .eq b 10 = true) : jRun X 2000 38 247 [.int (b)] V = some (.inl (some (.int 1)), V) := by
  refine jr_run (e := jm247) rfl (Nat.le_of_ble_eq_true rfl) ?_
  refine jl_s (S' := ((1, [(0, .int (b))], [.int (b)], V) : jS)) rfl ?_
  refine jl_s (S' := ((3, [(0, .int (b))], [.int 10, .int (b)], V) : jS)) rfl ?_
  refine jl_ict (e := jm247) (o := 14) rfl (h1) (t := 17) rfl ?_
  refine jl_s (S' := ((18, [(0, .int (b))], [.int 1], V) : jS)) rfl ?_
  refine jl_s (S' := ((22, [(0, .int (b))], [.int 1], V) : jS)) rfl ?_
  exact jl_r (r := (.inl (some (.int 1)), V)) rfl
set_option maxHeartbeats 4000000 in
set_option maxRecDepth 100000 in
theorem jzl260 (X : jX) (V : jH) (b : Int32) (h1 : Op.if_icmp.holds .eq b 10 = false) (h2 : Op.if_icmp.holds .lt b 32 = false) (h3 : Op.if_icmp.holds .le b 126 = true) (h4 : Op.if_icmp.holds .gt b 126 = false) : jRun X 2000 37 246 [.int (b), .int 32, .int 126] V = some (.inl (some (.int 1)), V) := by
  refine jr_run (e := jm246) rfl (Nat.le_of_ble_eq_true rfl) ?_
  refine jl_s (S' := ((1, [(0, .int (b)), (1, .int 32), (2, .int 126)], [.int (b)], V) : jS)) rfl ?_
  refine jl_s (S' := ((2, [(0, .int (b)), (1, .int 32), (2, .int 126)], [.int 32, .int (b)], V) : jS)) rfl ?_
  refine jl_icf (e := jm246) (o := 12) rfl (h2) ?_
  refine jl_s (S' := ((6, [(0, .int (b)), (1, .int 32), (2, .int 126)], [.int (b)], V) : jS)) rfl ?_
  refine jl_s (S' := ((7, [(0, .int (b)), (1, .int 32), (2, .int 126)], [.int 126, .int (b)], V) : jS)) rfl ?_
  refine jl_icf (e := jm246) (o := 7) rfl (h4) ?_
  refine jl_s (S' := ((11, [(0, .int (b)), (1, .int 32), (2, .int 126)], [.int 1], V) : jS)) rfl ?_
  refine jl_s (S' := ((15, [(0, .int (b)), (1, .int 32), (2, .int 126)], [.int 1], V) : jS)) rfl ?_
  exact jl_r (r := (.inl (some (.int 1)), V)) rfl
set_option maxHeartbeats 4000000 in
set_option maxRecDepth 100000 in
theorem jzl261 (X : jX) (V : jH) (b : Int32) (h1 : Op.if_icmp.holds .eq b 10 = false) (h2 : Op.if_icmp.holds .lt b 32 = false) (h3 : Op.if_icmp.holds .le b 126 = true) (h4 : Op.if_icmp.holds .gt b 126 = false) : jRun X 2000 38 247 [.int (b)] V = some (.inl (some (.int 1)), V) := by
  refine jr_run (e := jm247) rfl (Nat.le_of_ble_eq_true rfl) ?_
  refine jl_s (S' := ((1, [(0, .int (b))], [.int (b)], V) : jS)) rfl ?_
  refine jl_s (S' := ((3, [(0, .int (b))], [.int 10, .int (b)], V) : jS)) rfl ?_
  refine jl_icf (e := jm247) (o := 14) rfl (h1) ?_
  refine jl_s (S' := ((7, [(0, .int (b))], [.int (b)], V) : jS)) rfl ?_
  refine jl_s (S' := ((9, [(0, .int (b))], [.int 32, .int (b)], V) : jS)) rfl ?_
  refine jl_s (S' := ((11, [(0, .int (b))], [.int 126, .int 32, .int (b)], V) : jS)) rfl ?_
  refine jl_c (t := 246) (as := [.int (b), .int 32, .int 126]) (V := V) (r := (.inl (some (.int 1)), V)) (S' := ((14, [(0, .int (b))], [.int 1], V) : jS)) rfl (jzl260 X V b h1 h2 h3 h4) rfl ?_
  refine jl_s (S' := ((17, [(0, .int (b))], [], V) : jS)) rfl ?_
  refine jl_s (S' := ((18, [(0, .int (b))], [.int 1], V) : jS)) rfl ?_
  refine jl_s (S' := ((22, [(0, .int (b))], [.int 1], V) : jS)) rfl ?_
  exact jl_r (r := (.inl (some (.int 1)), V)) rfl
set_option maxHeartbeats 4000000 in
set_option maxRecDepth 100000 in
theorem jzl262 (X : jX) (V : jH) (b : Int32) (h1 : Op.if_icmp.holds .eq b 10 = false) (h2 : Op.if_icmp.holds .lt b 32 = true) : jRun X 2000 37 246 [.int (b), .int 32, .int 126] V = some (.inl (some (.int 0)), V) := by
  refine jr_run (e := jm246) rfl (Nat.le_of_ble_eq_true rfl) ?_
  refine jl_s (S' := ((1, [(0, .int (b)), (1, .int 32), (2, .int 126)], [.int (b)], V) : jS)) rfl ?_
  refine jl_s (S' := ((2, [(0, .int (b)), (1, .int 32), (2, .int 126)], [.int 32, .int (b)], V) : jS)) rfl ?_
  refine jl_ict (e := jm246) (o := 12) rfl (h2) (t := 14) rfl ?_
  refine jl_s (S' := ((15, [(0, .int (b)), (1, .int 32), (2, .int 126)], [.int 0], V) : jS)) rfl ?_
  exact jl_r (r := (.inl (some (.int 0)), V)) rfl
set_option maxHeartbeats 4000000 in
set_option maxRecDepth 100000 in
theorem jzl263 (X : jX) (V : jH) (b : Int32) (h1 : Op.if_icmp.holds .eq b 10 = false) (h2 : Op.if_icmp.holds .lt b 32 = true) : jRun X 2000 38 247 [.int (b)] V = some (.inl (some (.int 0)), V) := by
  refine jr_run (e := jm247) rfl (Nat.le_of_ble_eq_true rfl) ?_
  refine jl_s (S' := ((1, [(0, .int (b))], [.int (b)], V) : jS)) rfl ?_
  refine jl_s (S' := ((3, [(0, .int (b))], [.int 10, .int (b)], V) : jS)) rfl ?_
  refine jl_icf (e := jm247) (o := 14) rfl (h1) ?_
  refine jl_s (S' := ((7, [(0, .int (b))], [.int (b)], V) : jS)) rfl ?_
  refine jl_s (S' := ((9, [(0, .int (b))], [.int 32, .int (b)], V) : jS)) rfl ?_
  refine jl_s (S' := ((11, [(0, .int (b))], [.int 126, .int 32, .int (b)], V) : jS)) rfl ?_
  refine jl_c (t := 246) (as := [.int (b), .int 32, .int 126]) (V := V) (r := (.inl (some (.int 0)), V)) (S' := ((14, [(0, .int (b))], [.int 0], V) : jS)) rfl (jzl262 X V b h1 h2) rfl ?_
  refine jl_s (S' := ((21, [(0, .int (b))], [], V) : jS)) rfl ?_
  refine jl_s (S' := ((22, [(0, .int (b))], [.int 0], V) : jS)) rfl ?_
  exact jl_r (r := (.inl (some (.int 0)), V)) rfl
set_option maxHeartbeats 4000000 in
set_option maxRecDepth 100000 in
theorem jzl264 (X : jX) (V : jH) (b : Int32) (h1 : Op.if_icmp.holds .eq b 10 = false) (h2 : Op.if_icmp.holds .lt b 32 = false) (h3 : Op.if_icmp.holds .le b 126 = false) (h4 : Op.if_icmp.holds .gt b 126 = true) : jRun X 2000 37 246 [.int (b), .int 32, .int 126] V = some (.inl (some (.int 0)), V) := by
  refine jr_run (e := jm246) rfl (Nat.le_of_ble_eq_true rfl) ?_
  refine jl_s (S' := ((1, [(0, .int (b)), (1, .int 32), (2, .int 126)], [.int (b)], V) : jS)) rfl ?_
  refine jl_s (S' := ((2, [(0, .int (b)), (1, .int 32), (2, .int 126)], [.int 32, .int (b)], V) : jS)) rfl ?_
  refine jl_icf (e := jm246) (o := 12) rfl (h2) ?_
  refine jl_s (S' := ((6, [(0, .int (b)), (1, .int 32), (2, .int 126)], [.int (b)], V) : jS)) rfl ?_
  refine jl_s (S' := ((7, [(0, .int (b)), (1, .int 32), (2, .int 126)], [.int 126, .int (b)], V) : jS)) rfl ?_
  refine jl_ict (e := jm246) (o := 7) rfl (h4) (t := 14) rfl ?_
  refine jl_s (S' := ((15, [(0, .int (b)), (1, .int 32), (2, .int 126)], [.int 0], V) : jS)) rfl ?_
  exact jl_r (r := (.inl (some (.int 0)), V)) rfl
set_option maxHeartbeats 4000000 in
set_option maxRecDepth 100000 in
theorem jzl265 (X : jX) (V : jH) (b : Int32) (h1 : Op.if_icmp.holds .eq b 10 = false) (h2 : Op.if_icmp.holds .lt b 32 = false) (h3 : Op.if_icmp.holds .le b 126 = false) (h4 : Op.if_icmp.holds .gt b 126 = true) : jRun X 2000 38 247 [.int (b)] V = some (.inl (some (.int 0)), V) := by
  refine jr_run (e := jm247) rfl (Nat.le_of_ble_eq_true rfl) ?_
  refine jl_s (S' := ((1, [(0, .int (b))], [.int (b)], V) : jS)) rfl ?_
  refine jl_s (S' := ((3, [(0, .int (b))], [.int 10, .int (b)], V) : jS)) rfl ?_
  refine jl_icf (e := jm247) (o := 14) rfl (h1) ?_
  refine jl_s (S' := ((7, [(0, .int (b))], [.int (b)], V) : jS)) rfl ?_
  refine jl_s (S' := ((9, [(0, .int (b))], [.int 32, .int (b)], V) : jS)) rfl ?_
  refine jl_s (S' := ((11, [(0, .int (b))], [.int 126, .int 32, .int (b)], V) : jS)) rfl ?_
  refine jl_c (t := 246) (as := [.int (b), .int 32, .int 126]) (V := V) (r := (.inl (some (.int 0)), V)) (S' := ((14, [(0, .int (b))], [.int 0], V) : jS)) rfl (jzl264 X V b h1 h2 h3 h4) rfl ?_
  refine jl_s (S' := ((21, [(0, .int (b))], [], V) : jS)) rfl ?_
  refine jl_s (S' := ((22, [(0, .int (b))], [.int 0], V) : jS)) rfl ?_
  exact jl_r (r := (.inl (some (.int 0)), V)) rfl
set_option maxHeartbeats 4000000 in
set_option maxRecDepth 100000 in
theorem jz_sv (X : jX) (V : jH) (b : Int32) (h : jbv b) : jRun X 2000 38 247 [.int b] V = some (.inl (some (.int 1)), V) := by
  rcases h.2 with h1 | ⟨h1, h2, h3, h4⟩
  · exact jzl259 X V b h1
  · exact jzl261 X V b h1 h2 h3 h4
set_option maxHeartbeats 4000000 in
set_option maxRecDepth 100000 in
theorem jz_si (X : jX) (V : jH) (b : Int32) (h : jbi b) : jRun X 2000 38 247 [.int b] V = some (.inl (some (.int 0)), V) := by
  obtain ⟨-, h1, h2 | ⟨h2, h3, h4⟩⟩ := id h
  · exact jzl263 X V b h1 h2
  · exact jzl265 X V b h1 h2 h3 h4
set_option maxHeartbeats 4000000 in
set_option maxRecDepth 100000 in
theorem jzq267 (xs : Nat → Int32) (b0 b1 b2 b3 : Int32) {f : Nat} {q : jO × jH} (hq : jLoop (jRun ((4, xs) : jX) 2000 37) ((4, xs) : jX) jm20 f ((4, [(3, .int 0), (2, .int 0), (0, .ref 64), (1, .int (xs 1))], [], jzv181) : jS) = some q) : jLoop (jRun ((4, xs) : jX) 2000 37) ((4, xs) : jX) jm20 (f + 4) ((0, [(0, .ref 64), (1, .int (xs 1))], [], jzv181) : jS) = some q := by
  refine jl_s (S' := ((1, [(0, .ref 64), (1, .int (xs 1))], [.int 0], jzv181) : jS)) rfl ?_
  refine jl_s (S' := ((2, [(2, .int 0), (0, .ref 64), (1, .int (xs 1))], [], jzv181) : jS)) rfl ?_
  refine jl_s (S' := ((3, [(2, .int 0), (0, .ref 64), (1, .int (xs 1))], [.int 0], jzv181) : jS)) rfl ?_
  refine jl_s (S' := ((4, [(3, .int 0), (2, .int 0), (0, .ref 64), (1, .int (xs 1))], [], jzv181) : jS)) rfl ?_
  exact hq
set_option maxHeartbeats 4000000 in
set_option maxRecDepth 100000 in
theorem jzq269 (xs : Nat → Int32) (b0 b1 b2 b3 : Int32) (e : ((Int32.toUInt32 (xs 1) >>> (Int32.toUInt32 0 &&& Int32.toUInt32 31)).toInt32) &&& 255 = b0) (h : jbz b0) {f : Nat} {q : jO × jH} (hq : jLoop (jRun ((4, xs) : jX) 2000 37) ((4, xs) : jX) jm20 f ((4, [(3, .int 1), (2, .int 0), (4, .int (b0)), (0, .ref 64), (1, .int (xs 1))], [], jzv181) : jS) = some q) : jLoop (jRun ((4, xs) : jX) 2000 37) ((4, xs) : jX) jm20 (f + 22) ((4, [(3, .int 0), (2, .int 0), (0, .ref 64), (1, .int (xs 1))], [], jzv181) : jS) = some q := by
  refine jl_s (S' := ((5, [(3, .int 0), (2, .int 0), (0, .ref 64), (1, .int (xs 1))], [.int 0], jzv181) : jS)) rfl ?_
  refine jl_s (S' := ((6, [(3, .int 0), (2, .int 0), (0, .ref 64), (1, .int (xs 1))], [.int 4, .int 0], jzv181) : jS)) rfl ?_
  refine jl_s (S' := ((9, [(3, .int 0), (2, .int 0), (0, .ref 64), (1, .int (xs 1))], [], jzv181) : jS)) rfl ?_
  refine jl_s (S' := ((10, [(3, .int 0), (2, .int 0), (0, .ref 64), (1, .int (xs 1))], [.int (xs 1)], jzv181) : jS)) rfl ?_
  refine jl_s (S' := ((12, [(3, .int 0), (2, .int 0), (0, .ref 64), (1, .int (xs 1))], [.int 8, .int (xs 1)], jzv181) : jS)) rfl ?_
  refine jl_s (S' := ((13, [(3, .int 0), (2, .int 0), (0, .ref 64), (1, .int (xs 1))], [.int 0, .int 8, .int (xs 1)], jzv181) : jS)) rfl ?_
  refine jl_s (S' := ((14, [(3, .int 0), (2, .int 0), (0, .ref 64), (1, .int (xs 1))], [.int 0, .int (xs 1)], jzv181) : jS)) rfl ?_
  refine jl_s (S' := ((15, [(3, .int 0), (2, .int 0), (0, .ref 64), (1, .int (xs 1))], [.int ((Int32.toUInt32 (xs 1) >>> (Int32.toUInt32 0 &&& Int32.toUInt32 31)).toInt32)], jzv181) : jS)) rfl ?_
  refine jl_s (S' := ((18, [(3, .int 0), (2, .int 0), (0, .ref 64), (1, .int (xs 1))], [.int 255, .int ((Int32.toUInt32 (xs 1) >>> (Int32.toUInt32 0 &&& Int32.toUInt32 31)).toInt32)], jzv181) : jS)) rfl ?_
  refine jl_s (S' := ((19, [(3, .int 0), (2, .int 0), (0, .ref 64), (1, .int (xs 1))], [.int (((Int32.toUInt32 (xs 1) >>> (Int32.toUInt32 0 &&& Int32.toUInt32 31)).toInt32) &&& 255)], jzv181) : jS)) rfl ?_
  rw [e]
  refine jl_s (S' := ((21, [(4, .int (b0)), (3, .int 0), (2, .int 0), (0, .ref 64), (1, .int (xs 1))], [], jzv181) : jS)) rfl ?_
  refine jl_s (S' := ((23, [(4, .int (b0)), (3, .int 0), (2, .int 0), (0, .ref 64), (1, .int (xs 1))], [.int (b0)], jzv181) : jS)) rfl ?_
  refine jl_ift (e := jm20) (o := 34) rfl (h.1) (t := 57) rfl ?_
  refine jl_s (S' := ((58, [(4, .int (b0)), (3, .int 0), (2, .int 0), (0, .ref 64), (1, .int (xs 1))], [.int 0], jzv181) : jS)) rfl ?_
  refine jl_s (S' := ((60, [(4, .int (b0)), (3, .int 0), (2, .int 0), (0, .ref 64), (1, .int (xs 1))], [.int (b0), .int 0], jzv181) : jS)) rfl ?_
  refine jl_iff (e := jm20) (o := 7) rfl (h.2) ?_
  refine jl_s (S' := ((64, [(4, .int (b0)), (3, .int 0), (2, .int 0), (0, .ref 64), (1, .int (xs 1))], [.int 0, .int 0], jzv181) : jS)) rfl ?_
  refine jl_s (S' := ((68, [(4, .int (b0)), (3, .int 0), (2, .int 0), (0, .ref 64), (1, .int (xs 1))], [.int 0, .int 0], jzv181) : jS)) rfl ?_
  refine jl_s (S' := ((69, [(4, .int (b0)), (3, .int 0), (2, .int 0), (0, .ref 64), (1, .int (xs 1))], [.int 0], jzv181) : jS)) rfl ?_
  refine jl_s (S' := ((70, [(2, .int 0), (4, .int (b0)), (3, .int 0), (0, .ref 64), (1, .int (xs 1))], [], jzv181) : jS)) rfl ?_
  refine jl_s (S' := ((73, [(3, .int 1), (2, .int 0), (4, .int (b0)), (0, .ref 64), (1, .int (xs 1))], [], jzv181) : jS)) rfl ?_
  refine jl_s (S' := ((4, [(3, .int 1), (2, .int 0), (4, .int (b0)), (0, .ref 64), (1, .int (xs 1))], [], jzv181) : jS)) rfl ?_
  exact hq
set_option maxHeartbeats 4000000 in
set_option maxRecDepth 100000 in
theorem jzq271 (xs : Nat → Int32) (b0 b1 b2 b3 : Int32) (e : ((Int32.toUInt32 (xs 1) >>> (Int32.toUInt32 8 &&& Int32.toUInt32 31)).toInt32) &&& 255 = b1) (h : jbz b1) {f : Nat} {q : jO × jH} (hq : jLoop (jRun ((4, xs) : jX) 2000 37) ((4, xs) : jX) jm20 f ((4, [(3, .int 2), (2, .int 0), (4, .int (b1)), (0, .ref 64), (1, .int (xs 1))], [], jzv181) : jS) = some q) : jLoop (jRun ((4, xs) : jX) 2000 37) ((4, xs) : jX) jm20 (f + 22) ((4, [(3, .int 1), (2, .int 0), (4, .int (b0)), (0, .ref 64), (1, .int (xs 1))], [], jzv181) : jS) = some q := by
  refine jl_s (S' := ((5, [(3, .int 1), (2, .int 0), (4, .int (b0)), (0, .ref 64), (1, .int (xs 1))], [.int 1], jzv181) : jS)) rfl ?_
  refine jl_s (S' := ((6, [(3, .int 1), (2, .int 0), (4, .int (b0)), (0, .ref 64), (1, .int (xs 1))], [.int 4, .int 1], jzv181) : jS)) rfl ?_
  refine jl_s (S' := ((9, [(3, .int 1), (2, .int 0), (4, .int (b0)), (0, .ref 64), (1, .int (xs 1))], [], jzv181) : jS)) rfl ?_
  refine jl_s (S' := ((10, [(3, .int 1), (2, .int 0), (4, .int (b0)), (0, .ref 64), (1, .int (xs 1))], [.int (xs 1)], jzv181) : jS)) rfl ?_
  refine jl_s (S' := ((12, [(3, .int 1), (2, .int 0), (4, .int (b0)), (0, .ref 64), (1, .int (xs 1))], [.int 8, .int (xs 1)], jzv181) : jS)) rfl ?_
  refine jl_s (S' := ((13, [(3, .int 1), (2, .int 0), (4, .int (b0)), (0, .ref 64), (1, .int (xs 1))], [.int 1, .int 8, .int (xs 1)], jzv181) : jS)) rfl ?_
  refine jl_s (S' := ((14, [(3, .int 1), (2, .int 0), (4, .int (b0)), (0, .ref 64), (1, .int (xs 1))], [.int 8, .int (xs 1)], jzv181) : jS)) rfl ?_
  refine jl_s (S' := ((15, [(3, .int 1), (2, .int 0), (4, .int (b0)), (0, .ref 64), (1, .int (xs 1))], [.int ((Int32.toUInt32 (xs 1) >>> (Int32.toUInt32 8 &&& Int32.toUInt32 31)).toInt32)], jzv181) : jS)) rfl ?_
  refine jl_s (S' := ((18, [(3, .int 1), (2, .int 0), (4, .int (b0)), (0, .ref 64), (1, .int (xs 1))], [.int 255, .int ((Int32.toUInt32 (xs 1) >>> (Int32.toUInt32 8 &&& Int32.toUInt32 31)).toInt32)], jzv181) : jS)) rfl ?_
  refine jl_s (S' := ((19, [(3, .int 1), (2, .int 0), (4, .int (b0)), (0, .ref 64), (1, .int (xs 1))], [.int (((Int32.toUInt32 (xs 1) >>> (Int32.toUInt32 8 &&& Int32.toUInt32 31)).toInt32) &&& 255)], jzv181) : jS)) rfl ?_
  rw [e]
  refine jl_s (S' := ((21, [(4, .int (b1)), (3, .int 1), (2, .int 0), (0, .ref 64), (1, .int (xs 1))], [], jzv181) : jS)) rfl ?_
  refine jl_s (S' := ((23, [(4, .int (b1)), (3, .int 1), (2, .int 0), (0, .ref 64), (1, .int (xs 1))], [.int (b1)], jzv181) : jS)) rfl ?_
  refine jl_ift (e := jm20) (o := 34) rfl (h.1) (t := 57) rfl ?_
  refine jl_s (S' := ((58, [(4, .int (b1)), (3, .int 1), (2, .int 0), (0, .ref 64), (1, .int (xs 1))], [.int 0], jzv181) : jS)) rfl ?_
  refine jl_s (S' := ((60, [(4, .int (b1)), (3, .int 1), (2, .int 0), (0, .ref 64), (1, .int (xs 1))], [.int (b1), .int 0], jzv181) : jS)) rfl ?_
  refine jl_iff (e := jm20) (o := 7) rfl (h.2) ?_
  refine jl_s (S' := ((64, [(4, .int (b1)), (3, .int 1), (2, .int 0), (0, .ref 64), (1, .int (xs 1))], [.int 0, .int 0], jzv181) : jS)) rfl ?_
  refine jl_s (S' := ((68, [(4, .int (b1)), (3, .int 1), (2, .int 0), (0, .ref 64), (1, .int (xs 1))], [.int 0, .int 0], jzv181) : jS)) rfl ?_
  refine jl_s (S' := ((69, [(4, .int (b1)), (3, .int 1), (2, .int 0), (0, .ref 64), (1, .int (xs 1))], [.int 0], jzv181) : jS)) rfl ?_
  refine jl_s (S' := ((70, [(2, .int 0), (4, .int (b1)), (3, .int 1), (0, .ref 64), (1, .int (xs 1))], [], jzv181) : jS)) rfl ?_
  refine jl_s (S' := ((73, [(3, .int 2), (2, .int 0), (4, .int (b1)), (0, .ref 64), (1, .int (xs 1))], [], jzv181) : jS)) rfl ?_
  refine jl_s (S' := ((4, [(3, .int 2), (2, .int 0), (4, .int (b1)), (0, .ref 64), (1, .int (xs 1))], [], jzv181) : jS)) rfl ?_
  exact hq
set_option maxHeartbeats 4000000 in
set_option maxRecDepth 100000 in
theorem jzq273 (xs : Nat → Int32) (b0 b1 b2 b3 : Int32) (e : ((Int32.toUInt32 (xs 1) >>> (Int32.toUInt32 16 &&& Int32.toUInt32 31)).toInt32) &&& 255 = b2) (h : jbz b2) {f : Nat} {q : jO × jH} (hq : jLoop (jRun ((4, xs) : jX) 2000 37) ((4, xs) : jX) jm20 f ((4, [(3, .int 3), (2, .int 0), (4, .int (b2)), (0, .ref 64), (1, .int (xs 1))], [], jzv181) : jS) = some q) : jLoop (jRun ((4, xs) : jX) 2000 37) ((4, xs) : jX) jm20 (f + 22) ((4, [(3, .int 2), (2, .int 0), (4, .int (b1)), (0, .ref 64), (1, .int (xs 1))], [], jzv181) : jS) = some q := by
  refine jl_s (S' := ((5, [(3, .int 2), (2, .int 0), (4, .int (b1)), (0, .ref 64), (1, .int (xs 1))], [.int 2], jzv181) : jS)) rfl ?_
  refine jl_s (S' := ((6, [(3, .int 2), (2, .int 0), (4, .int (b1)), (0, .ref 64), (1, .int (xs 1))], [.int 4, .int 2], jzv181) : jS)) rfl ?_
  refine jl_s (S' := ((9, [(3, .int 2), (2, .int 0), (4, .int (b1)), (0, .ref 64), (1, .int (xs 1))], [], jzv181) : jS)) rfl ?_
  refine jl_s (S' := ((10, [(3, .int 2), (2, .int 0), (4, .int (b1)), (0, .ref 64), (1, .int (xs 1))], [.int (xs 1)], jzv181) : jS)) rfl ?_
  refine jl_s (S' := ((12, [(3, .int 2), (2, .int 0), (4, .int (b1)), (0, .ref 64), (1, .int (xs 1))], [.int 8, .int (xs 1)], jzv181) : jS)) rfl ?_
  refine jl_s (S' := ((13, [(3, .int 2), (2, .int 0), (4, .int (b1)), (0, .ref 64), (1, .int (xs 1))], [.int 2, .int 8, .int (xs 1)], jzv181) : jS)) rfl ?_
  refine jl_s (S' := ((14, [(3, .int 2), (2, .int 0), (4, .int (b1)), (0, .ref 64), (1, .int (xs 1))], [.int 16, .int (xs 1)], jzv181) : jS)) rfl ?_
  refine jl_s (S' := ((15, [(3, .int 2), (2, .int 0), (4, .int (b1)), (0, .ref 64), (1, .int (xs 1))], [.int ((Int32.toUInt32 (xs 1) >>> (Int32.toUInt32 16 &&& Int32.toUInt32 31)).toInt32)], jzv181) : jS)) rfl ?_
  refine jl_s (S' := ((18, [(3, .int 2), (2, .int 0), (4, .int (b1)), (0, .ref 64), (1, .int (xs 1))], [.int 255, .int ((Int32.toUInt32 (xs 1) >>> (Int32.toUInt32 16 &&& Int32.toUInt32 31)).toInt32)], jzv181) : jS)) rfl ?_
  refine jl_s (S' := ((19, [(3, .int 2), (2, .int 0), (4, .int (b1)), (0, .ref 64), (1, .int (xs 1))], [.int (((Int32.toUInt32 (xs 1) >>> (Int32.toUInt32 16 &&& Int32.toUInt32 31)).toInt32) &&& 255)], jzv181) : jS)) rfl ?_
  rw [e]
  refine jl_s (S' := ((21, [(4, .int (b2)), (3, .int 2), (2, .int 0), (0, .ref 64), (1, .int (xs 1))], [], jzv181) : jS)) rfl ?_
  refine jl_s (S' := ((23, [(4, .int (b2)), (3, .int 2), (2, .int 0), (0, .ref 64), (1, .int (xs 1))], [.int (b2)], jzv181) : jS)) rfl ?_
  refine jl_ift (e := jm20) (o := 34) rfl (h.1) (t := 57) rfl ?_
  refine jl_s (S' := ((58, [(4, .int (b2)), (3, .int 2), (2, .int 0), (0, .ref 64), (1, .int (xs 1))], [.int 0], jzv181) : jS)) rfl ?_
  refine jl_s (S' := ((60, [(4, .int (b2)), (3, .int 2), (2, .int 0), (0, .ref 64), (1, .int (xs 1))], [.int (b2), .int 0], jzv181) : jS)) rfl ?_
  refine jl_iff (e := jm20) (o := 7) rfl (h.2) ?_
  refine jl_s (S' := ((64, [(4, .int (b2)), (3, .int 2), (2, .int 0), (0, .ref 64), (1, .int (xs 1))], [.int 0, .int 0], jzv181) : jS)) rfl ?_
  refine jl_s (S' := ((68, [(4, .int (b2)), (3, .int 2), (2, .int 0), (0, .ref 64), (1, .int (xs 1))], [.int 0, .int 0], jzv181) : jS)) rfl ?_
  refine jl_s (S' := ((69, [(4, .int (b2)), (3, .int 2), (2, .int 0), (0, .ref 64), (1, .int (xs 1))], [.int 0], jzv181) : jS)) rfl ?_
  refine jl_s (S' := ((70, [(2, .int 0), (4, .int (b2)), (3, .int 2), (0, .ref 64), (1, .int (xs 1))], [], jzv181) : jS)) rfl ?_
  refine jl_s (S' := ((73, [(3, .int 3), (2, .int 0), (4, .int (b2)), (0, .ref 64), (1, .int (xs 1))], [], jzv181) : jS)) rfl ?_
  refine jl_s (S' := ((4, [(3, .int 3), (2, .int 0), (4, .int (b2)), (0, .ref 64), (1, .int (xs 1))], [], jzv181) : jS)) rfl ?_
  exact hq
set_option maxHeartbeats 4000000 in
set_option maxRecDepth 100000 in
theorem jzq275 (xs : Nat → Int32) (b0 b1 b2 b3 : Int32) (e : ((Int32.toUInt32 (xs 1) >>> (Int32.toUInt32 24 &&& Int32.toUInt32 31)).toInt32) &&& 255 = b3) (h : jbz b3) {f : Nat} {q : jO × jH} (hq : jLoop (jRun ((4, xs) : jX) 2000 37) ((4, xs) : jX) jm20 f ((4, [(3, .int 4), (2, .int 0), (4, .int (b3)), (0, .ref 64), (1, .int (xs 1))], [], jzv181) : jS) = some q) : jLoop (jRun ((4, xs) : jX) 2000 37) ((4, xs) : jX) jm20 (f + 22) ((4, [(3, .int 3), (2, .int 0), (4, .int (b2)), (0, .ref 64), (1, .int (xs 1))], [], jzv181) : jS) = some q := by
  refine jl_s (S' := ((5, [(3, .int 3), (2, .int 0), (4, .int (b2)), (0, .ref 64), (1, .int (xs 1))], [.int 3], jzv181) : jS)) rfl ?_
  refine jl_s (S' := ((6, [(3, .int 3), (2, .int 0), (4, .int (b2)), (0, .ref 64), (1, .int (xs 1))], [.int 4, .int 3], jzv181) : jS)) rfl ?_
  refine jl_s (S' := ((9, [(3, .int 3), (2, .int 0), (4, .int (b2)), (0, .ref 64), (1, .int (xs 1))], [], jzv181) : jS)) rfl ?_
  refine jl_s (S' := ((10, [(3, .int 3), (2, .int 0), (4, .int (b2)), (0, .ref 64), (1, .int (xs 1))], [.int (xs 1)], jzv181) : jS)) rfl ?_
  refine jl_s (S' := ((12, [(3, .int 3), (2, .int 0), (4, .int (b2)), (0, .ref 64), (1, .int (xs 1))], [.int 8, .int (xs 1)], jzv181) : jS)) rfl ?_
  refine jl_s (S' := ((13, [(3, .int 3), (2, .int 0), (4, .int (b2)), (0, .ref 64), (1, .int (xs 1))], [.int 3, .int 8, .int (xs 1)], jzv181) : jS)) rfl ?_
  refine jl_s (S' := ((14, [(3, .int 3), (2, .int 0), (4, .int (b2)), (0, .ref 64), (1, .int (xs 1))], [.int 24, .int (xs 1)], jzv181) : jS)) rfl ?_
  refine jl_s (S' := ((15, [(3, .int 3), (2, .int 0), (4, .int (b2)), (0, .ref 64), (1, .int (xs 1))], [.int ((Int32.toUInt32 (xs 1) >>> (Int32.toUInt32 24 &&& Int32.toUInt32 31)).toInt32)], jzv181) : jS)) rfl ?_
  refine jl_s (S' := ((18, [(3, .int 3), (2, .int 0), (4, .int (b2)), (0, .ref 64), (1, .int (xs 1))], [.int 255, .int ((Int32.toUInt32 (xs 1) >>> (Int32.toUInt32 24 &&& Int32.toUInt32 31)).toInt32)], jzv181) : jS)) rfl ?_
  refine jl_s (S' := ((19, [(3, .int 3), (2, .int 0), (4, .int (b2)), (0, .ref 64), (1, .int (xs 1))], [.int (((Int32.toUInt32 (xs 1) >>> (Int32.toUInt32 24 &&& Int32.toUInt32 31)).toInt32) &&& 255)], jzv181) : jS)) rfl ?_
  rw [e]
  refine jl_s (S' := ((21, [(4, .int (b3)), (3, .int 3), (2, .int 0), (0, .ref 64), (1, .int (xs 1))], [], jzv181) : jS)) rfl ?_
  refine jl_s (S' := ((23, [(4, .int (b3)), (3, .int 3), (2, .int 0), (0, .ref 64), (1, .int (xs 1))], [.int (b3)], jzv181) : jS)) rfl ?_
  refine jl_ift (e := jm20) (o := 34) rfl (h.1) (t := 57) rfl ?_
  refine jl_s (S' := ((58, [(4, .int (b3)), (3, .int 3), (2, .int 0), (0, .ref 64), (1, .int (xs 1))], [.int 0], jzv181) : jS)) rfl ?_
  refine jl_s (S' := ((60, [(4, .int (b3)), (3, .int 3), (2, .int 0), (0, .ref 64), (1, .int (xs 1))], [.int (b3), .int 0], jzv181) : jS)) rfl ?_
  refine jl_iff (e := jm20) (o := 7) rfl (h.2) ?_
  refine jl_s (S' := ((64, [(4, .int (b3)), (3, .int 3), (2, .int 0), (0, .ref 64), (1, .int (xs 1))], [.int 0, .int 0], jzv181) : jS)) rfl ?_
  refine jl_s (S' := ((68, [(4, .int (b3)), (3, .int 3), (2, .int 0), (0, .ref 64), (1, .int (xs 1))], [.int 0, .int 0], jzv181) : jS)) rfl ?_
  refine jl_s (S' := ((69, [(4, .int (b3)), (3, .int 3), (2, .int 0), (0, .ref 64), (1, .int (xs 1))], [.int 0], jzv181) : jS)) rfl ?_
  refine jl_s (S' := ((70, [(2, .int 0), (4, .int (b3)), (3, .int 3), (0, .ref 64), (1, .int (xs 1))], [], jzv181) : jS)) rfl ?_
  refine jl_s (S' := ((73, [(3, .int 4), (2, .int 0), (4, .int (b3)), (0, .ref 64), (1, .int (xs 1))], [], jzv181) : jS)) rfl ?_
  refine jl_s (S' := ((4, [(3, .int 4), (2, .int 0), (4, .int (b3)), (0, .ref 64), (1, .int (xs 1))], [], jzv181) : jS)) rfl ?_
  exact hq
set_option maxHeartbeats 4000000 in
set_option maxRecDepth 100000 in
theorem jzq277 (xs : Nat → Int32) (b0 b1 b2 b3 : Int32) {f : Nat} {q : jO × jH} (hq : jLoop (jRun ((4, xs) : jX) 2000 37) ((4, xs) : jX) jm20 f ((100, [(3, .int 0), (2, .int 0), (4, .int (b3)), (0, .ref 64), (1, .int (xs 1))], [], jzv181) : jS) = some q) : jLoop (jRun ((4, xs) : jX) 2000 37) ((4, xs) : jX) jm20 (f + 11) ((4, [(3, .int 4), (2, .int 0), (4, .int (b3)), (0, .ref 64), (1, .int (xs 1))], [], jzv181) : jS) = some q := by
  refine jl_s (S' := ((5, [(3, .int 4), (2, .int 0), (4, .int (b3)), (0, .ref 64), (1, .int (xs 1))], [.int 4], jzv181) : jS)) rfl ?_
  refine jl_s (S' := ((6, [(3, .int 4), (2, .int 0), (4, .int (b3)), (0, .ref 64), (1, .int (xs 1))], [.int 4, .int 4], jzv181) : jS)) rfl ?_
  refine jl_s (S' := ((76, [(3, .int 4), (2, .int 0), (4, .int (b3)), (0, .ref 64), (1, .int (xs 1))], [], jzv181) : jS)) rfl ?_
  refine jl_s (S' := ((77, [(3, .int 4), (2, .int 0), (4, .int (b3)), (0, .ref 64), (1, .int (xs 1))], [.ref 64], jzv181) : jS)) rfl ?_
  refine jl_s (S' := ((80, [(3, .int 4), (2, .int 0), (4, .int (b3)), (0, .ref 64), (1, .int (xs 1))], [.int 0], jzv181) : jS)) rfl ?_
  refine jl_s (S' := ((81, [(3, .int 4), (2, .int 0), (4, .int (b3)), (0, .ref 64), (1, .int (xs 1))], [.int 0, .int 0], jzv181) : jS)) rfl ?_
  refine jl_s (S' := ((82, [(3, .int 4), (2, .int 0), (4, .int (b3)), (0, .ref 64), (1, .int (xs 1))], [.int 0], jzv181) : jS)) rfl ?_
  refine jl_s (S' := ((85, [(3, .int 4), (2, .int 0), (4, .int (b3)), (0, .ref 64), (1, .int (xs 1))], [.int 3000, .int 0], jzv181) : jS)) rfl ?_
  refine jl_s (S' := ((98, [(3, .int 4), (2, .int 0), (4, .int (b3)), (0, .ref 64), (1, .int (xs 1))], [], jzv181) : jS)) rfl ?_
  refine jl_s (S' := ((99, [(3, .int 4), (2, .int 0), (4, .int (b3)), (0, .ref 64), (1, .int (xs 1))], [.int 0], jzv181) : jS)) rfl ?_
  refine jl_s (S' := ((100, [(3, .int 0), (2, .int 0), (4, .int (b3)), (0, .ref 64), (1, .int (xs 1))], [], jzv181) : jS)) rfl ?_
  exact hq
set_option maxHeartbeats 4000000 in
set_option maxRecDepth 100000 in
theorem jzq279 (xs : Nat → Int32) (b0 b1 b2 b3 : Int32) (e : ((Int32.toUInt32 (xs 1) >>> (Int32.toUInt32 0 &&& Int32.toUInt32 31)).toInt32) &&& 255 = b0) (h : jbz b0) {f : Nat} {q : jO × jH} (hq : jLoop (jRun ((4, xs) : jX) 2000 37) ((4, xs) : jX) jm20 f ((100, [(3, .int 1), (4, .int (b0)), (2, .int 0), (0, .ref 64), (1, .int (xs 1))], [], jzv181) : jS) = some q) : jLoop (jRun ((4, xs) : jX) 2000 37) ((4, xs) : jX) jm20 (f + 15) ((100, [(3, .int 0), (2, .int 0), (4, .int (b3)), (0, .ref 64), (1, .int (xs 1))], [], jzv181) : jS) = some q := by
  refine jl_s (S' := ((101, [(3, .int 0), (2, .int 0), (4, .int (b3)), (0, .ref 64), (1, .int (xs 1))], [.int 0], jzv181) : jS)) rfl ?_
  refine jl_s (S' := ((102, [(3, .int 0), (2, .int 0), (4, .int (b3)), (0, .ref 64), (1, .int (xs 1))], [.int 4, .int 0], jzv181) : jS)) rfl ?_
  refine jl_s (S' := ((105, [(3, .int 0), (2, .int 0), (4, .int (b3)), (0, .ref 64), (1, .int (xs 1))], [], jzv181) : jS)) rfl ?_
  refine jl_s (S' := ((106, [(3, .int 0), (2, .int 0), (4, .int (b3)), (0, .ref 64), (1, .int (xs 1))], [.int (xs 1)], jzv181) : jS)) rfl ?_
  refine jl_s (S' := ((108, [(3, .int 0), (2, .int 0), (4, .int (b3)), (0, .ref 64), (1, .int (xs 1))], [.int 8, .int (xs 1)], jzv181) : jS)) rfl ?_
  refine jl_s (S' := ((109, [(3, .int 0), (2, .int 0), (4, .int (b3)), (0, .ref 64), (1, .int (xs 1))], [.int 0, .int 8, .int (xs 1)], jzv181) : jS)) rfl ?_
  refine jl_s (S' := ((110, [(3, .int 0), (2, .int 0), (4, .int (b3)), (0, .ref 64), (1, .int (xs 1))], [.int 0, .int (xs 1)], jzv181) : jS)) rfl ?_
  refine jl_s (S' := ((111, [(3, .int 0), (2, .int 0), (4, .int (b3)), (0, .ref 64), (1, .int (xs 1))], [.int ((Int32.toUInt32 (xs 1) >>> (Int32.toUInt32 0 &&& Int32.toUInt32 31)).toInt32)], jzv181) : jS)) rfl ?_
  refine jl_s (S' := ((114, [(3, .int 0), (2, .int 0), (4, .int (b3)), (0, .ref 64), (1, .int (xs 1))], [.int 255, .int ((Int32.toUInt32 (xs 1) >>> (Int32.toUInt32 0 &&& Int32.toUInt32 31)).toInt32)], jzv181) : jS)) rfl ?_
  refine jl_s (S' := ((115, [(3, .int 0), (2, .int 0), (4, .int (b3)), (0, .ref 64), (1, .int (xs 1))], [.int (((Int32.toUInt32 (xs 1) >>> (Int32.toUInt32 0 &&& Int32.toUInt32 31)).toInt32) &&& 255)], jzv181) : jS)) rfl ?_
  rw [e]
  refine jl_s (S' := ((117, [(4, .int (b0)), (3, .int 0), (2, .int 0), (0, .ref 64), (1, .int (xs 1))], [], jzv181) : jS)) rfl ?_
  refine jl_s (S' := ((119, [(4, .int (b0)), (3, .int 0), (2, .int 0), (0, .ref 64), (1, .int (xs 1))], [.int (b0)], jzv181) : jS)) rfl ?_
  refine jl_ift (e := jm20) (o := 35) rfl (h.1) (t := 154) rfl ?_
  refine jl_s (S' := ((157, [(3, .int 1), (4, .int (b0)), (2, .int 0), (0, .ref 64), (1, .int (xs 1))], [], jzv181) : jS)) rfl ?_
  refine jl_s (S' := ((100, [(3, .int 1), (4, .int (b0)), (2, .int 0), (0, .ref 64), (1, .int (xs 1))], [], jzv181) : jS)) rfl ?_
  exact hq
set_option maxHeartbeats 4000000 in
set_option maxRecDepth 100000 in
theorem jzq281 (xs : Nat → Int32) (b0 b1 b2 b3 : Int32) (e : ((Int32.toUInt32 (xs 1) >>> (Int32.toUInt32 8 &&& Int32.toUInt32 31)).toInt32) &&& 255 = b1) (h : jbz b1) {f : Nat} {q : jO × jH} (hq : jLoop (jRun ((4, xs) : jX) 2000 37) ((4, xs) : jX) jm20 f ((100, [(3, .int 2), (4, .int (b1)), (2, .int 0), (0, .ref 64), (1, .int (xs 1))], [], jzv181) : jS) = some q) : jLoop (jRun ((4, xs) : jX) 2000 37) ((4, xs) : jX) jm20 (f + 15) ((100, [(3, .int 1), (4, .int (b0)), (2, .int 0), (0, .ref 64), (1, .int (xs 1))], [], jzv181) : jS) = some q := by
  refine jl_s (S' := ((101, [(3, .int 1), (4, .int (b0)), (2, .int 0), (0, .ref 64), (1, .int (xs 1))], [.int 1], jzv181) : jS)) rfl ?_
  refine jl_s (S' := ((102, [(3, .int 1), (4, .int (b0)), (2, .int 0), (0, .ref 64), (1, .int (xs 1))], [.int 4, .int 1], jzv181) : jS)) rfl ?_
  refine jl_s (S' := ((105, [(3, .int 1), (4, .int (b0)), (2, .int 0), (0, .ref 64), (1, .int (xs 1))], [], jzv181) : jS)) rfl ?_
  refine jl_s (S' := ((106, [(3, .int 1), (4, .int (b0)), (2, .int 0), (0, .ref 64), (1, .int (xs 1))], [.int (xs 1)], jzv181) : jS)) rfl ?_
  refine jl_s (S' := ((108, [(3, .int 1), (4, .int (b0)), (2, .int 0), (0, .ref 64), (1, .int (xs 1))], [.int 8, .int (xs 1)], jzv181) : jS)) rfl ?_
  refine jl_s (S' := ((109, [(3, .int 1), (4, .int (b0)), (2, .int 0), (0, .ref 64), (1, .int (xs 1))], [.int 1, .int 8, .int (xs 1)], jzv181) : jS)) rfl ?_
  refine jl_s (S' := ((110, [(3, .int 1), (4, .int (b0)), (2, .int 0), (0, .ref 64), (1, .int (xs 1))], [.int 8, .int (xs 1)], jzv181) : jS)) rfl ?_
  refine jl_s (S' := ((111, [(3, .int 1), (4, .int (b0)), (2, .int 0), (0, .ref 64), (1, .int (xs 1))], [.int ((Int32.toUInt32 (xs 1) >>> (Int32.toUInt32 8 &&& Int32.toUInt32 31)).toInt32)], jzv181) : jS)) rfl ?_
  refine jl_s (S' := ((114, [(3, .int 1), (4, .int (b0)), (2, .int 0), (0, .ref 64), (1, .int (xs 1))], [.int 255, .int ((Int32.toUInt32 (xs 1) >>> (Int32.toUInt32 8 &&& Int32.toUInt32 31)).toInt32)], jzv181) : jS)) rfl ?_
  refine jl_s (S' := ((115, [(3, .int 1), (4, .int (b0)), (2, .int 0), (0, .ref 64), (1, .int (xs 1))], [.int (((Int32.toUInt32 (xs 1) >>> (Int32.toUInt32 8 &&& Int32.toUInt32 31)).toInt32) &&& 255)], jzv181) : jS)) rfl ?_
  rw [e]
  refine jl_s (S' := ((117, [(4, .int (b1)), (3, .int 1), (2, .int 0), (0, .ref 64), (1, .int (xs 1))], [], jzv181) : jS)) rfl ?_
  refine jl_s (S' := ((119, [(4, .int (b1)), (3, .int 1), (2, .int 0), (0, .ref 64), (1, .int (xs 1))], [.int (b1)], jzv181) : jS)) rfl ?_
  refine jl_ift (e := jm20) (o := 35) rfl (h.1) (t := 154) rfl ?_
  refine jl_s (S' := ((157, [(3, .int 2), (4, .int (b1)), (2, .int 0), (0, .ref 64), (1, .int (xs 1))], [], jzv181) : jS)) rfl ?_
  refine jl_s (S' := ((100, [(3, .int 2), (4, .int (b1)), (2, .int 0), (0, .ref 64), (1, .int (xs 1))], [], jzv181) : jS)) rfl ?_
  exact hq
set_option maxHeartbeats 4000000 in
set_option maxRecDepth 100000 in
theorem jzq283 (xs : Nat → Int32) (b0 b1 b2 b3 : Int32) (e : ((Int32.toUInt32 (xs 1) >>> (Int32.toUInt32 16 &&& Int32.toUInt32 31)).toInt32) &&& 255 = b2) (h : jbz b2) {f : Nat} {q : jO × jH} (hq : jLoop (jRun ((4, xs) : jX) 2000 37) ((4, xs) : jX) jm20 f ((100, [(3, .int 3), (4, .int (b2)), (2, .int 0), (0, .ref 64), (1, .int (xs 1))], [], jzv181) : jS) = some q) : jLoop (jRun ((4, xs) : jX) 2000 37) ((4, xs) : jX) jm20 (f + 15) ((100, [(3, .int 2), (4, .int (b1)), (2, .int 0), (0, .ref 64), (1, .int (xs 1))], [], jzv181) : jS) = some q := by
  refine jl_s (S' := ((101, [(3, .int 2), (4, .int (b1)), (2, .int 0), (0, .ref 64), (1, .int (xs 1))], [.int 2], jzv181) : jS)) rfl ?_
  refine jl_s (S' := ((102, [(3, .int 2), (4, .int (b1)), (2, .int 0), (0, .ref 64), (1, .int (xs 1))], [.int 4, .int 2], jzv181) : jS)) rfl ?_
  refine jl_s (S' := ((105, [(3, .int 2), (4, .int (b1)), (2, .int 0), (0, .ref 64), (1, .int (xs 1))], [], jzv181) : jS)) rfl ?_
  refine jl_s (S' := ((106, [(3, .int 2), (4, .int (b1)), (2, .int 0), (0, .ref 64), (1, .int (xs 1))], [.int (xs 1)], jzv181) : jS)) rfl ?_
  refine jl_s (S' := ((108, [(3, .int 2), (4, .int (b1)), (2, .int 0), (0, .ref 64), (1, .int (xs 1))], [.int 8, .int (xs 1)], jzv181) : jS)) rfl ?_
  refine jl_s (S' := ((109, [(3, .int 2), (4, .int (b1)), (2, .int 0), (0, .ref 64), (1, .int (xs 1))], [.int 2, .int 8, .int (xs 1)], jzv181) : jS)) rfl ?_
  refine jl_s (S' := ((110, [(3, .int 2), (4, .int (b1)), (2, .int 0), (0, .ref 64), (1, .int (xs 1))], [.int 16, .int (xs 1)], jzv181) : jS)) rfl ?_
  refine jl_s (S' := ((111, [(3, .int 2), (4, .int (b1)), (2, .int 0), (0, .ref 64), (1, .int (xs 1))], [.int ((Int32.toUInt32 (xs 1) >>> (Int32.toUInt32 16 &&& Int32.toUInt32 31)).toInt32)], jzv181) : jS)) rfl ?_
  refine jl_s (S' := ((114, [(3, .int 2), (4, .int (b1)), (2, .int 0), (0, .ref 64), (1, .int (xs 1))], [.int 255, .int ((Int32.toUInt32 (xs 1) >>> (Int32.toUInt32 16 &&& Int32.toUInt32 31)).toInt32)], jzv181) : jS)) rfl ?_
  refine jl_s (S' := ((115, [(3, .int 2), (4, .int (b1)), (2, .int 0), (0, .ref 64), (1, .int (xs 1))], [.int (((Int32.toUInt32 (xs 1) >>> (Int32.toUInt32 16 &&& Int32.toUInt32 31)).toInt32) &&& 255)], jzv181) : jS)) rfl ?_
  rw [e]
  refine jl_s (S' := ((117, [(4, .int (b2)), (3, .int 2), (2, .int 0), (0, .ref 64), (1, .int (xs 1))], [], jzv181) : jS)) rfl ?_
  refine jl_s (S' := ((119, [(4, .int (b2)), (3, .int 2), (2, .int 0), (0, .ref 64), (1, .int (xs 1))], [.int (b2)], jzv181) : jS)) rfl ?_
  refine jl_ift (e := jm20) (o := 35) rfl (h.1) (t := 154) rfl ?_
  refine jl_s (S' := ((157, [(3, .int 3), (4, .int (b2)), (2, .int 0), (0, .ref 64), (1, .int (xs 1))], [], jzv181) : jS)) rfl ?_
  refine jl_s (S' := ((100, [(3, .int 3), (4, .int (b2)), (2, .int 0), (0, .ref 64), (1, .int (xs 1))], [], jzv181) : jS)) rfl ?_
  exact hq
set_option maxHeartbeats 4000000 in
set_option maxRecDepth 100000 in
theorem jzq285 (xs : Nat → Int32) (b0 b1 b2 b3 : Int32) (e : ((Int32.toUInt32 (xs 1) >>> (Int32.toUInt32 24 &&& Int32.toUInt32 31)).toInt32) &&& 255 = b3) (h : jbz b3) {f : Nat} {q : jO × jH} (hq : jLoop (jRun ((4, xs) : jX) 2000 37) ((4, xs) : jX) jm20 f ((100, [(3, .int 4), (4, .int (b3)), (2, .int 0), (0, .ref 64), (1, .int (xs 1))], [], jzv181) : jS) = some q) : jLoop (jRun ((4, xs) : jX) 2000 37) ((4, xs) : jX) jm20 (f + 15) ((100, [(3, .int 3), (4, .int (b2)), (2, .int 0), (0, .ref 64), (1, .int (xs 1))], [], jzv181) : jS) = some q := by
  refine jl_s (S' := ((101, [(3, .int 3), (4, .int (b2)), (2, .int 0), (0, .ref 64), (1, .int (xs 1))], [.int 3], jzv181) : jS)) rfl ?_
  refine jl_s (S' := ((102, [(3, .int 3), (4, .int (b2)), (2, .int 0), (0, .ref 64), (1, .int (xs 1))], [.int 4, .int 3], jzv181) : jS)) rfl ?_
  refine jl_s (S' := ((105, [(3, .int 3), (4, .int (b2)), (2, .int 0), (0, .ref 64), (1, .int (xs 1))], [], jzv181) : jS)) rfl ?_
  refine jl_s (S' := ((106, [(3, .int 3), (4, .int (b2)), (2, .int 0), (0, .ref 64), (1, .int (xs 1))], [.int (xs 1)], jzv181) : jS)) rfl ?_
  refine jl_s (S' := ((108, [(3, .int 3), (4, .int (b2)), (2, .int 0), (0, .ref 64), (1, .int (xs 1))], [.int 8, .int (xs 1)], jzv181) : jS)) rfl ?_
  refine jl_s (S' := ((109, [(3, .int 3), (4, .int (b2)), (2, .int 0), (0, .ref 64), (1, .int (xs 1))], [.int 3, .int 8, .int (xs 1)], jzv181) : jS)) rfl ?_
  refine jl_s (S' := ((110, [(3, .int 3), (4, .int (b2)), (2, .int 0), (0, .ref 64), (1, .int (xs 1))], [.int 24, .int (xs 1)], jzv181) : jS)) rfl ?_
  refine jl_s (S' := ((111, [(3, .int 3), (4, .int (b2)), (2, .int 0), (0, .ref 64), (1, .int (xs 1))], [.int ((Int32.toUInt32 (xs 1) >>> (Int32.toUInt32 24 &&& Int32.toUInt32 31)).toInt32)], jzv181) : jS)) rfl ?_
  refine jl_s (S' := ((114, [(3, .int 3), (4, .int (b2)), (2, .int 0), (0, .ref 64), (1, .int (xs 1))], [.int 255, .int ((Int32.toUInt32 (xs 1) >>> (Int32.toUInt32 24 &&& Int32.toUInt32 31)).toInt32)], jzv181) : jS)) rfl ?_
  refine jl_s (S' := ((115, [(3, .int 3), (4, .int (b2)), (2, .int 0), (0, .ref 64), (1, .int (xs 1))], [.int (((Int32.toUInt32 (xs 1) >>> (Int32.toUInt32 24 &&& Int32.toUInt32 31)).toInt32) &&& 255)], jzv181) : jS)) rfl ?_
  rw [e]
  refine jl_s (S' := ((117, [(4, .int (b3)), (3, .int 3), (2, .int 0), (0, .ref 64), (1, .int (xs 1))], [], jzv181) : jS)) rfl ?_
  refine jl_s (S' := ((119, [(4, .int (b3)), (3, .int 3), (2, .int 0), (0, .ref 64), (1, .int (xs 1))], [.int (b3)], jzv181) : jS)) rfl ?_
  refine jl_ift (e := jm20) (o := 35) rfl (h.1) (t := 154) rfl ?_
  refine jl_s (S' := ((157, [(3, .int 4), (4, .int (b3)), (2, .int 0), (0, .ref 64), (1, .int (xs 1))], [], jzv181) : jS)) rfl ?_
  refine jl_s (S' := ((100, [(3, .int 4), (4, .int (b3)), (2, .int 0), (0, .ref 64), (1, .int (xs 1))], [], jzv181) : jS)) rfl ?_
  exact hq
set_option maxHeartbeats 4000000 in
set_option maxRecDepth 100000 in
theorem jzq287 (xs : Nat → Int32) (b0 b1 b2 b3 : Int32) {f : Nat} : jLoop (jRun ((4, xs) : jX) 2000 37) ((4, xs) : jX) jm20 (f + 6) ((100, [(3, .int 4), (4, .int (b3)), (2, .int 0), (0, .ref 64), (1, .int (xs 1))], [], jzv181) : jS) = some (.inl (some (.int 0)), jzv181) := by
  refine jl_s (S' := ((101, [(3, .int 4), (4, .int (b3)), (2, .int 0), (0, .ref 64), (1, .int (xs 1))], [.int 4], jzv181) : jS)) rfl ?_
  refine jl_s (S' := ((102, [(3, .int 4), (4, .int (b3)), (2, .int 0), (0, .ref 64), (1, .int (xs 1))], [.int 4, .int 4], jzv181) : jS)) rfl ?_
  refine jl_s (S' := ((160, [(3, .int 4), (4, .int (b3)), (2, .int 0), (0, .ref 64), (1, .int (xs 1))], [], jzv181) : jS)) rfl ?_
  refine jl_s (S' := ((161, [(3, .int 4), (4, .int (b3)), (2, .int 0), (0, .ref 64), (1, .int (xs 1))], [.ref 64], jzv181) : jS)) rfl ?_
  refine jl_s (S' := ((164, [(3, .int 4), (4, .int (b3)), (2, .int 0), (0, .ref 64), (1, .int (xs 1))], [.int 0], jzv181) : jS)) rfl ?_
  exact jl_r (r := (.inl (some (.int 0)), jzv181)) rfl
set_option maxHeartbeats 4000000 in
set_option maxRecDepth 100000 in
theorem jzcp_ZZZZ (xs : Nat → Int32) (b0 b1 b2 b3 : Int32) (e0 : ((Int32.toUInt32 (xs 1) >>> (Int32.toUInt32 0 &&& Int32.toUInt32 31)).toInt32) &&& 255 = b0) (e1 : ((Int32.toUInt32 (xs 1) >>> (Int32.toUInt32 8 &&& Int32.toUInt32 31)).toInt32) &&& 255 = b1) (e2 : ((Int32.toUInt32 (xs 1) >>> (Int32.toUInt32 16 &&& Int32.toUInt32 31)).toInt32) &&& 255 = b2) (e3 : ((Int32.toUInt32 (xs 1) >>> (Int32.toUInt32 24 &&& Int32.toUInt32 31)).toInt32) &&& 255 = b3) (h0 : jbz b0) (h1 : jbz b1) (h2 : jbz b2) (h3 : jbz b3) : jRun ((4, xs) : jX) 2000 38 20 [.ref 64, .int (xs 1)] jzv181 = some (.inl (some (.int 0)), jzv181) := by
  refine jr_run (e := jm20) rfl (Nat.le_of_ble_eq_true rfl) ?_
  refine jzq267 xs b0 b1 b2 b3 ?_
  refine jzq269 xs b0 b1 b2 b3 e0 h0 ?_
  refine jzq271 xs b0 b1 b2 b3 e1 h1 ?_
  refine jzq273 xs b0 b1 b2 b3 e2 h2 ?_
  refine jzq275 xs b0 b1 b2 b3 e3 h3 ?_
  refine jzq277 xs b0 b1 b2 b3 ?_
  refine jzq279 xs b0 b1 b2 b3 e0 h0 ?_
  refine jzq281 xs b0 b1 b2 b3 e1 h1 ?_
  refine jzq283 xs b0 b1 b2 b3 e2 h2 ?_
  refine jzq285 xs b0 b1 b2 b3 e3 h3 ?_
  exact jzq287 xs b0 b1 b2 b3
set_option maxHeartbeats 4000000 in
set_option maxRecDepth 100000 in
theorem jzq290 (xs : Nat → Int32) (b0 b1 b2 b3 : Int32) (e : ((Int32.toUInt32 (xs 1) >>> (Int32.toUInt32 24 &&& Int32.toUInt32 31)).toInt32) &&& 255 = b3) (h : jbv b3) {f : Nat} {q : jO × jH} (hq : jLoop (jRun ((4, xs) : jX) 2000 37) ((4, xs) : jX) jm20 f ((4, [(3, .int 4), (2, .int 1), (4, .int (b3)), (0, .ref 64), (1, .int (xs 1))], [], jzv181) : jS) = some q) : jLoop (jRun ((4, xs) : jX) 2000 37) ((4, xs) : jX) jm20 (f + 30) ((4, [(3, .int 3), (2, .int 0), (4, .int (b2)), (0, .ref 64), (1, .int (xs 1))], [], jzv181) : jS) = some q := by
  rcases h.2 with h1 | ⟨h1, h2, h3, h4⟩
  · refine jl_s (S' := ((5, [(3, .int 3), (2, .int 0), (4, .int (b2)), (0, .ref 64), (1, .int (xs 1))], [.int 3], jzv181) : jS)) rfl ?_
    refine jl_s (S' := ((6, [(3, .int 3), (2, .int 0), (4, .int (b2)), (0, .ref 64), (1, .int (xs 1))], [.int 4, .int 3], jzv181) : jS)) rfl ?_
    refine jl_s (S' := ((9, [(3, .int 3), (2, .int 0), (4, .int (b2)), (0, .ref 64), (1, .int (xs 1))], [], jzv181) : jS)) rfl ?_
    refine jl_s (S' := ((10, [(3, .int 3), (2, .int 0), (4, .int (b2)), (0, .ref 64), (1, .int (xs 1))], [.int (xs 1)], jzv181) : jS)) rfl ?_
    refine jl_s (S' := ((12, [(3, .int 3), (2, .int 0), (4, .int (b2)), (0, .ref 64), (1, .int (xs 1))], [.int 8, .int (xs 1)], jzv181) : jS)) rfl ?_
    refine jl_s (S' := ((13, [(3, .int 3), (2, .int 0), (4, .int (b2)), (0, .ref 64), (1, .int (xs 1))], [.int 3, .int 8, .int (xs 1)], jzv181) : jS)) rfl ?_
    refine jl_s (S' := ((14, [(3, .int 3), (2, .int 0), (4, .int (b2)), (0, .ref 64), (1, .int (xs 1))], [.int 24, .int (xs 1)], jzv181) : jS)) rfl ?_
    refine jl_s (S' := ((15, [(3, .int 3), (2, .int 0), (4, .int (b2)), (0, .ref 64), (1, .int (xs 1))], [.int ((Int32.toUInt32 (xs 1) >>> (Int32.toUInt32 24 &&& Int32.toUInt32 31)).toInt32)], jzv181) : jS)) rfl ?_
    refine jl_s (S' := ((18, [(3, .int 3), (2, .int 0), (4, .int (b2)), (0, .ref 64), (1, .int (xs 1))], [.int 255, .int ((Int32.toUInt32 (xs 1) >>> (Int32.toUInt32 24 &&& Int32.toUInt32 31)).toInt32)], jzv181) : jS)) rfl ?_
    refine jl_s (S' := ((19, [(3, .int 3), (2, .int 0), (4, .int (b2)), (0, .ref 64), (1, .int (xs 1))], [.int (((Int32.toUInt32 (xs 1) >>> (Int32.toUInt32 24 &&& Int32.toUInt32 31)).toInt32) &&& 255)], jzv181) : jS)) rfl ?_
    rw [e]
    refine jl_s (S' := ((21, [(4, .int (b3)), (3, .int 3), (2, .int 0), (0, .ref 64), (1, .int (xs 1))], [], jzv181) : jS)) rfl ?_
    refine jl_s (S' := ((23, [(4, .int (b3)), (3, .int 3), (2, .int 0), (0, .ref 64), (1, .int (xs 1))], [.int (b3)], jzv181) : jS)) rfl ?_
    refine jl_iff (e := jm20) (o := 34) rfl (h.1.1) ?_
    refine jl_s (S' := ((28, [(4, .int (b3)), (3, .int 3), (2, .int 0), (0, .ref 64), (1, .int (xs 1))], [.int (b3)], jzv181) : jS)) rfl ?_
    refine jl_s (S' := ((30, [(4, .int (b3)), (3, .int 3), (2, .int 0), (0, .ref 64), (1, .int (xs 1))], [.int 10, .int (b3)], jzv181) : jS)) rfl ?_
    refine jl_ict (e := jm20) (o := 27) rfl (h1) (t := 57) rfl ?_
    refine jl_s (S' := ((58, [(4, .int (b3)), (3, .int 3), (2, .int 0), (0, .ref 64), (1, .int (xs 1))], [.int 0], jzv181) : jS)) rfl ?_
    refine jl_s (S' := ((60, [(4, .int (b3)), (3, .int 3), (2, .int 0), (0, .ref 64), (1, .int (xs 1))], [.int (b3), .int 0], jzv181) : jS)) rfl ?_
    refine jl_ift (e := jm20) (o := 7) rfl (h.1.2) (t := 67) rfl ?_
    refine jl_s (S' := ((68, [(4, .int (b3)), (3, .int 3), (2, .int 0), (0, .ref 64), (1, .int (xs 1))], [.int 1, .int 0], jzv181) : jS)) rfl ?_
    refine jl_s (S' := ((69, [(4, .int (b3)), (3, .int 3), (2, .int 0), (0, .ref 64), (1, .int (xs 1))], [.int 1], jzv181) : jS)) rfl ?_
    refine jl_s (S' := ((70, [(2, .int 1), (4, .int (b3)), (3, .int 3), (0, .ref 64), (1, .int (xs 1))], [], jzv181) : jS)) rfl ?_
    refine jl_s (S' := ((73, [(3, .int 4), (2, .int 1), (4, .int (b3)), (0, .ref 64), (1, .int (xs 1))], [], jzv181) : jS)) rfl ?_
    refine jl_s (S' := ((4, [(3, .int 4), (2, .int 1), (4, .int (b3)), (0, .ref 64), (1, .int (xs 1))], [], jzv181) : jS)) rfl ?_
    exact jl_more hq
  · refine jl_s (S' := ((5, [(3, .int 3), (2, .int 0), (4, .int (b2)), (0, .ref 64), (1, .int (xs 1))], [.int 3], jzv181) : jS)) rfl ?_
    refine jl_s (S' := ((6, [(3, .int 3), (2, .int 0), (4, .int (b2)), (0, .ref 64), (1, .int (xs 1))], [.int 4, .int 3], jzv181) : jS)) rfl ?_
    refine jl_s (S' := ((9, [(3, .int 3), (2, .int 0), (4, .int (b2)), (0, .ref 64), (1, .int (xs 1))], [], jzv181) : jS)) rfl ?_
    refine jl_s (S' := ((10, [(3, .int 3), (2, .int 0), (4, .int (b2)), (0, .ref 64), (1, .int (xs 1))], [.int (xs 1)], jzv181) : jS)) rfl ?_
    refine jl_s (S' := ((12, [(3, .int 3), (2, .int 0), (4, .int (b2)), (0, .ref 64), (1, .int (xs 1))], [.int 8, .int (xs 1)], jzv181) : jS)) rfl ?_
    refine jl_s (S' := ((13, [(3, .int 3), (2, .int 0), (4, .int (b2)), (0, .ref 64), (1, .int (xs 1))], [.int 3, .int 8, .int (xs 1)], jzv181) : jS)) rfl ?_
    refine jl_s (S' := ((14, [(3, .int 3), (2, .int 0), (4, .int (b2)), (0, .ref 64), (1, .int (xs 1))], [.int 24, .int (xs 1)], jzv181) : jS)) rfl ?_
    refine jl_s (S' := ((15, [(3, .int 3), (2, .int 0), (4, .int (b2)), (0, .ref 64), (1, .int (xs 1))], [.int ((Int32.toUInt32 (xs 1) >>> (Int32.toUInt32 24 &&& Int32.toUInt32 31)).toInt32)], jzv181) : jS)) rfl ?_
    refine jl_s (S' := ((18, [(3, .int 3), (2, .int 0), (4, .int (b2)), (0, .ref 64), (1, .int (xs 1))], [.int 255, .int ((Int32.toUInt32 (xs 1) >>> (Int32.toUInt32 24 &&& Int32.toUInt32 31)).toInt32)], jzv181) : jS)) rfl ?_
    refine jl_s (S' := ((19, [(3, .int 3), (2, .int 0), (4, .int (b2)), (0, .ref 64), (1, .int (xs 1))], [.int (((Int32.toUInt32 (xs 1) >>> (Int32.toUInt32 24 &&& Int32.toUInt32 31)).toInt32) &&& 255)], jzv181) : jS)) rfl ?_
    rw [e]
    refine jl_s (S' := ((21, [(4, .int (b3)), (3, .int 3), (2, .int 0), (0, .ref 64), (1, .int (xs 1))], [], jzv181) : jS)) rfl ?_
    refine jl_s (S' := ((23, [(4, .int (b3)), (3, .int 3), (2, .int 0), (0, .ref 64), (1, .int (xs 1))], [.int (b3)], jzv181) : jS)) rfl ?_
    refine jl_iff (e := jm20) (o := 34) rfl (h.1.1) ?_
    refine jl_s (S' := ((28, [(4, .int (b3)), (3, .int 3), (2, .int 0), (0, .ref 64), (1, .int (xs 1))], [.int (b3)], jzv181) : jS)) rfl ?_
    refine jl_s (S' := ((30, [(4, .int (b3)), (3, .int 3), (2, .int 0), (0, .ref 64), (1, .int (xs 1))], [.int 10, .int (b3)], jzv181) : jS)) rfl ?_
    refine jl_icf (e := jm20) (o := 27) rfl (h1) ?_
    refine jl_s (S' := ((35, [(4, .int (b3)), (3, .int 3), (2, .int 0), (0, .ref 64), (1, .int (xs 1))], [.int (b3)], jzv181) : jS)) rfl ?_
    refine jl_s (S' := ((37, [(4, .int (b3)), (3, .int 3), (2, .int 0), (0, .ref 64), (1, .int (xs 1))], [.int 32, .int (b3)], jzv181) : jS)) rfl ?_
    refine jl_icf (e := jm20) (o := 10) rfl (h2) ?_
    refine jl_s (S' := ((42, [(4, .int (b3)), (3, .int 3), (2, .int 0), (0, .ref 64), (1, .int (xs 1))], [.int (b3)], jzv181) : jS)) rfl ?_
    refine jl_s (S' := ((44, [(4, .int (b3)), (3, .int 3), (2, .int 0), (0, .ref 64), (1, .int (xs 1))], [.int 126, .int (b3)], jzv181) : jS)) rfl ?_
    refine jl_ict (e := jm20) (o := 13) rfl (h3) (t := 57) rfl ?_
    refine jl_s (S' := ((58, [(4, .int (b3)), (3, .int 3), (2, .int 0), (0, .ref 64), (1, .int (xs 1))], [.int 0], jzv181) : jS)) rfl ?_
    refine jl_s (S' := ((60, [(4, .int (b3)), (3, .int 3), (2, .int 0), (0, .ref 64), (1, .int (xs 1))], [.int (b3), .int 0], jzv181) : jS)) rfl ?_
    refine jl_ift (e := jm20) (o := 7) rfl (h.1.2) (t := 67) rfl ?_
    refine jl_s (S' := ((68, [(4, .int (b3)), (3, .int 3), (2, .int 0), (0, .ref 64), (1, .int (xs 1))], [.int 1, .int 0], jzv181) : jS)) rfl ?_
    refine jl_s (S' := ((69, [(4, .int (b3)), (3, .int 3), (2, .int 0), (0, .ref 64), (1, .int (xs 1))], [.int 1], jzv181) : jS)) rfl ?_
    refine jl_s (S' := ((70, [(2, .int 1), (4, .int (b3)), (3, .int 3), (0, .ref 64), (1, .int (xs 1))], [], jzv181) : jS)) rfl ?_
    refine jl_s (S' := ((73, [(3, .int 4), (2, .int 1), (4, .int (b3)), (0, .ref 64), (1, .int (xs 1))], [], jzv181) : jS)) rfl ?_
    refine jl_s (S' := ((4, [(3, .int 4), (2, .int 1), (4, .int (b3)), (0, .ref 64), (1, .int (xs 1))], [], jzv181) : jS)) rfl ?_
    exact hq
set_option maxHeartbeats 4000000 in
set_option maxRecDepth 100000 in
theorem jzq292 (xs : Nat → Int32) (b0 b1 b2 b3 : Int32) {f : Nat} {q : jO × jH} (hq : jLoop (jRun ((4, xs) : jX) 2000 37) ((4, xs) : jX) jm20 f ((100, [(3, .int 0), (2, .int 1), (4, .int (b3)), (0, .ref 64), (1, .int (xs 1))], [], jzv181) : jS) = some q) : jLoop (jRun ((4, xs) : jX) 2000 37) ((4, xs) : jX) jm20 (f + 11) ((4, [(3, .int 4), (2, .int 1), (4, .int (b3)), (0, .ref 64), (1, .int (xs 1))], [], jzv181) : jS) = some q := by
  refine jl_s (S' := ((5, [(3, .int 4), (2, .int 1), (4, .int (b3)), (0, .ref 64), (1, .int (xs 1))], [.int 4], jzv181) : jS)) rfl ?_
  refine jl_s (S' := ((6, [(3, .int 4), (2, .int 1), (4, .int (b3)), (0, .ref 64), (1, .int (xs 1))], [.int 4, .int 4], jzv181) : jS)) rfl ?_
  refine jl_s (S' := ((76, [(3, .int 4), (2, .int 1), (4, .int (b3)), (0, .ref 64), (1, .int (xs 1))], [], jzv181) : jS)) rfl ?_
  refine jl_s (S' := ((77, [(3, .int 4), (2, .int 1), (4, .int (b3)), (0, .ref 64), (1, .int (xs 1))], [.ref 64], jzv181) : jS)) rfl ?_
  refine jl_s (S' := ((80, [(3, .int 4), (2, .int 1), (4, .int (b3)), (0, .ref 64), (1, .int (xs 1))], [.int 0], jzv181) : jS)) rfl ?_
  refine jl_s (S' := ((81, [(3, .int 4), (2, .int 1), (4, .int (b3)), (0, .ref 64), (1, .int (xs 1))], [.int 1, .int 0], jzv181) : jS)) rfl ?_
  refine jl_s (S' := ((82, [(3, .int 4), (2, .int 1), (4, .int (b3)), (0, .ref 64), (1, .int (xs 1))], [.int 1], jzv181) : jS)) rfl ?_
  refine jl_s (S' := ((85, [(3, .int 4), (2, .int 1), (4, .int (b3)), (0, .ref 64), (1, .int (xs 1))], [.int 3000, .int 1], jzv181) : jS)) rfl ?_
  refine jl_s (S' := ((98, [(3, .int 4), (2, .int 1), (4, .int (b3)), (0, .ref 64), (1, .int (xs 1))], [], jzv181) : jS)) rfl ?_
  refine jl_s (S' := ((99, [(3, .int 4), (2, .int 1), (4, .int (b3)), (0, .ref 64), (1, .int (xs 1))], [.int 0], jzv181) : jS)) rfl ?_
  refine jl_s (S' := ((100, [(3, .int 0), (2, .int 1), (4, .int (b3)), (0, .ref 64), (1, .int (xs 1))], [], jzv181) : jS)) rfl ?_
  exact hq
set_option maxHeartbeats 4000000 in
set_option maxRecDepth 100000 in
theorem jzq294 (xs : Nat → Int32) (b0 b1 b2 b3 : Int32) (e : ((Int32.toUInt32 (xs 1) >>> (Int32.toUInt32 0 &&& Int32.toUInt32 31)).toInt32) &&& 255 = b0) (h : jbz b0) {f : Nat} {q : jO × jH} (hq : jLoop (jRun ((4, xs) : jX) 2000 37) ((4, xs) : jX) jm20 f ((100, [(3, .int 1), (4, .int (b0)), (2, .int 1), (0, .ref 64), (1, .int (xs 1))], [], jzv181) : jS) = some q) : jLoop (jRun ((4, xs) : jX) 2000 37) ((4, xs) : jX) jm20 (f + 15) ((100, [(3, .int 0), (2, .int 1), (4, .int (b3)), (0, .ref 64), (1, .int (xs 1))], [], jzv181) : jS) = some q := by
  refine jl_s (S' := ((101, [(3, .int 0), (2, .int 1), (4, .int (b3)), (0, .ref 64), (1, .int (xs 1))], [.int 0], jzv181) : jS)) rfl ?_
  refine jl_s (S' := ((102, [(3, .int 0), (2, .int 1), (4, .int (b3)), (0, .ref 64), (1, .int (xs 1))], [.int 4, .int 0], jzv181) : jS)) rfl ?_
  refine jl_s (S' := ((105, [(3, .int 0), (2, .int 1), (4, .int (b3)), (0, .ref 64), (1, .int (xs 1))], [], jzv181) : jS)) rfl ?_
  refine jl_s (S' := ((106, [(3, .int 0), (2, .int 1), (4, .int (b3)), (0, .ref 64), (1, .int (xs 1))], [.int (xs 1)], jzv181) : jS)) rfl ?_
  refine jl_s (S' := ((108, [(3, .int 0), (2, .int 1), (4, .int (b3)), (0, .ref 64), (1, .int (xs 1))], [.int 8, .int (xs 1)], jzv181) : jS)) rfl ?_
  refine jl_s (S' := ((109, [(3, .int 0), (2, .int 1), (4, .int (b3)), (0, .ref 64), (1, .int (xs 1))], [.int 0, .int 8, .int (xs 1)], jzv181) : jS)) rfl ?_
  refine jl_s (S' := ((110, [(3, .int 0), (2, .int 1), (4, .int (b3)), (0, .ref 64), (1, .int (xs 1))], [.int 0, .int (xs 1)], jzv181) : jS)) rfl ?_
  refine jl_s (S' := ((111, [(3, .int 0), (2, .int 1), (4, .int (b3)), (0, .ref 64), (1, .int (xs 1))], [.int ((Int32.toUInt32 (xs 1) >>> (Int32.toUInt32 0 &&& Int32.toUInt32 31)).toInt32)], jzv181) : jS)) rfl ?_
  refine jl_s (S' := ((114, [(3, .int 0), (2, .int 1), (4, .int (b3)), (0, .ref 64), (1, .int (xs 1))], [.int 255, .int ((Int32.toUInt32 (xs 1) >>> (Int32.toUInt32 0 &&& Int32.toUInt32 31)).toInt32)], jzv181) : jS)) rfl ?_
  refine jl_s (S' := ((115, [(3, .int 0), (2, .int 1), (4, .int (b3)), (0, .ref 64), (1, .int (xs 1))], [.int (((Int32.toUInt32 (xs 1) >>> (Int32.toUInt32 0 &&& Int32.toUInt32 31)).toInt32) &&& 255)], jzv181) : jS)) rfl ?_
  rw [e]
  refine jl_s (S' := ((117, [(4, .int (b0)), (3, .int 0), (2, .int 1), (0, .ref 64), (1, .int (xs 1))], [], jzv181) : jS)) rfl ?_
  refine jl_s (S' := ((119, [(4, .int (b0)), (3, .int 0), (2, .int 1), (0, .ref 64), (1, .int (xs 1))], [.int (b0)], jzv181) : jS)) rfl ?_
  refine jl_ift (e := jm20) (o := 35) rfl (h.1) (t := 154) rfl ?_
  refine jl_s (S' := ((157, [(3, .int 1), (4, .int (b0)), (2, .int 1), (0, .ref 64), (1, .int (xs 1))], [], jzv181) : jS)) rfl ?_
  refine jl_s (S' := ((100, [(3, .int 1), (4, .int (b0)), (2, .int 1), (0, .ref 64), (1, .int (xs 1))], [], jzv181) : jS)) rfl ?_
  exact hq
set_option maxHeartbeats 4000000 in
set_option maxRecDepth 100000 in
theorem jzq296 (xs : Nat → Int32) (b0 b1 b2 b3 : Int32) (e : ((Int32.toUInt32 (xs 1) >>> (Int32.toUInt32 8 &&& Int32.toUInt32 31)).toInt32) &&& 255 = b1) (h : jbz b1) {f : Nat} {q : jO × jH} (hq : jLoop (jRun ((4, xs) : jX) 2000 37) ((4, xs) : jX) jm20 f ((100, [(3, .int 2), (4, .int (b1)), (2, .int 1), (0, .ref 64), (1, .int (xs 1))], [], jzv181) : jS) = some q) : jLoop (jRun ((4, xs) : jX) 2000 37) ((4, xs) : jX) jm20 (f + 15) ((100, [(3, .int 1), (4, .int (b0)), (2, .int 1), (0, .ref 64), (1, .int (xs 1))], [], jzv181) : jS) = some q := by
  refine jl_s (S' := ((101, [(3, .int 1), (4, .int (b0)), (2, .int 1), (0, .ref 64), (1, .int (xs 1))], [.int 1], jzv181) : jS)) rfl ?_
  refine jl_s (S' := ((102, [(3, .int 1), (4, .int (b0)), (2, .int 1), (0, .ref 64), (1, .int (xs 1))], [.int 4, .int 1], jzv181) : jS)) rfl ?_
  refine jl_s (S' := ((105, [(3, .int 1), (4, .int (b0)), (2, .int 1), (0, .ref 64), (1, .int (xs 1))], [], jzv181) : jS)) rfl ?_
  refine jl_s (S' := ((106, [(3, .int 1), (4, .int (b0)), (2, .int 1), (0, .ref 64), (1, .int (xs 1))], [.int (xs 1)], jzv181) : jS)) rfl ?_
  refine jl_s (S' := ((108, [(3, .int 1), (4, .int (b0)), (2, .int 1), (0, .ref 64), (1, .int (xs 1))], [.int 8, .int (xs 1)], jzv181) : jS)) rfl ?_
  refine jl_s (S' := ((109, [(3, .int 1), (4, .int (b0)), (2, .int 1), (0, .ref 64), (1, .int (xs 1))], [.int 1, .int 8, .int (xs 1)], jzv181) : jS)) rfl ?_
  refine jl_s (S' := ((110, [(3, .int 1), (4, .int (b0)), (2, .int 1), (0, .ref 64), (1, .int (xs 1))], [.int 8, .int (xs 1)], jzv181) : jS)) rfl ?_
  refine jl_s (S' := ((111, [(3, .int 1), (4, .int (b0)), (2, .int 1), (0, .ref 64), (1, .int (xs 1))], [.int ((Int32.toUInt32 (xs 1) >>> (Int32.toUInt32 8 &&& Int32.toUInt32 31)).toInt32)], jzv181) : jS)) rfl ?_
  refine jl_s (S' := ((114, [(3, .int 1), (4, .int (b0)), (2, .int 1), (0, .ref 64), (1, .int (xs 1))], [.int 255, .int ((Int32.toUInt32 (xs 1) >>> (Int32.toUInt32 8 &&& Int32.toUInt32 31)).toInt32)], jzv181) : jS)) rfl ?_
  refine jl_s (S' := ((115, [(3, .int 1), (4, .int (b0)), (2, .int 1), (0, .ref 64), (1, .int (xs 1))], [.int (((Int32.toUInt32 (xs 1) >>> (Int32.toUInt32 8 &&& Int32.toUInt32 31)).toInt32) &&& 255)], jzv181) : jS)) rfl ?_
  rw [e]
  refine jl_s (S' := ((117, [(4, .int (b1)), (3, .int 1), (2, .int 1), (0, .ref 64), (1, .int (xs 1))], [], jzv181) : jS)) rfl ?_
  refine jl_s (S' := ((119, [(4, .int (b1)), (3, .int 1), (2, .int 1), (0, .ref 64), (1, .int (xs 1))], [.int (b1)], jzv181) : jS)) rfl ?_
  refine jl_ift (e := jm20) (o := 35) rfl (h.1) (t := 154) rfl ?_
  refine jl_s (S' := ((157, [(3, .int 2), (4, .int (b1)), (2, .int 1), (0, .ref 64), (1, .int (xs 1))], [], jzv181) : jS)) rfl ?_
  refine jl_s (S' := ((100, [(3, .int 2), (4, .int (b1)), (2, .int 1), (0, .ref 64), (1, .int (xs 1))], [], jzv181) : jS)) rfl ?_
  exact hq
set_option maxHeartbeats 4000000 in
set_option maxRecDepth 100000 in
theorem jzq298 (xs : Nat → Int32) (b0 b1 b2 b3 : Int32) (e : ((Int32.toUInt32 (xs 1) >>> (Int32.toUInt32 16 &&& Int32.toUInt32 31)).toInt32) &&& 255 = b2) (h : jbz b2) {f : Nat} {q : jO × jH} (hq : jLoop (jRun ((4, xs) : jX) 2000 37) ((4, xs) : jX) jm20 f ((100, [(3, .int 3), (4, .int (b2)), (2, .int 1), (0, .ref 64), (1, .int (xs 1))], [], jzv181) : jS) = some q) : jLoop (jRun ((4, xs) : jX) 2000 37) ((4, xs) : jX) jm20 (f + 15) ((100, [(3, .int 2), (4, .int (b1)), (2, .int 1), (0, .ref 64), (1, .int (xs 1))], [], jzv181) : jS) = some q := by
  refine jl_s (S' := ((101, [(3, .int 2), (4, .int (b1)), (2, .int 1), (0, .ref 64), (1, .int (xs 1))], [.int 2], jzv181) : jS)) rfl ?_
  refine jl_s (S' := ((102, [(3, .int 2), (4, .int (b1)), (2, .int 1), (0, .ref 64), (1, .int (xs 1))], [.int 4, .int 2], jzv181) : jS)) rfl ?_
  refine jl_s (S' := ((105, [(3, .int 2), (4, .int (b1)), (2, .int 1), (0, .ref 64), (1, .int (xs 1))], [], jzv181) : jS)) rfl ?_
  refine jl_s (S' := ((106, [(3, .int 2), (4, .int (b1)), (2, .int 1), (0, .ref 64), (1, .int (xs 1))], [.int (xs 1)], jzv181) : jS)) rfl ?_
  refine jl_s (S' := ((108, [(3, .int 2), (4, .int (b1)), (2, .int 1), (0, .ref 64), (1, .int (xs 1))], [.int 8, .int (xs 1)], jzv181) : jS)) rfl ?_
  refine jl_s (S' := ((109, [(3, .int 2), (4, .int (b1)), (2, .int 1), (0, .ref 64), (1, .int (xs 1))], [.int 2, .int 8, .int (xs 1)], jzv181) : jS)) rfl ?_
  refine jl_s (S' := ((110, [(3, .int 2), (4, .int (b1)), (2, .int 1), (0, .ref 64), (1, .int (xs 1))], [.int 16, .int (xs 1)], jzv181) : jS)) rfl ?_
  refine jl_s (S' := ((111, [(3, .int 2), (4, .int (b1)), (2, .int 1), (0, .ref 64), (1, .int (xs 1))], [.int ((Int32.toUInt32 (xs 1) >>> (Int32.toUInt32 16 &&& Int32.toUInt32 31)).toInt32)], jzv181) : jS)) rfl ?_
  refine jl_s (S' := ((114, [(3, .int 2), (4, .int (b1)), (2, .int 1), (0, .ref 64), (1, .int (xs 1))], [.int 255, .int ((Int32.toUInt32 (xs 1) >>> (Int32.toUInt32 16 &&& Int32.toUInt32 31)).toInt32)], jzv181) : jS)) rfl ?_
  refine jl_s (S' := ((115, [(3, .int 2), (4, .int (b1)), (2, .int 1), (0, .ref 64), (1, .int (xs 1))], [.int (((Int32.toUInt32 (xs 1) >>> (Int32.toUInt32 16 &&& Int32.toUInt32 31)).toInt32) &&& 255)], jzv181) : jS)) rfl ?_
  rw [e]
  refine jl_s (S' := ((117, [(4, .int (b2)), (3, .int 2), (2, .int 1), (0, .ref 64), (1, .int (xs 1))], [], jzv181) : jS)) rfl ?_
  refine jl_s (S' := ((119, [(4, .int (b2)), (3, .int 2), (2, .int 1), (0, .ref 64), (1, .int (xs 1))], [.int (b2)], jzv181) : jS)) rfl ?_
  refine jl_ift (e := jm20) (o := 35) rfl (h.1) (t := 154) rfl ?_
  refine jl_s (S' := ((157, [(3, .int 3), (4, .int (b2)), (2, .int 1), (0, .ref 64), (1, .int (xs 1))], [], jzv181) : jS)) rfl ?_
  refine jl_s (S' := ((100, [(3, .int 3), (4, .int (b2)), (2, .int 1), (0, .ref 64), (1, .int (xs 1))], [], jzv181) : jS)) rfl ?_
  exact hq
def jzc181 (b0 b1 b2 b3 : Int32) : jC := .inl (0, 3000, .inl (upd (fun _ => 0) 0 (vp_nar .byte ((b3).toInt8.toInt32))))
def jzv261 (b0 b1 b2 b3 : Int32) : jH := [jzc5, (jzc181 b0 b1 b2 b3), jzc117, jzc7, jzc9, jzc9, jzc9, jzc9, jzc9, jzc17, jzc19, jzc19, jzc19, jzc19, jzc19, jzc19, jzc19, jzc19, jzc28, jzc28, jzc28, jzc28, jzc28, jzc28, jzc28, jzc28, jzc28, jzc28, jzc28, jzc28, jzc28, jzc28, jzc43, jzc43, jzc43, jzc43, jzc43, jzc49, jzc49, jzc52, jzc52, jzc52, jzc56, jzc56, jzc59, jzc56, jzc62, jzc28, jzc28, jzc28, jzc28, jzc28, jzc69, jzc71, jzc73, jzc43, jzc76, jzc52, jzc52, jzc80, jzc80, jzc80, jzc84, jzc52, jzc52, jzc52, jzc52, jzc52, jzc52, jzc52, jzc93, jzc93, jzc52, jzc52, jzc98, jzc100, jzc93, jzc52, jzc52, jzc52, jzc52, jzc107, jzc109, jzc111, jzc100, jzc100, jzc100, jzc111, jzc111, jzc118]
def jzc182 : jC := .inr (0, [.ref 65, .int 1, .int 0, .int (-1), .int (-1), .null, .null])
def jzv262 (b0 b1 b2 b3 : Int32) : jH := [jzc182, (jzc181 b0 b1 b2 b3), jzc117, jzc7, jzc9, jzc9, jzc9, jzc9, jzc9, jzc17, jzc19, jzc19, jzc19, jzc19, jzc19, jzc19, jzc19, jzc19, jzc28, jzc28, jzc28, jzc28, jzc28, jzc28, jzc28, jzc28, jzc28, jzc28, jzc28, jzc28, jzc28, jzc28, jzc43, jzc43, jzc43, jzc43, jzc43, jzc49, jzc49, jzc52, jzc52, jzc52, jzc56, jzc56, jzc59, jzc56, jzc62, jzc28, jzc28, jzc28, jzc28, jzc28, jzc69, jzc71, jzc73, jzc43, jzc76, jzc52, jzc52, jzc80, jzc80, jzc80, jzc84, jzc52, jzc52, jzc52, jzc52, jzc52, jzc52, jzc52, jzc93, jzc93, jzc52, jzc52, jzc98, jzc100, jzc93, jzc52, jzc52, jzc52, jzc52, jzc107, jzc109, jzc111, jzc100, jzc100, jzc100, jzc111, jzc111, jzc118]
set_option maxHeartbeats 4000000 in
set_option maxRecDepth 100000 in
theorem jzq300 (xs : Nat → Int32) (b0 b1 b2 b3 : Int32) (e : ((Int32.toUInt32 (xs 1) >>> (Int32.toUInt32 24 &&& Int32.toUInt32 31)).toInt32) &&& 255 = b3) (h : jbn b3) {f : Nat} {q : jO × jH} (hq : jLoop (jRun ((4, xs) : jX) 2000 37) ((4, xs) : jX) jm20 f ((100, [(3, .int 4), (4, .int (b3)), (2, .int 1), (0, .ref 64), (1, .int (xs 1))], [], (jzv262 b0 b1 b2 b3)) : jS) = some q) : jLoop (jRun ((4, xs) : jX) 2000 37) ((4, xs) : jX) jm20 (f + 32) ((100, [(3, .int 3), (4, .int (b2)), (2, .int 1), (0, .ref 64), (1, .int (xs 1))], [], jzv181) : jS) = some q := by
  refine jl_s (S' := ((101, [(3, .int 3), (4, .int (b2)), (2, .int 1), (0, .ref 64), (1, .int (xs 1))], [.int 3], jzv181) : jS)) rfl ?_
  refine jl_s (S' := ((102, [(3, .int 3), (4, .int (b2)), (2, .int 1), (0, .ref 64), (1, .int (xs 1))], [.int 4, .int 3], jzv181) : jS)) rfl ?_
  refine jl_s (S' := ((105, [(3, .int 3), (4, .int (b2)), (2, .int 1), (0, .ref 64), (1, .int (xs 1))], [], jzv181) : jS)) rfl ?_
  refine jl_s (S' := ((106, [(3, .int 3), (4, .int (b2)), (2, .int 1), (0, .ref 64), (1, .int (xs 1))], [.int (xs 1)], jzv181) : jS)) rfl ?_
  refine jl_s (S' := ((108, [(3, .int 3), (4, .int (b2)), (2, .int 1), (0, .ref 64), (1, .int (xs 1))], [.int 8, .int (xs 1)], jzv181) : jS)) rfl ?_
  refine jl_s (S' := ((109, [(3, .int 3), (4, .int (b2)), (2, .int 1), (0, .ref 64), (1, .int (xs 1))], [.int 3, .int 8, .int (xs 1)], jzv181) : jS)) rfl ?_
  refine jl_s (S' := ((110, [(3, .int 3), (4, .int (b2)), (2, .int 1), (0, .ref 64), (1, .int (xs 1))], [.int 24, .int (xs 1)], jzv181) : jS)) rfl ?_
  refine jl_s (S' := ((111, [(3, .int 3), (4, .int (b2)), (2, .int 1), (0, .ref 64), (1, .int (xs 1))], [.int ((Int32.toUInt32 (xs 1) >>> (Int32.toUInt32 24 &&& Int32.toUInt32 31)).toInt32)], jzv181) : jS)) rfl ?_
  refine jl_s (S' := ((114, [(3, .int 3), (4, .int (b2)), (2, .int 1), (0, .ref 64), (1, .int (xs 1))], [.int 255, .int ((Int32.toUInt32 (xs 1) >>> (Int32.toUInt32 24 &&& Int32.toUInt32 31)).toInt32)], jzv181) : jS)) rfl ?_
  refine jl_s (S' := ((115, [(3, .int 3), (4, .int (b2)), (2, .int 1), (0, .ref 64), (1, .int (xs 1))], [.int (((Int32.toUInt32 (xs 1) >>> (Int32.toUInt32 24 &&& Int32.toUInt32 31)).toInt32) &&& 255)], jzv181) : jS)) rfl ?_
  rw [e]
  refine jl_s (S' := ((117, [(4, .int (b3)), (3, .int 3), (2, .int 1), (0, .ref 64), (1, .int (xs 1))], [], jzv181) : jS)) rfl ?_
  refine jl_s (S' := ((119, [(4, .int (b3)), (3, .int 3), (2, .int 1), (0, .ref 64), (1, .int (xs 1))], [.int (b3)], jzv181) : jS)) rfl ?_
  refine jl_iff (e := jm20) (o := 35) rfl (h.1) ?_
  refine jl_s (S' := ((123, [(4, .int (b3)), (3, .int 3), (2, .int 1), (0, .ref 64), (1, .int (xs 1))], [.ref 64], jzv181) : jS)) rfl ?_
  refine jl_s (S' := ((126, [(4, .int (b3)), (3, .int 3), (2, .int 1), (0, .ref 64), (1, .int (xs 1))], [.int 0], jzv181) : jS)) rfl ?_
  refine jl_s (S' := ((129, [(4, .int (b3)), (3, .int 3), (2, .int 1), (0, .ref 64), (1, .int (xs 1))], [.int 3000, .int 0], jzv181) : jS)) rfl ?_
  refine jl_s (S' := ((132, [(4, .int (b3)), (3, .int 3), (2, .int 1), (0, .ref 64), (1, .int (xs 1))], [], jzv181) : jS)) rfl ?_
  refine jl_s (S' := ((133, [(4, .int (b3)), (3, .int 3), (2, .int 1), (0, .ref 64), (1, .int (xs 1))], [.ref 64], jzv181) : jS)) rfl ?_
  refine jl_s (S' := ((136, [(4, .int (b3)), (3, .int 3), (2, .int 1), (0, .ref 64), (1, .int (xs 1))], [.ref 65], jzv181) : jS)) rfl ?_
  refine jl_s (S' := ((137, [(4, .int (b3)), (3, .int 3), (2, .int 1), (0, .ref 64), (1, .int (xs 1))], [.ref 64, .ref 65], jzv181) : jS)) rfl ?_
  refine jl_s (S' := ((140, [(4, .int (b3)), (3, .int 3), (2, .int 1), (0, .ref 64), (1, .int (xs 1))], [.int 0, .ref 65], jzv181) : jS)) rfl ?_
  refine jl_s (S' := ((142, [(4, .int (b3)), (3, .int 3), (2, .int 1), (0, .ref 64), (1, .int (xs 1))], [.int (b3), .int 0, .ref 65], jzv181) : jS)) rfl ?_
  refine jl_s (S' := ((143, [(4, .int (b3)), (3, .int 3), (2, .int 1), (0, .ref 64), (1, .int (xs 1))], [.int ((b3).toInt8.toInt32), .int 0, .ref 65], jzv181) : jS)) rfl ?_
  refine jl_s (S' := ((144, [(4, .int (b3)), (3, .int 3), (2, .int 1), (0, .ref 64), (1, .int (xs 1))], [], (jzv261 b0 b1 b2 b3)) : jS)) rfl ?_
  refine jl_s (S' := ((145, [(4, .int (b3)), (3, .int 3), (2, .int 1), (0, .ref 64), (1, .int (xs 1))], [.ref 64], (jzv261 b0 b1 b2 b3)) : jS)) rfl ?_
  refine jl_s (S' := ((146, [(4, .int (b3)), (3, .int 3), (2, .int 1), (0, .ref 64), (1, .int (xs 1))], [.ref 64, .ref 64], (jzv261 b0 b1 b2 b3)) : jS)) rfl ?_
  refine jl_s (S' := ((149, [(4, .int (b3)), (3, .int 3), (2, .int 1), (0, .ref 64), (1, .int (xs 1))], [.int 0, .ref 64], (jzv261 b0 b1 b2 b3)) : jS)) rfl ?_
  refine jl_s (S' := ((150, [(4, .int (b3)), (3, .int 3), (2, .int 1), (0, .ref 64), (1, .int (xs 1))], [.int 1, .int 0, .ref 64], (jzv261 b0 b1 b2 b3)) : jS)) rfl ?_
  refine jl_s (S' := ((151, [(4, .int (b3)), (3, .int 3), (2, .int 1), (0, .ref 64), (1, .int (xs 1))], [.int 1, .ref 64], (jzv261 b0 b1 b2 b3)) : jS)) rfl ?_
  refine jl_s (S' := ((154, [(4, .int (b3)), (3, .int 3), (2, .int 1), (0, .ref 64), (1, .int (xs 1))], [], (jzv262 b0 b1 b2 b3)) : jS)) rfl ?_
  refine jl_s (S' := ((157, [(3, .int 4), (4, .int (b3)), (2, .int 1), (0, .ref 64), (1, .int (xs 1))], [], (jzv262 b0 b1 b2 b3)) : jS)) rfl ?_
  refine jl_s (S' := ((100, [(3, .int 4), (4, .int (b3)), (2, .int 1), (0, .ref 64), (1, .int (xs 1))], [], (jzv262 b0 b1 b2 b3)) : jS)) rfl ?_
  exact hq
set_option maxHeartbeats 4000000 in
set_option maxRecDepth 100000 in
theorem jzq302 (xs : Nat → Int32) (b0 b1 b2 b3 : Int32) {f : Nat} : jLoop (jRun ((4, xs) : jX) 2000 37) ((4, xs) : jX) jm20 (f + 6) ((100, [(3, .int 4), (4, .int (b3)), (2, .int 1), (0, .ref 64), (1, .int (xs 1))], [], (jzv262 b0 b1 b2 b3)) : jS) = some (.inl (some (.int 1)), (jzv262 b0 b1 b2 b3)) := by
  refine jl_s (S' := ((101, [(3, .int 4), (4, .int (b3)), (2, .int 1), (0, .ref 64), (1, .int (xs 1))], [.int 4], (jzv262 b0 b1 b2 b3)) : jS)) rfl ?_
  refine jl_s (S' := ((102, [(3, .int 4), (4, .int (b3)), (2, .int 1), (0, .ref 64), (1, .int (xs 1))], [.int 4, .int 4], (jzv262 b0 b1 b2 b3)) : jS)) rfl ?_
  refine jl_s (S' := ((160, [(3, .int 4), (4, .int (b3)), (2, .int 1), (0, .ref 64), (1, .int (xs 1))], [], (jzv262 b0 b1 b2 b3)) : jS)) rfl ?_
  refine jl_s (S' := ((161, [(3, .int 4), (4, .int (b3)), (2, .int 1), (0, .ref 64), (1, .int (xs 1))], [.ref 64], (jzv262 b0 b1 b2 b3)) : jS)) rfl ?_
  refine jl_s (S' := ((164, [(3, .int 4), (4, .int (b3)), (2, .int 1), (0, .ref 64), (1, .int (xs 1))], [.int 1], (jzv262 b0 b1 b2 b3)) : jS)) rfl ?_
  exact jl_r (r := (.inl (some (.int 1)), (jzv262 b0 b1 b2 b3))) rfl
set_option maxHeartbeats 4000000 in
set_option maxRecDepth 100000 in
theorem jzcp_ZZZV (xs : Nat → Int32) (b0 b1 b2 b3 : Int32) (e0 : ((Int32.toUInt32 (xs 1) >>> (Int32.toUInt32 0 &&& Int32.toUInt32 31)).toInt32) &&& 255 = b0) (e1 : ((Int32.toUInt32 (xs 1) >>> (Int32.toUInt32 8 &&& Int32.toUInt32 31)).toInt32) &&& 255 = b1) (e2 : ((Int32.toUInt32 (xs 1) >>> (Int32.toUInt32 16 &&& Int32.toUInt32 31)).toInt32) &&& 255 = b2) (e3 : ((Int32.toUInt32 (xs 1) >>> (Int32.toUInt32 24 &&& Int32.toUInt32 31)).toInt32) &&& 255 = b3) (h0 : jbz b0) (h1 : jbz b1) (h2 : jbz b2) (h3 : jbv b3) : jRun ((4, xs) : jX) 2000 38 20 [.ref 64, .int (xs 1)] jzv181 = some (.inl (some (.int 1)), (jzv262 b0 b1 b2 b3)) := by
  refine jr_run (e := jm20) rfl (Nat.le_of_ble_eq_true rfl) ?_
  refine jzq267 xs b0 b1 b2 b3 ?_
  refine jzq269 xs b0 b1 b2 b3 e0 h0 ?_
  refine jzq271 xs b0 b1 b2 b3 e1 h1 ?_
  refine jzq273 xs b0 b1 b2 b3 e2 h2 ?_
  refine jzq290 xs b0 b1 b2 b3 e3 h3 ?_
  refine jzq292 xs b0 b1 b2 b3 ?_
  refine jzq294 xs b0 b1 b2 b3 e0 h0 ?_
  refine jzq296 xs b0 b1 b2 b3 e1 h1 ?_
  refine jzq298 xs b0 b1 b2 b3 e2 h2 ?_
  refine jzq300 xs b0 b1 b2 b3 e3 h3.1 ?_
  exact jzq302 xs b0 b1 b2 b3
set_option maxHeartbeats 4000000 in
set_option maxRecDepth 100000 in
theorem jzq305 (xs : Nat → Int32) (b0 b1 b2 b3 : Int32) (e : ((Int32.toUInt32 (xs 1) >>> (Int32.toUInt32 16 &&& Int32.toUInt32 31)).toInt32) &&& 255 = b2) (h : jbv b2) {f : Nat} {q : jO × jH} (hq : jLoop (jRun ((4, xs) : jX) 2000 37) ((4, xs) : jX) jm20 f ((4, [(3, .int 3), (2, .int 1), (4, .int (b2)), (0, .ref 64), (1, .int (xs 1))], [], jzv181) : jS) = some q) : jLoop (jRun ((4, xs) : jX) 2000 37) ((4, xs) : jX) jm20 (f + 30) ((4, [(3, .int 2), (2, .int 0), (4, .int (b1)), (0, .ref 64), (1, .int (xs 1))], [], jzv181) : jS) = some q := by
  rcases h.2 with h1 | ⟨h1, h2, h3, h4⟩
  · refine jl_s (S' := ((5, [(3, .int 2), (2, .int 0), (4, .int (b1)), (0, .ref 64), (1, .int (xs 1))], [.int 2], jzv181) : jS)) rfl ?_
    refine jl_s (S' := ((6, [(3, .int 2), (2, .int 0), (4, .int (b1)), (0, .ref 64), (1, .int (xs 1))], [.int 4, .int 2], jzv181) : jS)) rfl ?_
    refine jl_s (S' := ((9, [(3, .int 2), (2, .int 0), (4, .int (b1)), (0, .ref 64), (1, .int (xs 1))], [], jzv181) : jS)) rfl ?_
    refine jl_s (S' := ((10, [(3, .int 2), (2, .int 0), (4, .int (b1)), (0, .ref 64), (1, .int (xs 1))], [.int (xs 1)], jzv181) : jS)) rfl ?_
    refine jl_s (S' := ((12, [(3, .int 2), (2, .int 0), (4, .int (b1)), (0, .ref 64), (1, .int (xs 1))], [.int 8, .int (xs 1)], jzv181) : jS)) rfl ?_
    refine jl_s (S' := ((13, [(3, .int 2), (2, .int 0), (4, .int (b1)), (0, .ref 64), (1, .int (xs 1))], [.int 2, .int 8, .int (xs 1)], jzv181) : jS)) rfl ?_
    refine jl_s (S' := ((14, [(3, .int 2), (2, .int 0), (4, .int (b1)), (0, .ref 64), (1, .int (xs 1))], [.int 16, .int (xs 1)], jzv181) : jS)) rfl ?_
    refine jl_s (S' := ((15, [(3, .int 2), (2, .int 0), (4, .int (b1)), (0, .ref 64), (1, .int (xs 1))], [.int ((Int32.toUInt32 (xs 1) >>> (Int32.toUInt32 16 &&& Int32.toUInt32 31)).toInt32)], jzv181) : jS)) rfl ?_
    refine jl_s (S' := ((18, [(3, .int 2), (2, .int 0), (4, .int (b1)), (0, .ref 64), (1, .int (xs 1))], [.int 255, .int ((Int32.toUInt32 (xs 1) >>> (Int32.toUInt32 16 &&& Int32.toUInt32 31)).toInt32)], jzv181) : jS)) rfl ?_
    refine jl_s (S' := ((19, [(3, .int 2), (2, .int 0), (4, .int (b1)), (0, .ref 64), (1, .int (xs 1))], [.int (((Int32.toUInt32 (xs 1) >>> (Int32.toUInt32 16 &&& Int32.toUInt32 31)).toInt32) &&& 255)], jzv181) : jS)) rfl ?_
    rw [e]
    refine jl_s (S' := ((21, [(4, .int (b2)), (3, .int 2), (2, .int 0), (0, .ref 64), (1, .int (xs 1))], [], jzv181) : jS)) rfl ?_
    refine jl_s (S' := ((23, [(4, .int (b2)), (3, .int 2), (2, .int 0), (0, .ref 64), (1, .int (xs 1))], [.int (b2)], jzv181) : jS)) rfl ?_
    refine jl_iff (e := jm20) (o := 34) rfl (h.1.1) ?_
    refine jl_s (S' := ((28, [(4, .int (b2)), (3, .int 2), (2, .int 0), (0, .ref 64), (1, .int (xs 1))], [.int (b2)], jzv181) : jS)) rfl ?_
    refine jl_s (S' := ((30, [(4, .int (b2)), (3, .int 2), (2, .int 0), (0, .ref 64), (1, .int (xs 1))], [.int 10, .int (b2)], jzv181) : jS)) rfl ?_
    refine jl_ict (e := jm20) (o := 27) rfl (h1) (t := 57) rfl ?_
    refine jl_s (S' := ((58, [(4, .int (b2)), (3, .int 2), (2, .int 0), (0, .ref 64), (1, .int (xs 1))], [.int 0], jzv181) : jS)) rfl ?_
    refine jl_s (S' := ((60, [(4, .int (b2)), (3, .int 2), (2, .int 0), (0, .ref 64), (1, .int (xs 1))], [.int (b2), .int 0], jzv181) : jS)) rfl ?_
    refine jl_ift (e := jm20) (o := 7) rfl (h.1.2) (t := 67) rfl ?_
    refine jl_s (S' := ((68, [(4, .int (b2)), (3, .int 2), (2, .int 0), (0, .ref 64), (1, .int (xs 1))], [.int 1, .int 0], jzv181) : jS)) rfl ?_
    refine jl_s (S' := ((69, [(4, .int (b2)), (3, .int 2), (2, .int 0), (0, .ref 64), (1, .int (xs 1))], [.int 1], jzv181) : jS)) rfl ?_
    refine jl_s (S' := ((70, [(2, .int 1), (4, .int (b2)), (3, .int 2), (0, .ref 64), (1, .int (xs 1))], [], jzv181) : jS)) rfl ?_
    refine jl_s (S' := ((73, [(3, .int 3), (2, .int 1), (4, .int (b2)), (0, .ref 64), (1, .int (xs 1))], [], jzv181) : jS)) rfl ?_
    refine jl_s (S' := ((4, [(3, .int 3), (2, .int 1), (4, .int (b2)), (0, .ref 64), (1, .int (xs 1))], [], jzv181) : jS)) rfl ?_
    exact jl_more hq
  · refine jl_s (S' := ((5, [(3, .int 2), (2, .int 0), (4, .int (b1)), (0, .ref 64), (1, .int (xs 1))], [.int 2], jzv181) : jS)) rfl ?_
    refine jl_s (S' := ((6, [(3, .int 2), (2, .int 0), (4, .int (b1)), (0, .ref 64), (1, .int (xs 1))], [.int 4, .int 2], jzv181) : jS)) rfl ?_
    refine jl_s (S' := ((9, [(3, .int 2), (2, .int 0), (4, .int (b1)), (0, .ref 64), (1, .int (xs 1))], [], jzv181) : jS)) rfl ?_
    refine jl_s (S' := ((10, [(3, .int 2), (2, .int 0), (4, .int (b1)), (0, .ref 64), (1, .int (xs 1))], [.int (xs 1)], jzv181) : jS)) rfl ?_
    refine jl_s (S' := ((12, [(3, .int 2), (2, .int 0), (4, .int (b1)), (0, .ref 64), (1, .int (xs 1))], [.int 8, .int (xs 1)], jzv181) : jS)) rfl ?_
    refine jl_s (S' := ((13, [(3, .int 2), (2, .int 0), (4, .int (b1)), (0, .ref 64), (1, .int (xs 1))], [.int 2, .int 8, .int (xs 1)], jzv181) : jS)) rfl ?_
    refine jl_s (S' := ((14, [(3, .int 2), (2, .int 0), (4, .int (b1)), (0, .ref 64), (1, .int (xs 1))], [.int 16, .int (xs 1)], jzv181) : jS)) rfl ?_
    refine jl_s (S' := ((15, [(3, .int 2), (2, .int 0), (4, .int (b1)), (0, .ref 64), (1, .int (xs 1))], [.int ((Int32.toUInt32 (xs 1) >>> (Int32.toUInt32 16 &&& Int32.toUInt32 31)).toInt32)], jzv181) : jS)) rfl ?_
    refine jl_s (S' := ((18, [(3, .int 2), (2, .int 0), (4, .int (b1)), (0, .ref 64), (1, .int (xs 1))], [.int 255, .int ((Int32.toUInt32 (xs 1) >>> (Int32.toUInt32 16 &&& Int32.toUInt32 31)).toInt32)], jzv181) : jS)) rfl ?_
    refine jl_s (S' := ((19, [(3, .int 2), (2, .int 0), (4, .int (b1)), (0, .ref 64), (1, .int (xs 1))], [.int (((Int32.toUInt32 (xs 1) >>> (Int32.toUInt32 16 &&& Int32.toUInt32 31)).toInt32) &&& 255)], jzv181) : jS)) rfl ?_
    rw [e]
    refine jl_s (S' := ((21, [(4, .int (b2)), (3, .int 2), (2, .int 0), (0, .ref 64), (1, .int (xs 1))], [], jzv181) : jS)) rfl ?_
    refine jl_s (S' := ((23, [(4, .int (b2)), (3, .int 2), (2, .int 0), (0, .ref 64), (1, .int (xs 1))], [.int (b2)], jzv181) : jS)) rfl ?_
    refine jl_iff (e := jm20) (o := 34) rfl (h.1.1) ?_
    refine jl_s (S' := ((28, [(4, .int (b2)), (3, .int 2), (2, .int 0), (0, .ref 64), (1, .int (xs 1))], [.int (b2)], jzv181) : jS)) rfl ?_
    refine jl_s (S' := ((30, [(4, .int (b2)), (3, .int 2), (2, .int 0), (0, .ref 64), (1, .int (xs 1))], [.int 10, .int (b2)], jzv181) : jS)) rfl ?_
    refine jl_icf (e := jm20) (o := 27) rfl (h1) ?_
    refine jl_s (S' := ((35, [(4, .int (b2)), (3, .int 2), (2, .int 0), (0, .ref 64), (1, .int (xs 1))], [.int (b2)], jzv181) : jS)) rfl ?_
    refine jl_s (S' := ((37, [(4, .int (b2)), (3, .int 2), (2, .int 0), (0, .ref 64), (1, .int (xs 1))], [.int 32, .int (b2)], jzv181) : jS)) rfl ?_
    refine jl_icf (e := jm20) (o := 10) rfl (h2) ?_
    refine jl_s (S' := ((42, [(4, .int (b2)), (3, .int 2), (2, .int 0), (0, .ref 64), (1, .int (xs 1))], [.int (b2)], jzv181) : jS)) rfl ?_
    refine jl_s (S' := ((44, [(4, .int (b2)), (3, .int 2), (2, .int 0), (0, .ref 64), (1, .int (xs 1))], [.int 126, .int (b2)], jzv181) : jS)) rfl ?_
    refine jl_ict (e := jm20) (o := 13) rfl (h3) (t := 57) rfl ?_
    refine jl_s (S' := ((58, [(4, .int (b2)), (3, .int 2), (2, .int 0), (0, .ref 64), (1, .int (xs 1))], [.int 0], jzv181) : jS)) rfl ?_
    refine jl_s (S' := ((60, [(4, .int (b2)), (3, .int 2), (2, .int 0), (0, .ref 64), (1, .int (xs 1))], [.int (b2), .int 0], jzv181) : jS)) rfl ?_
    refine jl_ift (e := jm20) (o := 7) rfl (h.1.2) (t := 67) rfl ?_
    refine jl_s (S' := ((68, [(4, .int (b2)), (3, .int 2), (2, .int 0), (0, .ref 64), (1, .int (xs 1))], [.int 1, .int 0], jzv181) : jS)) rfl ?_
    refine jl_s (S' := ((69, [(4, .int (b2)), (3, .int 2), (2, .int 0), (0, .ref 64), (1, .int (xs 1))], [.int 1], jzv181) : jS)) rfl ?_
    refine jl_s (S' := ((70, [(2, .int 1), (4, .int (b2)), (3, .int 2), (0, .ref 64), (1, .int (xs 1))], [], jzv181) : jS)) rfl ?_
    refine jl_s (S' := ((73, [(3, .int 3), (2, .int 1), (4, .int (b2)), (0, .ref 64), (1, .int (xs 1))], [], jzv181) : jS)) rfl ?_
    refine jl_s (S' := ((4, [(3, .int 3), (2, .int 1), (4, .int (b2)), (0, .ref 64), (1, .int (xs 1))], [], jzv181) : jS)) rfl ?_
    exact hq
set_option maxHeartbeats 4000000 in
set_option maxRecDepth 100000 in
theorem jzq307 (xs : Nat → Int32) (b0 b1 b2 b3 : Int32) (e : ((Int32.toUInt32 (xs 1) >>> (Int32.toUInt32 24 &&& Int32.toUInt32 31)).toInt32) &&& 255 = b3) (h : jbz b3) {f : Nat} {q : jO × jH} (hq : jLoop (jRun ((4, xs) : jX) 2000 37) ((4, xs) : jX) jm20 f ((4, [(3, .int 4), (2, .int 1), (4, .int (b3)), (0, .ref 64), (1, .int (xs 1))], [], jzv181) : jS) = some q) : jLoop (jRun ((4, xs) : jX) 2000 37) ((4, xs) : jX) jm20 (f + 22) ((4, [(3, .int 3), (2, .int 1), (4, .int (b2)), (0, .ref 64), (1, .int (xs 1))], [], jzv181) : jS) = some q := by
  refine jl_s (S' := ((5, [(3, .int 3), (2, .int 1), (4, .int (b2)), (0, .ref 64), (1, .int (xs 1))], [.int 3], jzv181) : jS)) rfl ?_
  refine jl_s (S' := ((6, [(3, .int 3), (2, .int 1), (4, .int (b2)), (0, .ref 64), (1, .int (xs 1))], [.int 4, .int 3], jzv181) : jS)) rfl ?_
  refine jl_s (S' := ((9, [(3, .int 3), (2, .int 1), (4, .int (b2)), (0, .ref 64), (1, .int (xs 1))], [], jzv181) : jS)) rfl ?_
  refine jl_s (S' := ((10, [(3, .int 3), (2, .int 1), (4, .int (b2)), (0, .ref 64), (1, .int (xs 1))], [.int (xs 1)], jzv181) : jS)) rfl ?_
  refine jl_s (S' := ((12, [(3, .int 3), (2, .int 1), (4, .int (b2)), (0, .ref 64), (1, .int (xs 1))], [.int 8, .int (xs 1)], jzv181) : jS)) rfl ?_
  refine jl_s (S' := ((13, [(3, .int 3), (2, .int 1), (4, .int (b2)), (0, .ref 64), (1, .int (xs 1))], [.int 3, .int 8, .int (xs 1)], jzv181) : jS)) rfl ?_
  refine jl_s (S' := ((14, [(3, .int 3), (2, .int 1), (4, .int (b2)), (0, .ref 64), (1, .int (xs 1))], [.int 24, .int (xs 1)], jzv181) : jS)) rfl ?_
  refine jl_s (S' := ((15, [(3, .int 3), (2, .int 1), (4, .int (b2)), (0, .ref 64), (1, .int (xs 1))], [.int ((Int32.toUInt32 (xs 1) >>> (Int32.toUInt32 24 &&& Int32.toUInt32 31)).toInt32)], jzv181) : jS)) rfl ?_
  refine jl_s (S' := ((18, [(3, .int 3), (2, .int 1), (4, .int (b2)), (0, .ref 64), (1, .int (xs 1))], [.int 255, .int ((Int32.toUInt32 (xs 1) >>> (Int32.toUInt32 24 &&& Int32.toUInt32 31)).toInt32)], jzv181) : jS)) rfl ?_
  refine jl_s (S' := ((19, [(3, .int 3), (2, .int 1), (4, .int (b2)), (0, .ref 64), (1, .int (xs 1))], [.int (((Int32.toUInt32 (xs 1) >>> (Int32.toUInt32 24 &&& Int32.toUInt32 31)).toInt32) &&& 255)], jzv181) : jS)) rfl ?_
  rw [e]
  refine jl_s (S' := ((21, [(4, .int (b3)), (3, .int 3), (2, .int 1), (0, .ref 64), (1, .int (xs 1))], [], jzv181) : jS)) rfl ?_
  refine jl_s (S' := ((23, [(4, .int (b3)), (3, .int 3), (2, .int 1), (0, .ref 64), (1, .int (xs 1))], [.int (b3)], jzv181) : jS)) rfl ?_
  refine jl_ift (e := jm20) (o := 34) rfl (h.1) (t := 57) rfl ?_
  refine jl_s (S' := ((58, [(4, .int (b3)), (3, .int 3), (2, .int 1), (0, .ref 64), (1, .int (xs 1))], [.int 1], jzv181) : jS)) rfl ?_
  refine jl_s (S' := ((60, [(4, .int (b3)), (3, .int 3), (2, .int 1), (0, .ref 64), (1, .int (xs 1))], [.int (b3), .int 1], jzv181) : jS)) rfl ?_
  refine jl_iff (e := jm20) (o := 7) rfl (h.2) ?_
  refine jl_s (S' := ((64, [(4, .int (b3)), (3, .int 3), (2, .int 1), (0, .ref 64), (1, .int (xs 1))], [.int 0, .int 1], jzv181) : jS)) rfl ?_
  refine jl_s (S' := ((68, [(4, .int (b3)), (3, .int 3), (2, .int 1), (0, .ref 64), (1, .int (xs 1))], [.int 0, .int 1], jzv181) : jS)) rfl ?_
  refine jl_s (S' := ((69, [(4, .int (b3)), (3, .int 3), (2, .int 1), (0, .ref 64), (1, .int (xs 1))], [.int 1], jzv181) : jS)) rfl ?_
  refine jl_s (S' := ((70, [(2, .int 1), (4, .int (b3)), (3, .int 3), (0, .ref 64), (1, .int (xs 1))], [], jzv181) : jS)) rfl ?_
  refine jl_s (S' := ((73, [(3, .int 4), (2, .int 1), (4, .int (b3)), (0, .ref 64), (1, .int (xs 1))], [], jzv181) : jS)) rfl ?_
  refine jl_s (S' := ((4, [(3, .int 4), (2, .int 1), (4, .int (b3)), (0, .ref 64), (1, .int (xs 1))], [], jzv181) : jS)) rfl ?_
  exact hq
def jzc183 (b0 b1 b2 b3 : Int32) : jC := .inl (0, 3000, .inl (upd (fun _ => 0) 0 (vp_nar .byte ((b2).toInt8.toInt32))))
def jzv263 (b0 b1 b2 b3 : Int32) : jH := [jzc5, (jzc183 b0 b1 b2 b3), jzc117, jzc7, jzc9, jzc9, jzc9, jzc9, jzc9, jzc17, jzc19, jzc19, jzc19, jzc19, jzc19, jzc19, jzc19, jzc19, jzc28, jzc28, jzc28, jzc28, jzc28, jzc28, jzc28, jzc28, jzc28, jzc28, jzc28, jzc28, jzc28, jzc28, jzc43, jzc43, jzc43, jzc43, jzc43, jzc49, jzc49, jzc52, jzc52, jzc52, jzc56, jzc56, jzc59, jzc56, jzc62, jzc28, jzc28, jzc28, jzc28, jzc28, jzc69, jzc71, jzc73, jzc43, jzc76, jzc52, jzc52, jzc80, jzc80, jzc80, jzc84, jzc52, jzc52, jzc52, jzc52, jzc52, jzc52, jzc52, jzc93, jzc93, jzc52, jzc52, jzc98, jzc100, jzc93, jzc52, jzc52, jzc52, jzc52, jzc107, jzc109, jzc111, jzc100, jzc100, jzc100, jzc111, jzc111, jzc118]
def jzv264 (b0 b1 b2 b3 : Int32) : jH := [jzc182, (jzc183 b0 b1 b2 b3), jzc117, jzc7, jzc9, jzc9, jzc9, jzc9, jzc9, jzc17, jzc19, jzc19, jzc19, jzc19, jzc19, jzc19, jzc19, jzc19, jzc28, jzc28, jzc28, jzc28, jzc28, jzc28, jzc28, jzc28, jzc28, jzc28, jzc28, jzc28, jzc28, jzc28, jzc43, jzc43, jzc43, jzc43, jzc43, jzc49, jzc49, jzc52, jzc52, jzc52, jzc56, jzc56, jzc59, jzc56, jzc62, jzc28, jzc28, jzc28, jzc28, jzc28, jzc69, jzc71, jzc73, jzc43, jzc76, jzc52, jzc52, jzc80, jzc80, jzc80, jzc84, jzc52, jzc52, jzc52, jzc52, jzc52, jzc52, jzc52, jzc93, jzc93, jzc52, jzc52, jzc98, jzc100, jzc93, jzc52, jzc52, jzc52, jzc52, jzc107, jzc109, jzc111, jzc100, jzc100, jzc100, jzc111, jzc111, jzc118]
set_option maxHeartbeats 4000000 in
set_option maxRecDepth 100000 in
theorem jzq309 (xs : Nat → Int32) (b0 b1 b2 b3 : Int32) (e : ((Int32.toUInt32 (xs 1) >>> (Int32.toUInt32 16 &&& Int32.toUInt32 31)).toInt32) &&& 255 = b2) (h : jbn b2) {f : Nat} {q : jO × jH} (hq : jLoop (jRun ((4, xs) : jX) 2000 37) ((4, xs) : jX) jm20 f ((100, [(3, .int 3), (4, .int (b2)), (2, .int 1), (0, .ref 64), (1, .int (xs 1))], [], (jzv264 b0 b1 b2 b3)) : jS) = some q) : jLoop (jRun ((4, xs) : jX) 2000 37) ((4, xs) : jX) jm20 (f + 32) ((100, [(3, .int 2), (4, .int (b1)), (2, .int 1), (0, .ref 64), (1, .int (xs 1))], [], jzv181) : jS) = some q := by
  refine jl_s (S' := ((101, [(3, .int 2), (4, .int (b1)), (2, .int 1), (0, .ref 64), (1, .int (xs 1))], [.int 2], jzv181) : jS)) rfl ?_
  refine jl_s (S' := ((102, [(3, .int 2), (4, .int (b1)), (2, .int 1), (0, .ref 64), (1, .int (xs 1))], [.int 4, .int 2], jzv181) : jS)) rfl ?_
  refine jl_s (S' := ((105, [(3, .int 2), (4, .int (b1)), (2, .int 1), (0, .ref 64), (1, .int (xs 1))], [], jzv181) : jS)) rfl ?_
  refine jl_s (S' := ((106, [(3, .int 2), (4, .int (b1)), (2, .int 1), (0, .ref 64), (1, .int (xs 1))], [.int (xs 1)], jzv181) : jS)) rfl ?_
  refine jl_s (S' := ((108, [(3, .int 2), (4, .int (b1)), (2, .int 1), (0, .ref 64), (1, .int (xs 1))], [.int 8, .int (xs 1)], jzv181) : jS)) rfl ?_
  refine jl_s (S' := ((109, [(3, .int 2), (4, .int (b1)), (2, .int 1), (0, .ref 64), (1, .int (xs 1))], [.int 2, .int 8, .int (xs 1)], jzv181) : jS)) rfl ?_
  refine jl_s (S' := ((110, [(3, .int 2), (4, .int (b1)), (2, .int 1), (0, .ref 64), (1, .int (xs 1))], [.int 16, .int (xs 1)], jzv181) : jS)) rfl ?_
  refine jl_s (S' := ((111, [(3, .int 2), (4, .int (b1)), (2, .int 1), (0, .ref 64), (1, .int (xs 1))], [.int ((Int32.toUInt32 (xs 1) >>> (Int32.toUInt32 16 &&& Int32.toUInt32 31)).toInt32)], jzv181) : jS)) rfl ?_
  refine jl_s (S' := ((114, [(3, .int 2), (4, .int (b1)), (2, .int 1), (0, .ref 64), (1, .int (xs 1))], [.int 255, .int ((Int32.toUInt32 (xs 1) >>> (Int32.toUInt32 16 &&& Int32.toUInt32 31)).toInt32)], jzv181) : jS)) rfl ?_
  refine jl_s (S' := ((115, [(3, .int 2), (4, .int (b1)), (2, .int 1), (0, .ref 64), (1, .int (xs 1))], [.int (((Int32.toUInt32 (xs 1) >>> (Int32.toUInt32 16 &&& Int32.toUInt32 31)).toInt32) &&& 255)], jzv181) : jS)) rfl ?_
  rw [e]
  refine jl_s (S' := ((117, [(4, .int (b2)), (3, .int 2), (2, .int 1), (0, .ref 64), (1, .int (xs 1))], [], jzv181) : jS)) rfl ?_
  refine jl_s (S' := ((119, [(4, .int (b2)), (3, .int 2), (2, .int 1), (0, .ref 64), (1, .int (xs 1))], [.int (b2)], jzv181) : jS)) rfl ?_
  refine jl_iff (e := jm20) (o := 35) rfl (h.1) ?_
  refine jl_s (S' := ((123, [(4, .int (b2)), (3, .int 2), (2, .int 1), (0, .ref 64), (1, .int (xs 1))], [.ref 64], jzv181) : jS)) rfl ?_
  refine jl_s (S' := ((126, [(4, .int (b2)), (3, .int 2), (2, .int 1), (0, .ref 64), (1, .int (xs 1))], [.int 0], jzv181) : jS)) rfl ?_
  refine jl_s (S' := ((129, [(4, .int (b2)), (3, .int 2), (2, .int 1), (0, .ref 64), (1, .int (xs 1))], [.int 3000, .int 0], jzv181) : jS)) rfl ?_
  refine jl_s (S' := ((132, [(4, .int (b2)), (3, .int 2), (2, .int 1), (0, .ref 64), (1, .int (xs 1))], [], jzv181) : jS)) rfl ?_
  refine jl_s (S' := ((133, [(4, .int (b2)), (3, .int 2), (2, .int 1), (0, .ref 64), (1, .int (xs 1))], [.ref 64], jzv181) : jS)) rfl ?_
  refine jl_s (S' := ((136, [(4, .int (b2)), (3, .int 2), (2, .int 1), (0, .ref 64), (1, .int (xs 1))], [.ref 65], jzv181) : jS)) rfl ?_
  refine jl_s (S' := ((137, [(4, .int (b2)), (3, .int 2), (2, .int 1), (0, .ref 64), (1, .int (xs 1))], [.ref 64, .ref 65], jzv181) : jS)) rfl ?_
  refine jl_s (S' := ((140, [(4, .int (b2)), (3, .int 2), (2, .int 1), (0, .ref 64), (1, .int (xs 1))], [.int 0, .ref 65], jzv181) : jS)) rfl ?_
  refine jl_s (S' := ((142, [(4, .int (b2)), (3, .int 2), (2, .int 1), (0, .ref 64), (1, .int (xs 1))], [.int (b2), .int 0, .ref 65], jzv181) : jS)) rfl ?_
  refine jl_s (S' := ((143, [(4, .int (b2)), (3, .int 2), (2, .int 1), (0, .ref 64), (1, .int (xs 1))], [.int ((b2).toInt8.toInt32), .int 0, .ref 65], jzv181) : jS)) rfl ?_
  refine jl_s (S' := ((144, [(4, .int (b2)), (3, .int 2), (2, .int 1), (0, .ref 64), (1, .int (xs 1))], [], (jzv263 b0 b1 b2 b3)) : jS)) rfl ?_
  refine jl_s (S' := ((145, [(4, .int (b2)), (3, .int 2), (2, .int 1), (0, .ref 64), (1, .int (xs 1))], [.ref 64], (jzv263 b0 b1 b2 b3)) : jS)) rfl ?_
  refine jl_s (S' := ((146, [(4, .int (b2)), (3, .int 2), (2, .int 1), (0, .ref 64), (1, .int (xs 1))], [.ref 64, .ref 64], (jzv263 b0 b1 b2 b3)) : jS)) rfl ?_
  refine jl_s (S' := ((149, [(4, .int (b2)), (3, .int 2), (2, .int 1), (0, .ref 64), (1, .int (xs 1))], [.int 0, .ref 64], (jzv263 b0 b1 b2 b3)) : jS)) rfl ?_
  refine jl_s (S' := ((150, [(4, .int (b2)), (3, .int 2), (2, .int 1), (0, .ref 64), (1, .int (xs 1))], [.int 1, .int 0, .ref 64], (jzv263 b0 b1 b2 b3)) : jS)) rfl ?_
  refine jl_s (S' := ((151, [(4, .int (b2)), (3, .int 2), (2, .int 1), (0, .ref 64), (1, .int (xs 1))], [.int 1, .ref 64], (jzv263 b0 b1 b2 b3)) : jS)) rfl ?_
  refine jl_s (S' := ((154, [(4, .int (b2)), (3, .int 2), (2, .int 1), (0, .ref 64), (1, .int (xs 1))], [], (jzv264 b0 b1 b2 b3)) : jS)) rfl ?_
  refine jl_s (S' := ((157, [(3, .int 3), (4, .int (b2)), (2, .int 1), (0, .ref 64), (1, .int (xs 1))], [], (jzv264 b0 b1 b2 b3)) : jS)) rfl ?_
  refine jl_s (S' := ((100, [(3, .int 3), (4, .int (b2)), (2, .int 1), (0, .ref 64), (1, .int (xs 1))], [], (jzv264 b0 b1 b2 b3)) : jS)) rfl ?_
  exact hq
set_option maxHeartbeats 4000000 in
set_option maxRecDepth 100000 in
theorem jzq311 (xs : Nat → Int32) (b0 b1 b2 b3 : Int32) (e : ((Int32.toUInt32 (xs 1) >>> (Int32.toUInt32 24 &&& Int32.toUInt32 31)).toInt32) &&& 255 = b3) (h : jbz b3) {f : Nat} {q : jO × jH} (hq : jLoop (jRun ((4, xs) : jX) 2000 37) ((4, xs) : jX) jm20 f ((100, [(3, .int 4), (4, .int (b3)), (2, .int 1), (0, .ref 64), (1, .int (xs 1))], [], (jzv264 b0 b1 b2 b3)) : jS) = some q) : jLoop (jRun ((4, xs) : jX) 2000 37) ((4, xs) : jX) jm20 (f + 15) ((100, [(3, .int 3), (4, .int (b2)), (2, .int 1), (0, .ref 64), (1, .int (xs 1))], [], (jzv264 b0 b1 b2 b3)) : jS) = some q := by
  refine jl_s (S' := ((101, [(3, .int 3), (4, .int (b2)), (2, .int 1), (0, .ref 64), (1, .int (xs 1))], [.int 3], (jzv264 b0 b1 b2 b3)) : jS)) rfl ?_
  refine jl_s (S' := ((102, [(3, .int 3), (4, .int (b2)), (2, .int 1), (0, .ref 64), (1, .int (xs 1))], [.int 4, .int 3], (jzv264 b0 b1 b2 b3)) : jS)) rfl ?_
  refine jl_s (S' := ((105, [(3, .int 3), (4, .int (b2)), (2, .int 1), (0, .ref 64), (1, .int (xs 1))], [], (jzv264 b0 b1 b2 b3)) : jS)) rfl ?_
  refine jl_s (S' := ((106, [(3, .int 3), (4, .int (b2)), (2, .int 1), (0, .ref 64), (1, .int (xs 1))], [.int (xs 1)], (jzv264 b0 b1 b2 b3)) : jS)) rfl ?_
  refine jl_s (S' := ((108, [(3, .int 3), (4, .int (b2)), (2, .int 1), (0, .ref 64), (1, .int (xs 1))], [.int 8, .int (xs 1)], (jzv264 b0 b1 b2 b3)) : jS)) rfl ?_
  refine jl_s (S' := ((109, [(3, .int 3), (4, .int (b2)), (2, .int 1), (0, .ref 64), (1, .int (xs 1))], [.int 3, .int 8, .int (xs 1)], (jzv264 b0 b1 b2 b3)) : jS)) rfl ?_
  refine jl_s (S' := ((110, [(3, .int 3), (4, .int (b2)), (2, .int 1), (0, .ref 64), (1, .int (xs 1))], [.int 24, .int (xs 1)], (jzv264 b0 b1 b2 b3)) : jS)) rfl ?_
  refine jl_s (S' := ((111, [(3, .int 3), (4, .int (b2)), (2, .int 1), (0, .ref 64), (1, .int (xs 1))], [.int ((Int32.toUInt32 (xs 1) >>> (Int32.toUInt32 24 &&& Int32.toUInt32 31)).toInt32)], (jzv264 b0 b1 b2 b3)) : jS)) rfl ?_
  refine jl_s (S' := ((114, [(3, .int 3), (4, .int (b2)), (2, .int 1), (0, .ref 64), (1, .int (xs 1))], [.int 255, .int ((Int32.toUInt32 (xs 1) >>> (Int32.toUInt32 24 &&& Int32.toUInt32 31)).toInt32)], (jzv264 b0 b1 b2 b3)) : jS)) rfl ?_
  refine jl_s (S' := ((115, [(3, .int 3), (4, .int (b2)), (2, .int 1), (0, .ref 64), (1, .int (xs 1))], [.int (((Int32.toUInt32 (xs 1) >>> (Int32.toUInt32 24 &&& Int32.toUInt32 31)).toInt32) &&& 255)], (jzv264 b0 b1 b2 b3)) : jS)) rfl ?_
  rw [e]
  refine jl_s (S' := ((117, [(4, .int (b3)), (3, .int 3), (2, .int 1), (0, .ref 64), (1, .int (xs 1))], [], (jzv264 b0 b1 b2 b3)) : jS)) rfl ?_
  refine jl_s (S' := ((119, [(4, .int (b3)), (3, .int 3), (2, .int 1), (0, .ref 64), (1, .int (xs 1))], [.int (b3)], (jzv264 b0 b1 b2 b3)) : jS)) rfl ?_
  refine jl_ift (e := jm20) (o := 35) rfl (h.1) (t := 154) rfl ?_
  refine jl_s (S' := ((157, [(3, .int 4), (4, .int (b3)), (2, .int 1), (0, .ref 64), (1, .int (xs 1))], [], (jzv264 b0 b1 b2 b3)) : jS)) rfl ?_
  refine jl_s (S' := ((100, [(3, .int 4), (4, .int (b3)), (2, .int 1), (0, .ref 64), (1, .int (xs 1))], [], (jzv264 b0 b1 b2 b3)) : jS)) rfl ?_
  exact hq
set_option maxHeartbeats 4000000 in
set_option maxRecDepth 100000 in
theorem jzq313 (xs : Nat → Int32) (b0 b1 b2 b3 : Int32) {f : Nat} : jLoop (jRun ((4, xs) : jX) 2000 37) ((4, xs) : jX) jm20 (f + 6) ((100, [(3, .int 4), (4, .int (b3)), (2, .int 1), (0, .ref 64), (1, .int (xs 1))], [], (jzv264 b0 b1 b2 b3)) : jS) = some (.inl (some (.int 1)), (jzv264 b0 b1 b2 b3)) := by
  refine jl_s (S' := ((101, [(3, .int 4), (4, .int (b3)), (2, .int 1), (0, .ref 64), (1, .int (xs 1))], [.int 4], (jzv264 b0 b1 b2 b3)) : jS)) rfl ?_
  refine jl_s (S' := ((102, [(3, .int 4), (4, .int (b3)), (2, .int 1), (0, .ref 64), (1, .int (xs 1))], [.int 4, .int 4], (jzv264 b0 b1 b2 b3)) : jS)) rfl ?_
  refine jl_s (S' := ((160, [(3, .int 4), (4, .int (b3)), (2, .int 1), (0, .ref 64), (1, .int (xs 1))], [], (jzv264 b0 b1 b2 b3)) : jS)) rfl ?_
  refine jl_s (S' := ((161, [(3, .int 4), (4, .int (b3)), (2, .int 1), (0, .ref 64), (1, .int (xs 1))], [.ref 64], (jzv264 b0 b1 b2 b3)) : jS)) rfl ?_
  refine jl_s (S' := ((164, [(3, .int 4), (4, .int (b3)), (2, .int 1), (0, .ref 64), (1, .int (xs 1))], [.int 1], (jzv264 b0 b1 b2 b3)) : jS)) rfl ?_
  exact jl_r (r := (.inl (some (.int 1)), (jzv264 b0 b1 b2 b3))) rfl
set_option maxHeartbeats 4000000 in
set_option maxRecDepth 100000 in
theorem jzcp_ZZVZ (xs : Nat → Int32) (b0 b1 b2 b3 : Int32) (e0 : ((Int32.toUInt32 (xs 1) >>> (Int32.toUInt32 0 &&& Int32.toUInt32 31)).toInt32) &&& 255 = b0) (e1 : ((Int32.toUInt32 (xs 1) >>> (Int32.toUInt32 8 &&& Int32.toUInt32 31)).toInt32) &&& 255 = b1) (e2 : ((Int32.toUInt32 (xs 1) >>> (Int32.toUInt32 16 &&& Int32.toUInt32 31)).toInt32) &&& 255 = b2) (e3 : ((Int32.toUInt32 (xs 1) >>> (Int32.toUInt32 24 &&& Int32.toUInt32 31)).toInt32) &&& 255 = b3) (h0 : jbz b0) (h1 : jbz b1) (h2 : jbv b2) (h3 : jbz b3) : jRun ((4, xs) : jX) 2000 38 20 [.ref 64, .int (xs 1)] jzv181 = some (.inl (some (.int 1)), (jzv264 b0 b1 b2 b3)) := by
  refine jr_run (e := jm20) rfl (Nat.le_of_ble_eq_true rfl) ?_
  refine jzq267 xs b0 b1 b2 b3 ?_
  refine jzq269 xs b0 b1 b2 b3 e0 h0 ?_
  refine jzq271 xs b0 b1 b2 b3 e1 h1 ?_
  refine jzq305 xs b0 b1 b2 b3 e2 h2 ?_
  refine jzq307 xs b0 b1 b2 b3 e3 h3 ?_
  refine jzq292 xs b0 b1 b2 b3 ?_
  refine jzq294 xs b0 b1 b2 b3 e0 h0 ?_
  refine jzq296 xs b0 b1 b2 b3 e1 h1 ?_
  refine jzq309 xs b0 b1 b2 b3 e2 h2.1 ?_
  refine jzq311 xs b0 b1 b2 b3 e3 h3 ?_
  exact jzq313 xs b0 b1 b2 b3
set_option maxHeartbeats 4000000 in
set_option maxRecDepth 100000 in
theorem jzq316 (xs : Nat → Int32) (b0 b1 b2 b3 : Int32) (e : ((Int32.toUInt32 (xs 1) >>> (Int32.toUInt32 24 &&& Int32.toUInt32 31)).toInt32) &&& 255 = b3) (h : jbv b3) {f : Nat} {q : jO × jH} (hq : jLoop (jRun ((4, xs) : jX) 2000 37) ((4, xs) : jX) jm20 f ((4, [(3, .int 4), (2, .int 2), (4, .int (b3)), (0, .ref 64), (1, .int (xs 1))], [], jzv181) : jS) = some q) : jLoop (jRun ((4, xs) : jX) 2000 37) ((4, xs) : jX) jm20 (f + 30) ((4, [(3, .int 3), (2, .int 1), (4, .int (b2)), (0, .ref 64), (1, .int (xs 1))], [], jzv181) : jS) = some q := by
  rcases h.2 with h1 | ⟨h1, h2, h3, h4⟩
  · refine jl_s (S' := ((5, [(3, .int 3), (2, .int 1), (4, .int (b2)), (0, .ref 64), (1, .int (xs 1))], [.int 3], jzv181) : jS)) rfl ?_
    refine jl_s (S' := ((6, [(3, .int 3), (2, .int 1), (4, .int (b2)), (0, .ref 64), (1, .int (xs 1))], [.int 4, .int 3], jzv181) : jS)) rfl ?_
    refine jl_s (S' := ((9, [(3, .int 3), (2, .int 1), (4, .int (b2)), (0, .ref 64), (1, .int (xs 1))], [], jzv181) : jS)) rfl ?_
    refine jl_s (S' := ((10, [(3, .int 3), (2, .int 1), (4, .int (b2)), (0, .ref 64), (1, .int (xs 1))], [.int (xs 1)], jzv181) : jS)) rfl ?_
    refine jl_s (S' := ((12, [(3, .int 3), (2, .int 1), (4, .int (b2)), (0, .ref 64), (1, .int (xs 1))], [.int 8, .int (xs 1)], jzv181) : jS)) rfl ?_
    refine jl_s (S' := ((13, [(3, .int 3), (2, .int 1), (4, .int (b2)), (0, .ref 64), (1, .int (xs 1))], [.int 3, .int 8, .int (xs 1)], jzv181) : jS)) rfl ?_
    refine jl_s (S' := ((14, [(3, .int 3), (2, .int 1), (4, .int (b2)), (0, .ref 64), (1, .int (xs 1))], [.int 24, .int (xs 1)], jzv181) : jS)) rfl ?_
    refine jl_s (S' := ((15, [(3, .int 3), (2, .int 1), (4, .int (b2)), (0, .ref 64), (1, .int (xs 1))], [.int ((Int32.toUInt32 (xs 1) >>> (Int32.toUInt32 24 &&& Int32.toUInt32 31)).toInt32)], jzv181) : jS)) rfl ?_
    refine jl_s (S' := ((18, [(3, .int 3), (2, .int 1), (4, .int (b2)), (0, .ref 64), (1, .int (xs 1))], [.int 255, .int ((Int32.toUInt32 (xs 1) >>> (Int32.toUInt32 24 &&& Int32.toUInt32 31)).toInt32)], jzv181) : jS)) rfl ?_
    refine jl_s (S' := ((19, [(3, .int 3), (2, .int 1), (4, .int (b2)), (0, .ref 64), (1, .int (xs 1))], [.int (((Int32.toUInt32 (xs 1) >>> (Int32.toUInt32 24 &&& Int32.toUInt32 31)).toInt32) &&& 255)], jzv181) : jS)) rfl ?_
    rw [e]
    refine jl_s (S' := ((21, [(4, .int (b3)), (3, .int 3), (2, .int 1), (0, .ref 64), (1, .int (xs 1))], [], jzv181) : jS)) rfl ?_
    refine jl_s (S' := ((23, [(4, .int (b3)), (3, .int 3), (2, .int 1), (0, .ref 64), (1, .int (xs 1))], [.int (b3)], jzv181) : jS)) rfl ?_
    refine jl_iff (e := jm20) (o := 34) rfl (h.1.1) ?_
    refine jl_s (S' := ((28, [(4, .int (b3)), (3, .int 3), (2, .int 1), (0, .ref 64), (1, .int (xs 1))], [.int (b3)], jzv181) : jS)) rfl ?_
    refine jl_s (S' := ((30, [(4, .int (b3)), (3, .int 3), (2, .int 1), (0, .ref 64), (1, .int (xs 1))], [.int 10, .int (b3)], jzv181) : jS)) rfl ?_
    refine jl_ict (e := jm20) (o := 27) rfl (h1) (t := 57) rfl ?_
    refine jl_s (S' := ((58, [(4, .int (b3)), (3, .int 3), (2, .int 1), (0, .ref 64), (1, .int (xs 1))], [.int 1], jzv181) : jS)) rfl ?_
    refine jl_s (S' := ((60, [(4, .int (b3)), (3, .int 3), (2, .int 1), (0, .ref 64), (1, .int (xs 1))], [.int (b3), .int 1], jzv181) : jS)) rfl ?_
    refine jl_ift (e := jm20) (o := 7) rfl (h.1.2) (t := 67) rfl ?_
    refine jl_s (S' := ((68, [(4, .int (b3)), (3, .int 3), (2, .int 1), (0, .ref 64), (1, .int (xs 1))], [.int 1, .int 1], jzv181) : jS)) rfl ?_
    refine jl_s (S' := ((69, [(4, .int (b3)), (3, .int 3), (2, .int 1), (0, .ref 64), (1, .int (xs 1))], [.int 2], jzv181) : jS)) rfl ?_
    refine jl_s (S' := ((70, [(2, .int 2), (4, .int (b3)), (3, .int 3), (0, .ref 64), (1, .int (xs 1))], [], jzv181) : jS)) rfl ?_
    refine jl_s (S' := ((73, [(3, .int 4), (2, .int 2), (4, .int (b3)), (0, .ref 64), (1, .int (xs 1))], [], jzv181) : jS)) rfl ?_
    refine jl_s (S' := ((4, [(3, .int 4), (2, .int 2), (4, .int (b3)), (0, .ref 64), (1, .int (xs 1))], [], jzv181) : jS)) rfl ?_
    exact jl_more hq
  · refine jl_s (S' := ((5, [(3, .int 3), (2, .int 1), (4, .int (b2)), (0, .ref 64), (1, .int (xs 1))], [.int 3], jzv181) : jS)) rfl ?_
    refine jl_s (S' := ((6, [(3, .int 3), (2, .int 1), (4, .int (b2)), (0, .ref 64), (1, .int (xs 1))], [.int 4, .int 3], jzv181) : jS)) rfl ?_
    refine jl_s (S' := ((9, [(3, .int 3), (2, .int 1), (4, .int (b2)), (0, .ref 64), (1, .int (xs 1))], [], jzv181) : jS)) rfl ?_
    refine jl_s (S' := ((10, [(3, .int 3), (2, .int 1), (4, .int (b2)), (0, .ref 64), (1, .int (xs 1))], [.int (xs 1)], jzv181) : jS)) rfl ?_
    refine jl_s (S' := ((12, [(3, .int 3), (2, .int 1), (4, .int (b2)), (0, .ref 64), (1, .int (xs 1))], [.int 8, .int (xs 1)], jzv181) : jS)) rfl ?_
    refine jl_s (S' := ((13, [(3, .int 3), (2, .int 1), (4, .int (b2)), (0, .ref 64), (1, .int (xs 1))], [.int 3, .int 8, .int (xs 1)], jzv181) : jS)) rfl ?_
    refine jl_s (S' := ((14, [(3, .int 3), (2, .int 1), (4, .int (b2)), (0, .ref 64), (1, .int (xs 1))], [.int 24, .int (xs 1)], jzv181) : jS)) rfl ?_
    refine jl_s (S' := ((15, [(3, .int 3), (2, .int 1), (4, .int (b2)), (0, .ref 64), (1, .int (xs 1))], [.int ((Int32.toUInt32 (xs 1) >>> (Int32.toUInt32 24 &&& Int32.toUInt32 31)).toInt32)], jzv181) : jS)) rfl ?_
    refine jl_s (S' := ((18, [(3, .int 3), (2, .int 1), (4, .int (b2)), (0, .ref 64), (1, .int (xs 1))], [.int 255, .int ((Int32.toUInt32 (xs 1) >>> (Int32.toUInt32 24 &&& Int32.toUInt32 31)).toInt32)], jzv181) : jS)) rfl ?_
    refine jl_s (S' := ((19, [(3, .int 3), (2, .int 1), (4, .int (b2)), (0, .ref 64), (1, .int (xs 1))], [.int (((Int32.toUInt32 (xs 1) >>> (Int32.toUInt32 24 &&& Int32.toUInt32 31)).toInt32) &&& 255)], jzv181) : jS)) rfl ?_
    rw [e]
    refine jl_s (S' := ((21, [(4, .int (b3)), (3, .int 3), (2, .int 1), (0, .ref 64), (1, .int (xs 1))], [], jzv181) : jS)) rfl ?_
    refine jl_s (S' := ((23, [(4, .int (b3)), (3, .int 3), (2, .int 1), (0, .ref 64), (1, .int (xs 1))], [.int (b3)], jzv181) : jS)) rfl ?_
    refine jl_iff (e := jm20) (o := 34) rfl (h.1.1) ?_
    refine jl_s (S' := ((28, [(4, .int (b3)), (3, .int 3), (2, .int 1), (0, .ref 64), (1, .int (xs 1))], [.int (b3)], jzv181) : jS)) rfl ?_
    refine jl_s (S' := ((30, [(4, .int (b3)), (3, .int 3), (2, .int 1), (0, .ref 64), (1, .int (xs 1))], [.int 10, .int (b3)], jzv181) : jS)) rfl ?_
    refine jl_icf (e := jm20) (o := 27) rfl (h1) ?_
    refine jl_s (S' := ((35, [(4, .int (b3)), (3, .int 3), (2, .int 1), (0, .ref 64), (1, .int (xs 1))], [.int (b3)], jzv181) : jS)) rfl ?_
    refine jl_s (S' := ((37, [(4, .int (b3)), (3, .int 3), (2, .int 1), (0, .ref 64), (1, .int (xs 1))], [.int 32, .int (b3)], jzv181) : jS)) rfl ?_
    refine jl_icf (e := jm20) (o := 10) rfl (h2) ?_
    refine jl_s (S' := ((42, [(4, .int (b3)), (3, .int 3), (2, .int 1), (0, .ref 64), (1, .int (xs 1))], [.int (b3)], jzv181) : jS)) rfl ?_
    refine jl_s (S' := ((44, [(4, .int (b3)), (3, .int 3), (2, .int 1), (0, .ref 64), (1, .int (xs 1))], [.int 126, .int (b3)], jzv181) : jS)) rfl ?_
    refine jl_ict (e := jm20) (o := 13) rfl (h3) (t := 57) rfl ?_
    refine jl_s (S' := ((58, [(4, .int (b3)), (3, .int 3), (2, .int 1), (0, .ref 64), (1, .int (xs 1))], [.int 1], jzv181) : jS)) rfl ?_
    refine jl_s (S' := ((60, [(4, .int (b3)), (3, .int 3), (2, .int 1), (0, .ref 64), (1, .int (xs 1))], [.int (b3), .int 1], jzv181) : jS)) rfl ?_
    refine jl_ift (e := jm20) (o := 7) rfl (h.1.2) (t := 67) rfl ?_
    refine jl_s (S' := ((68, [(4, .int (b3)), (3, .int 3), (2, .int 1), (0, .ref 64), (1, .int (xs 1))], [.int 1, .int 1], jzv181) : jS)) rfl ?_
    refine jl_s (S' := ((69, [(4, .int (b3)), (3, .int 3), (2, .int 1), (0, .ref 64), (1, .int (xs 1))], [.int 2], jzv181) : jS)) rfl ?_
    refine jl_s (S' := ((70, [(2, .int 2), (4, .int (b3)), (3, .int 3), (0, .ref 64), (1, .int (xs 1))], [], jzv181) : jS)) rfl ?_
    refine jl_s (S' := ((73, [(3, .int 4), (2, .int 2), (4, .int (b3)), (0, .ref 64), (1, .int (xs 1))], [], jzv181) : jS)) rfl ?_
    refine jl_s (S' := ((4, [(3, .int 4), (2, .int 2), (4, .int (b3)), (0, .ref 64), (1, .int (xs 1))], [], jzv181) : jS)) rfl ?_
    exact hq
set_option maxHeartbeats 4000000 in
set_option maxRecDepth 100000 in
theorem jzq318 (xs : Nat → Int32) (b0 b1 b2 b3 : Int32) {f : Nat} {q : jO × jH} (hq : jLoop (jRun ((4, xs) : jX) 2000 37) ((4, xs) : jX) jm20 f ((100, [(3, .int 0), (2, .int 2), (4, .int (b3)), (0, .ref 64), (1, .int (xs 1))], [], jzv181) : jS) = some q) : jLoop (jRun ((4, xs) : jX) 2000 37) ((4, xs) : jX) jm20 (f + 11) ((4, [(3, .int 4), (2, .int 2), (4, .int (b3)), (0, .ref 64), (1, .int (xs 1))], [], jzv181) : jS) = some q := by
  refine jl_s (S' := ((5, [(3, .int 4), (2, .int 2), (4, .int (b3)), (0, .ref 64), (1, .int (xs 1))], [.int 4], jzv181) : jS)) rfl ?_
  refine jl_s (S' := ((6, [(3, .int 4), (2, .int 2), (4, .int (b3)), (0, .ref 64), (1, .int (xs 1))], [.int 4, .int 4], jzv181) : jS)) rfl ?_
  refine jl_s (S' := ((76, [(3, .int 4), (2, .int 2), (4, .int (b3)), (0, .ref 64), (1, .int (xs 1))], [], jzv181) : jS)) rfl ?_
  refine jl_s (S' := ((77, [(3, .int 4), (2, .int 2), (4, .int (b3)), (0, .ref 64), (1, .int (xs 1))], [.ref 64], jzv181) : jS)) rfl ?_
  refine jl_s (S' := ((80, [(3, .int 4), (2, .int 2), (4, .int (b3)), (0, .ref 64), (1, .int (xs 1))], [.int 0], jzv181) : jS)) rfl ?_
  refine jl_s (S' := ((81, [(3, .int 4), (2, .int 2), (4, .int (b3)), (0, .ref 64), (1, .int (xs 1))], [.int 2, .int 0], jzv181) : jS)) rfl ?_
  refine jl_s (S' := ((82, [(3, .int 4), (2, .int 2), (4, .int (b3)), (0, .ref 64), (1, .int (xs 1))], [.int 2], jzv181) : jS)) rfl ?_
  refine jl_s (S' := ((85, [(3, .int 4), (2, .int 2), (4, .int (b3)), (0, .ref 64), (1, .int (xs 1))], [.int 3000, .int 2], jzv181) : jS)) rfl ?_
  refine jl_s (S' := ((98, [(3, .int 4), (2, .int 2), (4, .int (b3)), (0, .ref 64), (1, .int (xs 1))], [], jzv181) : jS)) rfl ?_
  refine jl_s (S' := ((99, [(3, .int 4), (2, .int 2), (4, .int (b3)), (0, .ref 64), (1, .int (xs 1))], [.int 0], jzv181) : jS)) rfl ?_
  refine jl_s (S' := ((100, [(3, .int 0), (2, .int 2), (4, .int (b3)), (0, .ref 64), (1, .int (xs 1))], [], jzv181) : jS)) rfl ?_
  exact hq
set_option maxHeartbeats 4000000 in
set_option maxRecDepth 100000 in
theorem jzq320 (xs : Nat → Int32) (b0 b1 b2 b3 : Int32) (e : ((Int32.toUInt32 (xs 1) >>> (Int32.toUInt32 0 &&& Int32.toUInt32 31)).toInt32) &&& 255 = b0) (h : jbz b0) {f : Nat} {q : jO × jH} (hq : jLoop (jRun ((4, xs) : jX) 2000 37) ((4, xs) : jX) jm20 f ((100, [(3, .int 1), (4, .int (b0)), (2, .int 2), (0, .ref 64), (1, .int (xs 1))], [], jzv181) : jS) = some q) : jLoop (jRun ((4, xs) : jX) 2000 37) ((4, xs) : jX) jm20 (f + 15) ((100, [(3, .int 0), (2, .int 2), (4, .int (b3)), (0, .ref 64), (1, .int (xs 1))], [], jzv181) : jS) = some q := by
  refine jl_s (S' := ((101, [(3, .int 0), (2, .int 2), (4, .int (b3)), (0, .ref 64), (1, .int (xs 1))], [.int 0], jzv181) : jS)) rfl ?_
  refine jl_s (S' := ((102, [(3, .int 0), (2, .int 2), (4, .int (b3)), (0, .ref 64), (1, .int (xs 1))], [.int 4, .int 0], jzv181) : jS)) rfl ?_
  refine jl_s (S' := ((105, [(3, .int 0), (2, .int 2), (4, .int (b3)), (0, .ref 64), (1, .int (xs 1))], [], jzv181) : jS)) rfl ?_
  refine jl_s (S' := ((106, [(3, .int 0), (2, .int 2), (4, .int (b3)), (0, .ref 64), (1, .int (xs 1))], [.int (xs 1)], jzv181) : jS)) rfl ?_
  refine jl_s (S' := ((108, [(3, .int 0), (2, .int 2), (4, .int (b3)), (0, .ref 64), (1, .int (xs 1))], [.int 8, .int (xs 1)], jzv181) : jS)) rfl ?_
  refine jl_s (S' := ((109, [(3, .int 0), (2, .int 2), (4, .int (b3)), (0, .ref 64), (1, .int (xs 1))], [.int 0, .int 8, .int (xs 1)], jzv181) : jS)) rfl ?_
  refine jl_s (S' := ((110, [(3, .int 0), (2, .int 2), (4, .int (b3)), (0, .ref 64), (1, .int (xs 1))], [.int 0, .int (xs 1)], jzv181) : jS)) rfl ?_
  refine jl_s (S' := ((111, [(3, .int 0), (2, .int 2), (4, .int (b3)), (0, .ref 64), (1, .int (xs 1))], [.int ((Int32.toUInt32 (xs 1) >>> (Int32.toUInt32 0 &&& Int32.toUInt32 31)).toInt32)], jzv181) : jS)) rfl ?_
  refine jl_s (S' := ((114, [(3, .int 0), (2, .int 2), (4, .int (b3)), (0, .ref 64), (1, .int (xs 1))], [.int 255, .int ((Int32.toUInt32 (xs 1) >>> (Int32.toUInt32 0 &&& Int32.toUInt32 31)).toInt32)], jzv181) : jS)) rfl ?_
  refine jl_s (S' := ((115, [(3, .int 0), (2, .int 2), (4, .int (b3)), (0, .ref 64), (1, .int (xs 1))], [.int (((Int32.toUInt32 (xs 1) >>> (Int32.toUInt32 0 &&& Int32.toUInt32 31)).toInt32) &&& 255)], jzv181) : jS)) rfl ?_
  rw [e]
  refine jl_s (S' := ((117, [(4, .int (b0)), (3, .int 0), (2, .int 2), (0, .ref 64), (1, .int (xs 1))], [], jzv181) : jS)) rfl ?_
  refine jl_s (S' := ((119, [(4, .int (b0)), (3, .int 0), (2, .int 2), (0, .ref 64), (1, .int (xs 1))], [.int (b0)], jzv181) : jS)) rfl ?_
  refine jl_ift (e := jm20) (o := 35) rfl (h.1) (t := 154) rfl ?_
  refine jl_s (S' := ((157, [(3, .int 1), (4, .int (b0)), (2, .int 2), (0, .ref 64), (1, .int (xs 1))], [], jzv181) : jS)) rfl ?_
  refine jl_s (S' := ((100, [(3, .int 1), (4, .int (b0)), (2, .int 2), (0, .ref 64), (1, .int (xs 1))], [], jzv181) : jS)) rfl ?_
  exact hq
set_option maxHeartbeats 4000000 in
set_option maxRecDepth 100000 in
theorem jzq322 (xs : Nat → Int32) (b0 b1 b2 b3 : Int32) (e : ((Int32.toUInt32 (xs 1) >>> (Int32.toUInt32 8 &&& Int32.toUInt32 31)).toInt32) &&& 255 = b1) (h : jbz b1) {f : Nat} {q : jO × jH} (hq : jLoop (jRun ((4, xs) : jX) 2000 37) ((4, xs) : jX) jm20 f ((100, [(3, .int 2), (4, .int (b1)), (2, .int 2), (0, .ref 64), (1, .int (xs 1))], [], jzv181) : jS) = some q) : jLoop (jRun ((4, xs) : jX) 2000 37) ((4, xs) : jX) jm20 (f + 15) ((100, [(3, .int 1), (4, .int (b0)), (2, .int 2), (0, .ref 64), (1, .int (xs 1))], [], jzv181) : jS) = some q := by
  refine jl_s (S' := ((101, [(3, .int 1), (4, .int (b0)), (2, .int 2), (0, .ref 64), (1, .int (xs 1))], [.int 1], jzv181) : jS)) rfl ?_
  refine jl_s (S' := ((102, [(3, .int 1), (4, .int (b0)), (2, .int 2), (0, .ref 64), (1, .int (xs 1))], [.int 4, .int 1], jzv181) : jS)) rfl ?_
  refine jl_s (S' := ((105, [(3, .int 1), (4, .int (b0)), (2, .int 2), (0, .ref 64), (1, .int (xs 1))], [], jzv181) : jS)) rfl ?_
  refine jl_s (S' := ((106, [(3, .int 1), (4, .int (b0)), (2, .int 2), (0, .ref 64), (1, .int (xs 1))], [.int (xs 1)], jzv181) : jS)) rfl ?_
  refine jl_s (S' := ((108, [(3, .int 1), (4, .int (b0)), (2, .int 2), (0, .ref 64), (1, .int (xs 1))], [.int 8, .int (xs 1)], jzv181) : jS)) rfl ?_
  refine jl_s (S' := ((109, [(3, .int 1), (4, .int (b0)), (2, .int 2), (0, .ref 64), (1, .int (xs 1))], [.int 1, .int 8, .int (xs 1)], jzv181) : jS)) rfl ?_
  refine jl_s (S' := ((110, [(3, .int 1), (4, .int (b0)), (2, .int 2), (0, .ref 64), (1, .int (xs 1))], [.int 8, .int (xs 1)], jzv181) : jS)) rfl ?_
  refine jl_s (S' := ((111, [(3, .int 1), (4, .int (b0)), (2, .int 2), (0, .ref 64), (1, .int (xs 1))], [.int ((Int32.toUInt32 (xs 1) >>> (Int32.toUInt32 8 &&& Int32.toUInt32 31)).toInt32)], jzv181) : jS)) rfl ?_
  refine jl_s (S' := ((114, [(3, .int 1), (4, .int (b0)), (2, .int 2), (0, .ref 64), (1, .int (xs 1))], [.int 255, .int ((Int32.toUInt32 (xs 1) >>> (Int32.toUInt32 8 &&& Int32.toUInt32 31)).toInt32)], jzv181) : jS)) rfl ?_
  refine jl_s (S' := ((115, [(3, .int 1), (4, .int (b0)), (2, .int 2), (0, .ref 64), (1, .int (xs 1))], [.int (((Int32.toUInt32 (xs 1) >>> (Int32.toUInt32 8 &&& Int32.toUInt32 31)).toInt32) &&& 255)], jzv181) : jS)) rfl ?_
  rw [e]
  refine jl_s (S' := ((117, [(4, .int (b1)), (3, .int 1), (2, .int 2), (0, .ref 64), (1, .int (xs 1))], [], jzv181) : jS)) rfl ?_
  refine jl_s (S' := ((119, [(4, .int (b1)), (3, .int 1), (2, .int 2), (0, .ref 64), (1, .int (xs 1))], [.int (b1)], jzv181) : jS)) rfl ?_
  refine jl_ift (e := jm20) (o := 35) rfl (h.1) (t := 154) rfl ?_
  refine jl_s (S' := ((157, [(3, .int 2), (4, .int (b1)), (2, .int 2), (0, .ref 64), (1, .int (xs 1))], [], jzv181) : jS)) rfl ?_
  refine jl_s (S' := ((100, [(3, .int 2), (4, .int (b1)), (2, .int 2), (0, .ref 64), (1, .int (xs 1))], [], jzv181) : jS)) rfl ?_
  exact hq
set_option maxHeartbeats 4000000 in
set_option maxRecDepth 100000 in
theorem jzq324 (xs : Nat → Int32) (b0 b1 b2 b3 : Int32) (e : ((Int32.toUInt32 (xs 1) >>> (Int32.toUInt32 16 &&& Int32.toUInt32 31)).toInt32) &&& 255 = b2) (h : jbn b2) {f : Nat} {q : jO × jH} (hq : jLoop (jRun ((4, xs) : jX) 2000 37) ((4, xs) : jX) jm20 f ((100, [(3, .int 3), (4, .int (b2)), (2, .int 2), (0, .ref 64), (1, .int (xs 1))], [], (jzv264 b0 b1 b2 b3)) : jS) = some q) : jLoop (jRun ((4, xs) : jX) 2000 37) ((4, xs) : jX) jm20 (f + 32) ((100, [(3, .int 2), (4, .int (b1)), (2, .int 2), (0, .ref 64), (1, .int (xs 1))], [], jzv181) : jS) = some q := by
  refine jl_s (S' := ((101, [(3, .int 2), (4, .int (b1)), (2, .int 2), (0, .ref 64), (1, .int (xs 1))], [.int 2], jzv181) : jS)) rfl ?_
  refine jl_s (S' := ((102, [(3, .int 2), (4, .int (b1)), (2, .int 2), (0, .ref 64), (1, .int (xs 1))], [.int 4, .int 2], jzv181) : jS)) rfl ?_
  refine jl_s (S' := ((105, [(3, .int 2), (4, .int (b1)), (2, .int 2), (0, .ref 64), (1, .int (xs 1))], [], jzv181) : jS)) rfl ?_
  refine jl_s (S' := ((106, [(3, .int 2), (4, .int (b1)), (2, .int 2), (0, .ref 64), (1, .int (xs 1))], [.int (xs 1)], jzv181) : jS)) rfl ?_
  refine jl_s (S' := ((108, [(3, .int 2), (4, .int (b1)), (2, .int 2), (0, .ref 64), (1, .int (xs 1))], [.int 8, .int (xs 1)], jzv181) : jS)) rfl ?_
  refine jl_s (S' := ((109, [(3, .int 2), (4, .int (b1)), (2, .int 2), (0, .ref 64), (1, .int (xs 1))], [.int 2, .int 8, .int (xs 1)], jzv181) : jS)) rfl ?_
  refine jl_s (S' := ((110, [(3, .int 2), (4, .int (b1)), (2, .int 2), (0, .ref 64), (1, .int (xs 1))], [.int 16, .int (xs 1)], jzv181) : jS)) rfl ?_
  refine jl_s (S' := ((111, [(3, .int 2), (4, .int (b1)), (2, .int 2), (0, .ref 64), (1, .int (xs 1))], [.int ((Int32.toUInt32 (xs 1) >>> (Int32.toUInt32 16 &&& Int32.toUInt32 31)).toInt32)], jzv181) : jS)) rfl ?_
  refine jl_s (S' := ((114, [(3, .int 2), (4, .int (b1)), (2, .int 2), (0, .ref 64), (1, .int (xs 1))], [.int 255, .int ((Int32.toUInt32 (xs 1) >>> (Int32.toUInt32 16 &&& Int32.toUInt32 31)).toInt32)], jzv181) : jS)) rfl ?_
  refine jl_s (S' := ((115, [(3, .int 2), (4, .int (b1)), (2, .int 2), (0, .ref 64), (1, .int (xs 1))], [.int (((Int32.toUInt32 (xs 1) >>> (Int32.toUInt32 16 &&& Int32.toUInt32 31)).toInt32) &&& 255)], jzv181) : jS)) rfl ?_
  rw [e]
  refine jl_s (S' := ((117, [(4, .int (b2)), (3, .int 2), (2, .int 2), (0, .ref 64), (1, .int (xs 1))], [], jzv181) : jS)) rfl ?_
  refine jl_s (S' := ((119, [(4, .int (b2)), (3, .int 2), (2, .int 2), (0, .ref 64), (1, .int (xs 1))], [.int (b2)], jzv181) : jS)) rfl ?_
  refine jl_iff (e := jm20) (o := 35) rfl (h.1) ?_
  refine jl_s (S' := ((123, [(4, .int (b2)), (3, .int 2), (2, .int 2), (0, .ref 64), (1, .int (xs 1))], [.ref 64], jzv181) : jS)) rfl ?_
  refine jl_s (S' := ((126, [(4, .int (b2)), (3, .int 2), (2, .int 2), (0, .ref 64), (1, .int (xs 1))], [.int 0], jzv181) : jS)) rfl ?_
  refine jl_s (S' := ((129, [(4, .int (b2)), (3, .int 2), (2, .int 2), (0, .ref 64), (1, .int (xs 1))], [.int 3000, .int 0], jzv181) : jS)) rfl ?_
  refine jl_s (S' := ((132, [(4, .int (b2)), (3, .int 2), (2, .int 2), (0, .ref 64), (1, .int (xs 1))], [], jzv181) : jS)) rfl ?_
  refine jl_s (S' := ((133, [(4, .int (b2)), (3, .int 2), (2, .int 2), (0, .ref 64), (1, .int (xs 1))], [.ref 64], jzv181) : jS)) rfl ?_
  refine jl_s (S' := ((136, [(4, .int (b2)), (3, .int 2), (2, .int 2), (0, .ref 64), (1, .int (xs 1))], [.ref 65], jzv181) : jS)) rfl ?_
  refine jl_s (S' := ((137, [(4, .int (b2)), (3, .int 2), (2, .int 2), (0, .ref 64), (1, .int (xs 1))], [.ref 64, .ref 65], jzv181) : jS)) rfl ?_
  refine jl_s (S' := ((140, [(4, .int (b2)), (3, .int 2), (2, .int 2), (0, .ref 64), (1, .int (xs 1))], [.int 0, .ref 65], jzv181) : jS)) rfl ?_
  refine jl_s (S' := ((142, [(4, .int (b2)), (3, .int 2), (2, .int 2), (0, .ref 64), (1, .int (xs 1))], [.int (b2), .int 0, .ref 65], jzv181) : jS)) rfl ?_
  refine jl_s (S' := ((143, [(4, .int (b2)), (3, .int 2), (2, .int 2), (0, .ref 64), (1, .int (xs 1))], [.int ((b2).toInt8.toInt32), .int 0, .ref 65], jzv181) : jS)) rfl ?_
  refine jl_s (S' := ((144, [(4, .int (b2)), (3, .int 2), (2, .int 2), (0, .ref 64), (1, .int (xs 1))], [], (jzv263 b0 b1 b2 b3)) : jS)) rfl ?_
  refine jl_s (S' := ((145, [(4, .int (b2)), (3, .int 2), (2, .int 2), (0, .ref 64), (1, .int (xs 1))], [.ref 64], (jzv263 b0 b1 b2 b3)) : jS)) rfl ?_
  refine jl_s (S' := ((146, [(4, .int (b2)), (3, .int 2), (2, .int 2), (0, .ref 64), (1, .int (xs 1))], [.ref 64, .ref 64], (jzv263 b0 b1 b2 b3)) : jS)) rfl ?_
  refine jl_s (S' := ((149, [(4, .int (b2)), (3, .int 2), (2, .int 2), (0, .ref 64), (1, .int (xs 1))], [.int 0, .ref 64], (jzv263 b0 b1 b2 b3)) : jS)) rfl ?_
  refine jl_s (S' := ((150, [(4, .int (b2)), (3, .int 2), (2, .int 2), (0, .ref 64), (1, .int (xs 1))], [.int 1, .int 0, .ref 64], (jzv263 b0 b1 b2 b3)) : jS)) rfl ?_
  refine jl_s (S' := ((151, [(4, .int (b2)), (3, .int 2), (2, .int 2), (0, .ref 64), (1, .int (xs 1))], [.int 1, .ref 64], (jzv263 b0 b1 b2 b3)) : jS)) rfl ?_
  refine jl_s (S' := ((154, [(4, .int (b2)), (3, .int 2), (2, .int 2), (0, .ref 64), (1, .int (xs 1))], [], (jzv264 b0 b1 b2 b3)) : jS)) rfl ?_
  refine jl_s (S' := ((157, [(3, .int 3), (4, .int (b2)), (2, .int 2), (0, .ref 64), (1, .int (xs 1))], [], (jzv264 b0 b1 b2 b3)) : jS)) rfl ?_
  refine jl_s (S' := ((100, [(3, .int 3), (4, .int (b2)), (2, .int 2), (0, .ref 64), (1, .int (xs 1))], [], (jzv264 b0 b1 b2 b3)) : jS)) rfl ?_
  exact hq
def jzc184 (b0 b1 b2 b3 : Int32) : jC := .inl (0, 3000, .inl (upd (upd (fun _ => 0) 0 (vp_nar .byte ((b2).toInt8.toInt32))) 1 (vp_nar .byte ((b3).toInt8.toInt32))))
def jzv265 (b0 b1 b2 b3 : Int32) : jH := [jzc182, (jzc184 b0 b1 b2 b3), jzc117, jzc7, jzc9, jzc9, jzc9, jzc9, jzc9, jzc17, jzc19, jzc19, jzc19, jzc19, jzc19, jzc19, jzc19, jzc19, jzc28, jzc28, jzc28, jzc28, jzc28, jzc28, jzc28, jzc28, jzc28, jzc28, jzc28, jzc28, jzc28, jzc28, jzc43, jzc43, jzc43, jzc43, jzc43, jzc49, jzc49, jzc52, jzc52, jzc52, jzc56, jzc56, jzc59, jzc56, jzc62, jzc28, jzc28, jzc28, jzc28, jzc28, jzc69, jzc71, jzc73, jzc43, jzc76, jzc52, jzc52, jzc80, jzc80, jzc80, jzc84, jzc52, jzc52, jzc52, jzc52, jzc52, jzc52, jzc52, jzc93, jzc93, jzc52, jzc52, jzc98, jzc100, jzc93, jzc52, jzc52, jzc52, jzc52, jzc107, jzc109, jzc111, jzc100, jzc100, jzc100, jzc111, jzc111, jzc118]
def jzc185 : jC := .inr (0, [.ref 65, .int 2, .int 0, .int (-1), .int (-1), .null, .null])
def jzv266 (b0 b1 b2 b3 : Int32) : jH := [jzc185, (jzc184 b0 b1 b2 b3), jzc117, jzc7, jzc9, jzc9, jzc9, jzc9, jzc9, jzc17, jzc19, jzc19, jzc19, jzc19, jzc19, jzc19, jzc19, jzc19, jzc28, jzc28, jzc28, jzc28, jzc28, jzc28, jzc28, jzc28, jzc28, jzc28, jzc28, jzc28, jzc28, jzc28, jzc43, jzc43, jzc43, jzc43, jzc43, jzc49, jzc49, jzc52, jzc52, jzc52, jzc56, jzc56, jzc59, jzc56, jzc62, jzc28, jzc28, jzc28, jzc28, jzc28, jzc69, jzc71, jzc73, jzc43, jzc76, jzc52, jzc52, jzc80, jzc80, jzc80, jzc84, jzc52, jzc52, jzc52, jzc52, jzc52, jzc52, jzc52, jzc93, jzc93, jzc52, jzc52, jzc98, jzc100, jzc93, jzc52, jzc52, jzc52, jzc52, jzc107, jzc109, jzc111, jzc100, jzc100, jzc100, jzc111, jzc111, jzc118]
set_option maxHeartbeats 4000000 in
set_option maxRecDepth 100000 in
theorem jzq326 (xs : Nat → Int32) (b0 b1 b2 b3 : Int32) (e : ((Int32.toUInt32 (xs 1) >>> (Int32.toUInt32 24 &&& Int32.toUInt32 31)).toInt32) &&& 255 = b3) (h : jbn b3) {f : Nat} {q : jO × jH} (hq : jLoop (jRun ((4, xs) : jX) 2000 37) ((4, xs) : jX) jm20 f ((100, [(3, .int 4), (4, .int (b3)), (2, .int 2), (0, .ref 64), (1, .int (xs 1))], [], (jzv266 b0 b1 b2 b3)) : jS) = some q) : jLoop (jRun ((4, xs) : jX) 2000 37) ((4, xs) : jX) jm20 (f + 32) ((100, [(3, .int 3), (4, .int (b2)), (2, .int 2), (0, .ref 64), (1, .int (xs 1))], [], (jzv264 b0 b1 b2 b3)) : jS) = some q := by
  refine jl_s (S' := ((101, [(3, .int 3), (4, .int (b2)), (2, .int 2), (0, .ref 64), (1, .int (xs 1))], [.int 3], (jzv264 b0 b1 b2 b3)) : jS)) rfl ?_
  refine jl_s (S' := ((102, [(3, .int 3), (4, .int (b2)), (2, .int 2), (0, .ref 64), (1, .int (xs 1))], [.int 4, .int 3], (jzv264 b0 b1 b2 b3)) : jS)) rfl ?_
  refine jl_s (S' := ((105, [(3, .int 3), (4, .int (b2)), (2, .int 2), (0, .ref 64), (1, .int (xs 1))], [], (jzv264 b0 b1 b2 b3)) : jS)) rfl ?_
  refine jl_s (S' := ((106, [(3, .int 3), (4, .int (b2)), (2, .int 2), (0, .ref 64), (1, .int (xs 1))], [.int (xs 1)], (jzv264 b0 b1 b2 b3)) : jS)) rfl ?_
  refine jl_s (S' := ((108, [(3, .int 3), (4, .int (b2)), (2, .int 2), (0, .ref 64), (1, .int (xs 1))], [.int 8, .int (xs 1)], (jzv264 b0 b1 b2 b3)) : jS)) rfl ?_
  refine jl_s (S' := ((109, [(3, .int 3), (4, .int (b2)), (2, .int 2), (0, .ref 64), (1, .int (xs 1))], [.int 3, .int 8, .int (xs 1)], (jzv264 b0 b1 b2 b3)) : jS)) rfl ?_
  refine jl_s (S' := ((110, [(3, .int 3), (4, .int (b2)), (2, .int 2), (0, .ref 64), (1, .int (xs 1))], [.int 24, .int (xs 1)], (jzv264 b0 b1 b2 b3)) : jS)) rfl ?_
  refine jl_s (S' := ((111, [(3, .int 3), (4, .int (b2)), (2, .int 2), (0, .ref 64), (1, .int (xs 1))], [.int ((Int32.toUInt32 (xs 1) >>> (Int32.toUInt32 24 &&& Int32.toUInt32 31)).toInt32)], (jzv264 b0 b1 b2 b3)) : jS)) rfl ?_
  refine jl_s (S' := ((114, [(3, .int 3), (4, .int (b2)), (2, .int 2), (0, .ref 64), (1, .int (xs 1))], [.int 255, .int ((Int32.toUInt32 (xs 1) >>> (Int32.toUInt32 24 &&& Int32.toUInt32 31)).toInt32)], (jzv264 b0 b1 b2 b3)) : jS)) rfl ?_
  refine jl_s (S' := ((115, [(3, .int 3), (4, .int (b2)), (2, .int 2), (0, .ref 64), (1, .int (xs 1))], [.int (((Int32.toUInt32 (xs 1) >>> (Int32.toUInt32 24 &&& Int32.toUInt32 31)).toInt32) &&& 255)], (jzv264 b0 b1 b2 b3)) : jS)) rfl ?_
  rw [e]
  refine jl_s (S' := ((117, [(4, .int (b3)), (3, .int 3), (2, .int 2), (0, .ref 64), (1, .int (xs 1))], [], (jzv264 b0 b1 b2 b3)) : jS)) rfl ?_
  refine jl_s (S' := ((119, [(4, .int (b3)), (3, .int 3), (2, .int 2), (0, .ref 64), (1, .int (xs 1))], [.int (b3)], (jzv264 b0 b1 b2 b3)) : jS)) rfl ?_
  refine jl_iff (e := jm20) (o := 35) rfl (h.1) ?_
  refine jl_s (S' := ((123, [(4, .int (b3)), (3, .int 3), (2, .int 2), (0, .ref 64), (1, .int (xs 1))], [.ref 64], (jzv264 b0 b1 b2 b3)) : jS)) rfl ?_
  refine jl_s (S' := ((126, [(4, .int (b3)), (3, .int 3), (2, .int 2), (0, .ref 64), (1, .int (xs 1))], [.int 1], (jzv264 b0 b1 b2 b3)) : jS)) rfl ?_
  refine jl_s (S' := ((129, [(4, .int (b3)), (3, .int 3), (2, .int 2), (0, .ref 64), (1, .int (xs 1))], [.int 3000, .int 1], (jzv264 b0 b1 b2 b3)) : jS)) rfl ?_
  refine jl_s (S' := ((132, [(4, .int (b3)), (3, .int 3), (2, .int 2), (0, .ref 64), (1, .int (xs 1))], [], (jzv264 b0 b1 b2 b3)) : jS)) rfl ?_
  refine jl_s (S' := ((133, [(4, .int (b3)), (3, .int 3), (2, .int 2), (0, .ref 64), (1, .int (xs 1))], [.ref 64], (jzv264 b0 b1 b2 b3)) : jS)) rfl ?_
  refine jl_s (S' := ((136, [(4, .int (b3)), (3, .int 3), (2, .int 2), (0, .ref 64), (1, .int (xs 1))], [.ref 65], (jzv264 b0 b1 b2 b3)) : jS)) rfl ?_
  refine jl_s (S' := ((137, [(4, .int (b3)), (3, .int 3), (2, .int 2), (0, .ref 64), (1, .int (xs 1))], [.ref 64, .ref 65], (jzv264 b0 b1 b2 b3)) : jS)) rfl ?_
  refine jl_s (S' := ((140, [(4, .int (b3)), (3, .int 3), (2, .int 2), (0, .ref 64), (1, .int (xs 1))], [.int 1, .ref 65], (jzv264 b0 b1 b2 b3)) : jS)) rfl ?_
  refine jl_s (S' := ((142, [(4, .int (b3)), (3, .int 3), (2, .int 2), (0, .ref 64), (1, .int (xs 1))], [.int (b3), .int 1, .ref 65], (jzv264 b0 b1 b2 b3)) : jS)) rfl ?_
  refine jl_s (S' := ((143, [(4, .int (b3)), (3, .int 3), (2, .int 2), (0, .ref 64), (1, .int (xs 1))], [.int ((b3).toInt8.toInt32), .int 1, .ref 65], (jzv264 b0 b1 b2 b3)) : jS)) rfl ?_
  refine jl_s (S' := ((144, [(4, .int (b3)), (3, .int 3), (2, .int 2), (0, .ref 64), (1, .int (xs 1))], [], (jzv265 b0 b1 b2 b3)) : jS)) rfl ?_
  refine jl_s (S' := ((145, [(4, .int (b3)), (3, .int 3), (2, .int 2), (0, .ref 64), (1, .int (xs 1))], [.ref 64], (jzv265 b0 b1 b2 b3)) : jS)) rfl ?_
  refine jl_s (S' := ((146, [(4, .int (b3)), (3, .int 3), (2, .int 2), (0, .ref 64), (1, .int (xs 1))], [.ref 64, .ref 64], (jzv265 b0 b1 b2 b3)) : jS)) rfl ?_
  refine jl_s (S' := ((149, [(4, .int (b3)), (3, .int 3), (2, .int 2), (0, .ref 64), (1, .int (xs 1))], [.int 1, .ref 64], (jzv265 b0 b1 b2 b3)) : jS)) rfl ?_
  refine jl_s (S' := ((150, [(4, .int (b3)), (3, .int 3), (2, .int 2), (0, .ref 64), (1, .int (xs 1))], [.int 1, .int 1, .ref 64], (jzv265 b0 b1 b2 b3)) : jS)) rfl ?_
  refine jl_s (S' := ((151, [(4, .int (b3)), (3, .int 3), (2, .int 2), (0, .ref 64), (1, .int (xs 1))], [.int 2, .ref 64], (jzv265 b0 b1 b2 b3)) : jS)) rfl ?_
  refine jl_s (S' := ((154, [(4, .int (b3)), (3, .int 3), (2, .int 2), (0, .ref 64), (1, .int (xs 1))], [], (jzv266 b0 b1 b2 b3)) : jS)) rfl ?_
  refine jl_s (S' := ((157, [(3, .int 4), (4, .int (b3)), (2, .int 2), (0, .ref 64), (1, .int (xs 1))], [], (jzv266 b0 b1 b2 b3)) : jS)) rfl ?_
  refine jl_s (S' := ((100, [(3, .int 4), (4, .int (b3)), (2, .int 2), (0, .ref 64), (1, .int (xs 1))], [], (jzv266 b0 b1 b2 b3)) : jS)) rfl ?_
  exact hq
set_option maxHeartbeats 4000000 in
set_option maxRecDepth 100000 in
theorem jzq328 (xs : Nat → Int32) (b0 b1 b2 b3 : Int32) {f : Nat} : jLoop (jRun ((4, xs) : jX) 2000 37) ((4, xs) : jX) jm20 (f + 6) ((100, [(3, .int 4), (4, .int (b3)), (2, .int 2), (0, .ref 64), (1, .int (xs 1))], [], (jzv266 b0 b1 b2 b3)) : jS) = some (.inl (some (.int 2)), (jzv266 b0 b1 b2 b3)) := by
  refine jl_s (S' := ((101, [(3, .int 4), (4, .int (b3)), (2, .int 2), (0, .ref 64), (1, .int (xs 1))], [.int 4], (jzv266 b0 b1 b2 b3)) : jS)) rfl ?_
  refine jl_s (S' := ((102, [(3, .int 4), (4, .int (b3)), (2, .int 2), (0, .ref 64), (1, .int (xs 1))], [.int 4, .int 4], (jzv266 b0 b1 b2 b3)) : jS)) rfl ?_
  refine jl_s (S' := ((160, [(3, .int 4), (4, .int (b3)), (2, .int 2), (0, .ref 64), (1, .int (xs 1))], [], (jzv266 b0 b1 b2 b3)) : jS)) rfl ?_
  refine jl_s (S' := ((161, [(3, .int 4), (4, .int (b3)), (2, .int 2), (0, .ref 64), (1, .int (xs 1))], [.ref 64], (jzv266 b0 b1 b2 b3)) : jS)) rfl ?_
  refine jl_s (S' := ((164, [(3, .int 4), (4, .int (b3)), (2, .int 2), (0, .ref 64), (1, .int (xs 1))], [.int 2], (jzv266 b0 b1 b2 b3)) : jS)) rfl ?_
  exact jl_r (r := (.inl (some (.int 2)), (jzv266 b0 b1 b2 b3))) rfl
set_option maxHeartbeats 4000000 in
set_option maxRecDepth 100000 in
theorem jzcp_ZZVV (xs : Nat → Int32) (b0 b1 b2 b3 : Int32) (e0 : ((Int32.toUInt32 (xs 1) >>> (Int32.toUInt32 0 &&& Int32.toUInt32 31)).toInt32) &&& 255 = b0) (e1 : ((Int32.toUInt32 (xs 1) >>> (Int32.toUInt32 8 &&& Int32.toUInt32 31)).toInt32) &&& 255 = b1) (e2 : ((Int32.toUInt32 (xs 1) >>> (Int32.toUInt32 16 &&& Int32.toUInt32 31)).toInt32) &&& 255 = b2) (e3 : ((Int32.toUInt32 (xs 1) >>> (Int32.toUInt32 24 &&& Int32.toUInt32 31)).toInt32) &&& 255 = b3) (h0 : jbz b0) (h1 : jbz b1) (h2 : jbv b2) (h3 : jbv b3) : jRun ((4, xs) : jX) 2000 38 20 [.ref 64, .int (xs 1)] jzv181 = some (.inl (some (.int 2)), (jzv266 b0 b1 b2 b3)) := by
  refine jr_run (e := jm20) rfl (Nat.le_of_ble_eq_true rfl) ?_
  refine jzq267 xs b0 b1 b2 b3 ?_
  refine jzq269 xs b0 b1 b2 b3 e0 h0 ?_
  refine jzq271 xs b0 b1 b2 b3 e1 h1 ?_
  refine jzq305 xs b0 b1 b2 b3 e2 h2 ?_
  refine jzq316 xs b0 b1 b2 b3 e3 h3 ?_
  refine jzq318 xs b0 b1 b2 b3 ?_
  refine jzq320 xs b0 b1 b2 b3 e0 h0 ?_
  refine jzq322 xs b0 b1 b2 b3 e1 h1 ?_
  refine jzq324 xs b0 b1 b2 b3 e2 h2.1 ?_
  refine jzq326 xs b0 b1 b2 b3 e3 h3.1 ?_
  exact jzq328 xs b0 b1 b2 b3
set_option maxHeartbeats 4000000 in
set_option maxRecDepth 100000 in
theorem jzq331 (xs : Nat → Int32) (b0 b1 b2 b3 : Int32) (e : ((Int32.toUInt32 (xs 1) >>> (Int32.toUInt32 8 &&& Int32.toUInt32 31)).toInt32) &&& 255 = b1) (h : jbv b1) {f : Nat} {q : jO × jH} (hq : jLoop (jRun ((4, xs) : jX) 2000 37) ((4, xs) : jX) jm20 f ((4, [(3, .int 2), (2, .int 1), (4, .int (b1)), (0, .ref 64), (1, .int (xs 1))], [], jzv181) : jS) = some q) : jLoop (jRun ((4, xs) : jX) 2000 37) ((4, xs) : jX) jm20 (f + 30) ((4, [(3, .int 1), (2, .int 0), (4, .int (b0)), (0, .ref 64), (1, .int (xs 1))], [], jzv181) : jS) = some q := by
  rcases h.2 with h1 | ⟨h1, h2, h3, h4⟩
  · refine jl_s (S' := ((5, [(3, .int 1), (2, .int 0), (4, .int (b0)), (0, .ref 64), (1, .int (xs 1))], [.int 1], jzv181) : jS)) rfl ?_
    refine jl_s (S' := ((6, [(3, .int 1), (2, .int 0), (4, .int (b0)), (0, .ref 64), (1, .int (xs 1))], [.int 4, .int 1], jzv181) : jS)) rfl ?_
    refine jl_s (S' := ((9, [(3, .int 1), (2, .int 0), (4, .int (b0)), (0, .ref 64), (1, .int (xs 1))], [], jzv181) : jS)) rfl ?_
    refine jl_s (S' := ((10, [(3, .int 1), (2, .int 0), (4, .int (b0)), (0, .ref 64), (1, .int (xs 1))], [.int (xs 1)], jzv181) : jS)) rfl ?_
    refine jl_s (S' := ((12, [(3, .int 1), (2, .int 0), (4, .int (b0)), (0, .ref 64), (1, .int (xs 1))], [.int 8, .int (xs 1)], jzv181) : jS)) rfl ?_
    refine jl_s (S' := ((13, [(3, .int 1), (2, .int 0), (4, .int (b0)), (0, .ref 64), (1, .int (xs 1))], [.int 1, .int 8, .int (xs 1)], jzv181) : jS)) rfl ?_
    refine jl_s (S' := ((14, [(3, .int 1), (2, .int 0), (4, .int (b0)), (0, .ref 64), (1, .int (xs 1))], [.int 8, .int (xs 1)], jzv181) : jS)) rfl ?_
    refine jl_s (S' := ((15, [(3, .int 1), (2, .int 0), (4, .int (b0)), (0, .ref 64), (1, .int (xs 1))], [.int ((Int32.toUInt32 (xs 1) >>> (Int32.toUInt32 8 &&& Int32.toUInt32 31)).toInt32)], jzv181) : jS)) rfl ?_
    refine jl_s (S' := ((18, [(3, .int 1), (2, .int 0), (4, .int (b0)), (0, .ref 64), (1, .int (xs 1))], [.int 255, .int ((Int32.toUInt32 (xs 1) >>> (Int32.toUInt32 8 &&& Int32.toUInt32 31)).toInt32)], jzv181) : jS)) rfl ?_
    refine jl_s (S' := ((19, [(3, .int 1), (2, .int 0), (4, .int (b0)), (0, .ref 64), (1, .int (xs 1))], [.int (((Int32.toUInt32 (xs 1) >>> (Int32.toUInt32 8 &&& Int32.toUInt32 31)).toInt32) &&& 255)], jzv181) : jS)) rfl ?_
    rw [e]
    refine jl_s (S' := ((21, [(4, .int (b1)), (3, .int 1), (2, .int 0), (0, .ref 64), (1, .int (xs 1))], [], jzv181) : jS)) rfl ?_
    refine jl_s (S' := ((23, [(4, .int (b1)), (3, .int 1), (2, .int 0), (0, .ref 64), (1, .int (xs 1))], [.int (b1)], jzv181) : jS)) rfl ?_
    refine jl_iff (e := jm20) (o := 34) rfl (h.1.1) ?_
    refine jl_s (S' := ((28, [(4, .int (b1)), (3, .int 1), (2, .int 0), (0, .ref 64), (1, .int (xs 1))], [.int (b1)], jzv181) : jS)) rfl ?_
    refine jl_s (S' := ((30, [(4, .int (b1)), (3, .int 1), (2, .int 0), (0, .ref 64), (1, .int (xs 1))], [.int 10, .int (b1)], jzv181) : jS)) rfl ?_
    refine jl_ict (e := jm20) (o := 27) rfl (h1) (t := 57) rfl ?_
    refine jl_s (S' := ((58, [(4, .int (b1)), (3, .int 1), (2, .int 0), (0, .ref 64), (1, .int (xs 1))], [.int 0], jzv181) : jS)) rfl ?_
    refine jl_s (S' := ((60, [(4, .int (b1)), (3, .int 1), (2, .int 0), (0, .ref 64), (1, .int (xs 1))], [.int (b1), .int 0], jzv181) : jS)) rfl ?_
    refine jl_ift (e := jm20) (o := 7) rfl (h.1.2) (t := 67) rfl ?_
    refine jl_s (S' := ((68, [(4, .int (b1)), (3, .int 1), (2, .int 0), (0, .ref 64), (1, .int (xs 1))], [.int 1, .int 0], jzv181) : jS)) rfl ?_
    refine jl_s (S' := ((69, [(4, .int (b1)), (3, .int 1), (2, .int 0), (0, .ref 64), (1, .int (xs 1))], [.int 1], jzv181) : jS)) rfl ?_
    refine jl_s (S' := ((70, [(2, .int 1), (4, .int (b1)), (3, .int 1), (0, .ref 64), (1, .int (xs 1))], [], jzv181) : jS)) rfl ?_
    refine jl_s (S' := ((73, [(3, .int 2), (2, .int 1), (4, .int (b1)), (0, .ref 64), (1, .int (xs 1))], [], jzv181) : jS)) rfl ?_
    refine jl_s (S' := ((4, [(3, .int 2), (2, .int 1), (4, .int (b1)), (0, .ref 64), (1, .int (xs 1))], [], jzv181) : jS)) rfl ?_
    exact jl_more hq
  · refine jl_s (S' := ((5, [(3, .int 1), (2, .int 0), (4, .int (b0)), (0, .ref 64), (1, .int (xs 1))], [.int 1], jzv181) : jS)) rfl ?_
    refine jl_s (S' := ((6, [(3, .int 1), (2, .int 0), (4, .int (b0)), (0, .ref 64), (1, .int (xs 1))], [.int 4, .int 1], jzv181) : jS)) rfl ?_
    refine jl_s (S' := ((9, [(3, .int 1), (2, .int 0), (4, .int (b0)), (0, .ref 64), (1, .int (xs 1))], [], jzv181) : jS)) rfl ?_
    refine jl_s (S' := ((10, [(3, .int 1), (2, .int 0), (4, .int (b0)), (0, .ref 64), (1, .int (xs 1))], [.int (xs 1)], jzv181) : jS)) rfl ?_
    refine jl_s (S' := ((12, [(3, .int 1), (2, .int 0), (4, .int (b0)), (0, .ref 64), (1, .int (xs 1))], [.int 8, .int (xs 1)], jzv181) : jS)) rfl ?_
    refine jl_s (S' := ((13, [(3, .int 1), (2, .int 0), (4, .int (b0)), (0, .ref 64), (1, .int (xs 1))], [.int 1, .int 8, .int (xs 1)], jzv181) : jS)) rfl ?_
    refine jl_s (S' := ((14, [(3, .int 1), (2, .int 0), (4, .int (b0)), (0, .ref 64), (1, .int (xs 1))], [.int 8, .int (xs 1)], jzv181) : jS)) rfl ?_
    refine jl_s (S' := ((15, [(3, .int 1), (2, .int 0), (4, .int (b0)), (0, .ref 64), (1, .int (xs 1))], [.int ((Int32.toUInt32 (xs 1) >>> (Int32.toUInt32 8 &&& Int32.toUInt32 31)).toInt32)], jzv181) : jS)) rfl ?_
    refine jl_s (S' := ((18, [(3, .int 1), (2, .int 0), (4, .int (b0)), (0, .ref 64), (1, .int (xs 1))], [.int 255, .int ((Int32.toUInt32 (xs 1) >>> (Int32.toUInt32 8 &&& Int32.toUInt32 31)).toInt32)], jzv181) : jS)) rfl ?_
    refine jl_s (S' := ((19, [(3, .int 1), (2, .int 0), (4, .int (b0)), (0, .ref 64), (1, .int (xs 1))], [.int (((Int32.toUInt32 (xs 1) >>> (Int32.toUInt32 8 &&& Int32.toUInt32 31)).toInt32) &&& 255)], jzv181) : jS)) rfl ?_
    rw [e]
    refine jl_s (S' := ((21, [(4, .int (b1)), (3, .int 1), (2, .int 0), (0, .ref 64), (1, .int (xs 1))], [], jzv181) : jS)) rfl ?_
    refine jl_s (S' := ((23, [(4, .int (b1)), (3, .int 1), (2, .int 0), (0, .ref 64), (1, .int (xs 1))], [.int (b1)], jzv181) : jS)) rfl ?_
    refine jl_iff (e := jm20) (o := 34) rfl (h.1.1) ?_
    refine jl_s (S' := ((28, [(4, .int (b1)), (3, .int 1), (2, .int 0), (0, .ref 64), (1, .int (xs 1))], [.int (b1)], jzv181) : jS)) rfl ?_
    refine jl_s (S' := ((30, [(4, .int (b1)), (3, .int 1), (2, .int 0), (0, .ref 64), (1, .int (xs 1))], [.int 10, .int (b1)], jzv181) : jS)) rfl ?_
    refine jl_icf (e := jm20) (o := 27) rfl (h1) ?_
    refine jl_s (S' := ((35, [(4, .int (b1)), (3, .int 1), (2, .int 0), (0, .ref 64), (1, .int (xs 1))], [.int (b1)], jzv181) : jS)) rfl ?_
    refine jl_s (S' := ((37, [(4, .int (b1)), (3, .int 1), (2, .int 0), (0, .ref 64), (1, .int (xs 1))], [.int 32, .int (b1)], jzv181) : jS)) rfl ?_
    refine jl_icf (e := jm20) (o := 10) rfl (h2) ?_
    refine jl_s (S' := ((42, [(4, .int (b1)), (3, .int 1), (2, .int 0), (0, .ref 64), (1, .int (xs 1))], [.int (b1)], jzv181) : jS)) rfl ?_
    refine jl_s (S' := ((44, [(4, .int (b1)), (3, .int 1), (2, .int 0), (0, .ref 64), (1, .int (xs 1))], [.int 126, .int (b1)], jzv181) : jS)) rfl ?_
    refine jl_ict (e := jm20) (o := 13) rfl (h3) (t := 57) rfl ?_
    refine jl_s (S' := ((58, [(4, .int (b1)), (3, .int 1), (2, .int 0), (0, .ref 64), (1, .int (xs 1))], [.int 0], jzv181) : jS)) rfl ?_
    refine jl_s (S' := ((60, [(4, .int (b1)), (3, .int 1), (2, .int 0), (0, .ref 64), (1, .int (xs 1))], [.int (b1), .int 0], jzv181) : jS)) rfl ?_
    refine jl_ift (e := jm20) (o := 7) rfl (h.1.2) (t := 67) rfl ?_
    refine jl_s (S' := ((68, [(4, .int (b1)), (3, .int 1), (2, .int 0), (0, .ref 64), (1, .int (xs 1))], [.int 1, .int 0], jzv181) : jS)) rfl ?_
    refine jl_s (S' := ((69, [(4, .int (b1)), (3, .int 1), (2, .int 0), (0, .ref 64), (1, .int (xs 1))], [.int 1], jzv181) : jS)) rfl ?_
    refine jl_s (S' := ((70, [(2, .int 1), (4, .int (b1)), (3, .int 1), (0, .ref 64), (1, .int (xs 1))], [], jzv181) : jS)) rfl ?_
    refine jl_s (S' := ((73, [(3, .int 2), (2, .int 1), (4, .int (b1)), (0, .ref 64), (1, .int (xs 1))], [], jzv181) : jS)) rfl ?_
    refine jl_s (S' := ((4, [(3, .int 2), (2, .int 1), (4, .int (b1)), (0, .ref 64), (1, .int (xs 1))], [], jzv181) : jS)) rfl ?_
    exact hq
set_option maxHeartbeats 4000000 in
set_option maxRecDepth 100000 in
theorem jzq333 (xs : Nat → Int32) (b0 b1 b2 b3 : Int32) (e : ((Int32.toUInt32 (xs 1) >>> (Int32.toUInt32 16 &&& Int32.toUInt32 31)).toInt32) &&& 255 = b2) (h : jbz b2) {f : Nat} {q : jO × jH} (hq : jLoop (jRun ((4, xs) : jX) 2000 37) ((4, xs) : jX) jm20 f ((4, [(3, .int 3), (2, .int 1), (4, .int (b2)), (0, .ref 64), (1, .int (xs 1))], [], jzv181) : jS) = some q) : jLoop (jRun ((4, xs) : jX) 2000 37) ((4, xs) : jX) jm20 (f + 22) ((4, [(3, .int 2), (2, .int 1), (4, .int (b1)), (0, .ref 64), (1, .int (xs 1))], [], jzv181) : jS) = some q := by
  refine jl_s (S' := ((5, [(3, .int 2), (2, .int 1), (4, .int (b1)), (0, .ref 64), (1, .int (xs 1))], [.int 2], jzv181) : jS)) rfl ?_
  refine jl_s (S' := ((6, [(3, .int 2), (2, .int 1), (4, .int (b1)), (0, .ref 64), (1, .int (xs 1))], [.int 4, .int 2], jzv181) : jS)) rfl ?_
  refine jl_s (S' := ((9, [(3, .int 2), (2, .int 1), (4, .int (b1)), (0, .ref 64), (1, .int (xs 1))], [], jzv181) : jS)) rfl ?_
  refine jl_s (S' := ((10, [(3, .int 2), (2, .int 1), (4, .int (b1)), (0, .ref 64), (1, .int (xs 1))], [.int (xs 1)], jzv181) : jS)) rfl ?_
  refine jl_s (S' := ((12, [(3, .int 2), (2, .int 1), (4, .int (b1)), (0, .ref 64), (1, .int (xs 1))], [.int 8, .int (xs 1)], jzv181) : jS)) rfl ?_
  refine jl_s (S' := ((13, [(3, .int 2), (2, .int 1), (4, .int (b1)), (0, .ref 64), (1, .int (xs 1))], [.int 2, .int 8, .int (xs 1)], jzv181) : jS)) rfl ?_
  refine jl_s (S' := ((14, [(3, .int 2), (2, .int 1), (4, .int (b1)), (0, .ref 64), (1, .int (xs 1))], [.int 16, .int (xs 1)], jzv181) : jS)) rfl ?_
  refine jl_s (S' := ((15, [(3, .int 2), (2, .int 1), (4, .int (b1)), (0, .ref 64), (1, .int (xs 1))], [.int ((Int32.toUInt32 (xs 1) >>> (Int32.toUInt32 16 &&& Int32.toUInt32 31)).toInt32)], jzv181) : jS)) rfl ?_
  refine jl_s (S' := ((18, [(3, .int 2), (2, .int 1), (4, .int (b1)), (0, .ref 64), (1, .int (xs 1))], [.int 255, .int ((Int32.toUInt32 (xs 1) >>> (Int32.toUInt32 16 &&& Int32.toUInt32 31)).toInt32)], jzv181) : jS)) rfl ?_
  refine jl_s (S' := ((19, [(3, .int 2), (2, .int 1), (4, .int (b1)), (0, .ref 64), (1, .int (xs 1))], [.int (((Int32.toUInt32 (xs 1) >>> (Int32.toUInt32 16 &&& Int32.toUInt32 31)).toInt32) &&& 255)], jzv181) : jS)) rfl ?_
  rw [e]
  refine jl_s (S' := ((21, [(4, .int (b2)), (3, .int 2), (2, .int 1), (0, .ref 64), (1, .int (xs 1))], [], jzv181) : jS)) rfl ?_
  refine jl_s (S' := ((23, [(4, .int (b2)), (3, .int 2), (2, .int 1), (0, .ref 64), (1, .int (xs 1))], [.int (b2)], jzv181) : jS)) rfl ?_
  refine jl_ift (e := jm20) (o := 34) rfl (h.1) (t := 57) rfl ?_
  refine jl_s (S' := ((58, [(4, .int (b2)), (3, .int 2), (2, .int 1), (0, .ref 64), (1, .int (xs 1))], [.int 1], jzv181) : jS)) rfl ?_
  refine jl_s (S' := ((60, [(4, .int (b2)), (3, .int 2), (2, .int 1), (0, .ref 64), (1, .int (xs 1))], [.int (b2), .int 1], jzv181) : jS)) rfl ?_
  refine jl_iff (e := jm20) (o := 7) rfl (h.2) ?_
  refine jl_s (S' := ((64, [(4, .int (b2)), (3, .int 2), (2, .int 1), (0, .ref 64), (1, .int (xs 1))], [.int 0, .int 1], jzv181) : jS)) rfl ?_
  refine jl_s (S' := ((68, [(4, .int (b2)), (3, .int 2), (2, .int 1), (0, .ref 64), (1, .int (xs 1))], [.int 0, .int 1], jzv181) : jS)) rfl ?_
  refine jl_s (S' := ((69, [(4, .int (b2)), (3, .int 2), (2, .int 1), (0, .ref 64), (1, .int (xs 1))], [.int 1], jzv181) : jS)) rfl ?_
  refine jl_s (S' := ((70, [(2, .int 1), (4, .int (b2)), (3, .int 2), (0, .ref 64), (1, .int (xs 1))], [], jzv181) : jS)) rfl ?_
  refine jl_s (S' := ((73, [(3, .int 3), (2, .int 1), (4, .int (b2)), (0, .ref 64), (1, .int (xs 1))], [], jzv181) : jS)) rfl ?_
  refine jl_s (S' := ((4, [(3, .int 3), (2, .int 1), (4, .int (b2)), (0, .ref 64), (1, .int (xs 1))], [], jzv181) : jS)) rfl ?_
  exact hq
def jzc186 (b0 b1 b2 b3 : Int32) : jC := .inl (0, 3000, .inl (upd (fun _ => 0) 0 (vp_nar .byte ((b1).toInt8.toInt32))))
def jzv267 (b0 b1 b2 b3 : Int32) : jH := [jzc5, (jzc186 b0 b1 b2 b3), jzc117, jzc7, jzc9, jzc9, jzc9, jzc9, jzc9, jzc17, jzc19, jzc19, jzc19, jzc19, jzc19, jzc19, jzc19, jzc19, jzc28, jzc28, jzc28, jzc28, jzc28, jzc28, jzc28, jzc28, jzc28, jzc28, jzc28, jzc28, jzc28, jzc28, jzc43, jzc43, jzc43, jzc43, jzc43, jzc49, jzc49, jzc52, jzc52, jzc52, jzc56, jzc56, jzc59, jzc56, jzc62, jzc28, jzc28, jzc28, jzc28, jzc28, jzc69, jzc71, jzc73, jzc43, jzc76, jzc52, jzc52, jzc80, jzc80, jzc80, jzc84, jzc52, jzc52, jzc52, jzc52, jzc52, jzc52, jzc52, jzc93, jzc93, jzc52, jzc52, jzc98, jzc100, jzc93, jzc52, jzc52, jzc52, jzc52, jzc107, jzc109, jzc111, jzc100, jzc100, jzc100, jzc111, jzc111, jzc118]
def jzv268 (b0 b1 b2 b3 : Int32) : jH := [jzc182, (jzc186 b0 b1 b2 b3), jzc117, jzc7, jzc9, jzc9, jzc9, jzc9, jzc9, jzc17, jzc19, jzc19, jzc19, jzc19, jzc19, jzc19, jzc19, jzc19, jzc28, jzc28, jzc28, jzc28, jzc28, jzc28, jzc28, jzc28, jzc28, jzc28, jzc28, jzc28, jzc28, jzc28, jzc43, jzc43, jzc43, jzc43, jzc43, jzc49, jzc49, jzc52, jzc52, jzc52, jzc56, jzc56, jzc59, jzc56, jzc62, jzc28, jzc28, jzc28, jzc28, jzc28, jzc69, jzc71, jzc73, jzc43, jzc76, jzc52, jzc52, jzc80, jzc80, jzc80, jzc84, jzc52, jzc52, jzc52, jzc52, jzc52, jzc52, jzc52, jzc93, jzc93, jzc52, jzc52, jzc98, jzc100, jzc93, jzc52, jzc52, jzc52, jzc52, jzc107, jzc109, jzc111, jzc100, jzc100, jzc100, jzc111, jzc111, jzc118]
set_option maxHeartbeats 4000000 in
set_option maxRecDepth 100000 in
theorem jzq335 (xs : Nat → Int32) (b0 b1 b2 b3 : Int32) (e : ((Int32.toUInt32 (xs 1) >>> (Int32.toUInt32 8 &&& Int32.toUInt32 31)).toInt32) &&& 255 = b1) (h : jbn b1) {f : Nat} {q : jO × jH} (hq : jLoop (jRun ((4, xs) : jX) 2000 37) ((4, xs) : jX) jm20 f ((100, [(3, .int 2), (4, .int (b1)), (2, .int 1), (0, .ref 64), (1, .int (xs 1))], [], (jzv268 b0 b1 b2 b3)) : jS) = some q) : jLoop (jRun ((4, xs) : jX) 2000 37) ((4, xs) : jX) jm20 (f + 32) ((100, [(3, .int 1), (4, .int (b0)), (2, .int 1), (0, .ref 64), (1, .int (xs 1))], [], jzv181) : jS) = some q := by
  refine jl_s (S' := ((101, [(3, .int 1), (4, .int (b0)), (2, .int 1), (0, .ref 64), (1, .int (xs 1))], [.int 1], jzv181) : jS)) rfl ?_
  refine jl_s (S' := ((102, [(3, .int 1), (4, .int (b0)), (2, .int 1), (0, .ref 64), (1, .int (xs 1))], [.int 4, .int 1], jzv181) : jS)) rfl ?_
  refine jl_s (S' := ((105, [(3, .int 1), (4, .int (b0)), (2, .int 1), (0, .ref 64), (1, .int (xs 1))], [], jzv181) : jS)) rfl ?_
  refine jl_s (S' := ((106, [(3, .int 1), (4, .int (b0)), (2, .int 1), (0, .ref 64), (1, .int (xs 1))], [.int (xs 1)], jzv181) : jS)) rfl ?_
  refine jl_s (S' := ((108, [(3, .int 1), (4, .int (b0)), (2, .int 1), (0, .ref 64), (1, .int (xs 1))], [.int 8, .int (xs 1)], jzv181) : jS)) rfl ?_
  refine jl_s (S' := ((109, [(3, .int 1), (4, .int (b0)), (2, .int 1), (0, .ref 64), (1, .int (xs 1))], [.int 1, .int 8, .int (xs 1)], jzv181) : jS)) rfl ?_
  refine jl_s (S' := ((110, [(3, .int 1), (4, .int (b0)), (2, .int 1), (0, .ref 64), (1, .int (xs 1))], [.int 8, .int (xs 1)], jzv181) : jS)) rfl ?_
  refine jl_s (S' := ((111, [(3, .int 1), (4, .int (b0)), (2, .int 1), (0, .ref 64), (1, .int (xs 1))], [.int ((Int32.toUInt32 (xs 1) >>> (Int32.toUInt32 8 &&& Int32.toUInt32 31)).toInt32)], jzv181) : jS)) rfl ?_
  refine jl_s (S' := ((114, [(3, .int 1), (4, .int (b0)), (2, .int 1), (0, .ref 64), (1, .int (xs 1))], [.int 255, .int ((Int32.toUInt32 (xs 1) >>> (Int32.toUInt32 8 &&& Int32.toUInt32 31)).toInt32)], jzv181) : jS)) rfl ?_
  refine jl_s (S' := ((115, [(3, .int 1), (4, .int (b0)), (2, .int 1), (0, .ref 64), (1, .int (xs 1))], [.int (((Int32.toUInt32 (xs 1) >>> (Int32.toUInt32 8 &&& Int32.toUInt32 31)).toInt32) &&& 255)], jzv181) : jS)) rfl ?_
  rw [e]
  refine jl_s (S' := ((117, [(4, .int (b1)), (3, .int 1), (2, .int 1), (0, .ref 64), (1, .int (xs 1))], [], jzv181) : jS)) rfl ?_
  refine jl_s (S' := ((119, [(4, .int (b1)), (3, .int 1), (2, .int 1), (0, .ref 64), (1, .int (xs 1))], [.int (b1)], jzv181) : jS)) rfl ?_
  refine jl_iff (e := jm20) (o := 35) rfl (h.1) ?_
  refine jl_s (S' := ((123, [(4, .int (b1)), (3, .int 1), (2, .int 1), (0, .ref 64), (1, .int (xs 1))], [.ref 64], jzv181) : jS)) rfl ?_
  refine jl_s (S' := ((126, [(4, .int (b1)), (3, .int 1), (2, .int 1), (0, .ref 64), (1, .int (xs 1))], [.int 0], jzv181) : jS)) rfl ?_
  refine jl_s (S' := ((129, [(4, .int (b1)), (3, .int 1), (2, .int 1), (0, .ref 64), (1, .int (xs 1))], [.int 3000, .int 0], jzv181) : jS)) rfl ?_
  refine jl_s (S' := ((132, [(4, .int (b1)), (3, .int 1), (2, .int 1), (0, .ref 64), (1, .int (xs 1))], [], jzv181) : jS)) rfl ?_
  refine jl_s (S' := ((133, [(4, .int (b1)), (3, .int 1), (2, .int 1), (0, .ref 64), (1, .int (xs 1))], [.ref 64], jzv181) : jS)) rfl ?_
  refine jl_s (S' := ((136, [(4, .int (b1)), (3, .int 1), (2, .int 1), (0, .ref 64), (1, .int (xs 1))], [.ref 65], jzv181) : jS)) rfl ?_
  refine jl_s (S' := ((137, [(4, .int (b1)), (3, .int 1), (2, .int 1), (0, .ref 64), (1, .int (xs 1))], [.ref 64, .ref 65], jzv181) : jS)) rfl ?_
  refine jl_s (S' := ((140, [(4, .int (b1)), (3, .int 1), (2, .int 1), (0, .ref 64), (1, .int (xs 1))], [.int 0, .ref 65], jzv181) : jS)) rfl ?_
  refine jl_s (S' := ((142, [(4, .int (b1)), (3, .int 1), (2, .int 1), (0, .ref 64), (1, .int (xs 1))], [.int (b1), .int 0, .ref 65], jzv181) : jS)) rfl ?_
  refine jl_s (S' := ((143, [(4, .int (b1)), (3, .int 1), (2, .int 1), (0, .ref 64), (1, .int (xs 1))], [.int ((b1).toInt8.toInt32), .int 0, .ref 65], jzv181) : jS)) rfl ?_
  refine jl_s (S' := ((144, [(4, .int (b1)), (3, .int 1), (2, .int 1), (0, .ref 64), (1, .int (xs 1))], [], (jzv267 b0 b1 b2 b3)) : jS)) rfl ?_
  refine jl_s (S' := ((145, [(4, .int (b1)), (3, .int 1), (2, .int 1), (0, .ref 64), (1, .int (xs 1))], [.ref 64], (jzv267 b0 b1 b2 b3)) : jS)) rfl ?_
  refine jl_s (S' := ((146, [(4, .int (b1)), (3, .int 1), (2, .int 1), (0, .ref 64), (1, .int (xs 1))], [.ref 64, .ref 64], (jzv267 b0 b1 b2 b3)) : jS)) rfl ?_
  refine jl_s (S' := ((149, [(4, .int (b1)), (3, .int 1), (2, .int 1), (0, .ref 64), (1, .int (xs 1))], [.int 0, .ref 64], (jzv267 b0 b1 b2 b3)) : jS)) rfl ?_
  refine jl_s (S' := ((150, [(4, .int (b1)), (3, .int 1), (2, .int 1), (0, .ref 64), (1, .int (xs 1))], [.int 1, .int 0, .ref 64], (jzv267 b0 b1 b2 b3)) : jS)) rfl ?_
  refine jl_s (S' := ((151, [(4, .int (b1)), (3, .int 1), (2, .int 1), (0, .ref 64), (1, .int (xs 1))], [.int 1, .ref 64], (jzv267 b0 b1 b2 b3)) : jS)) rfl ?_
  refine jl_s (S' := ((154, [(4, .int (b1)), (3, .int 1), (2, .int 1), (0, .ref 64), (1, .int (xs 1))], [], (jzv268 b0 b1 b2 b3)) : jS)) rfl ?_
  refine jl_s (S' := ((157, [(3, .int 2), (4, .int (b1)), (2, .int 1), (0, .ref 64), (1, .int (xs 1))], [], (jzv268 b0 b1 b2 b3)) : jS)) rfl ?_
  refine jl_s (S' := ((100, [(3, .int 2), (4, .int (b1)), (2, .int 1), (0, .ref 64), (1, .int (xs 1))], [], (jzv268 b0 b1 b2 b3)) : jS)) rfl ?_
  exact hq
set_option maxHeartbeats 4000000 in
set_option maxRecDepth 100000 in
theorem jzq337 (xs : Nat → Int32) (b0 b1 b2 b3 : Int32) (e : ((Int32.toUInt32 (xs 1) >>> (Int32.toUInt32 16 &&& Int32.toUInt32 31)).toInt32) &&& 255 = b2) (h : jbz b2) {f : Nat} {q : jO × jH} (hq : jLoop (jRun ((4, xs) : jX) 2000 37) ((4, xs) : jX) jm20 f ((100, [(3, .int 3), (4, .int (b2)), (2, .int 1), (0, .ref 64), (1, .int (xs 1))], [], (jzv268 b0 b1 b2 b3)) : jS) = some q) : jLoop (jRun ((4, xs) : jX) 2000 37) ((4, xs) : jX) jm20 (f + 15) ((100, [(3, .int 2), (4, .int (b1)), (2, .int 1), (0, .ref 64), (1, .int (xs 1))], [], (jzv268 b0 b1 b2 b3)) : jS) = some q := by
  refine jl_s (S' := ((101, [(3, .int 2), (4, .int (b1)), (2, .int 1), (0, .ref 64), (1, .int (xs 1))], [.int 2], (jzv268 b0 b1 b2 b3)) : jS)) rfl ?_
  refine jl_s (S' := ((102, [(3, .int 2), (4, .int (b1)), (2, .int 1), (0, .ref 64), (1, .int (xs 1))], [.int 4, .int 2], (jzv268 b0 b1 b2 b3)) : jS)) rfl ?_
  refine jl_s (S' := ((105, [(3, .int 2), (4, .int (b1)), (2, .int 1), (0, .ref 64), (1, .int (xs 1))], [], (jzv268 b0 b1 b2 b3)) : jS)) rfl ?_
  refine jl_s (S' := ((106, [(3, .int 2), (4, .int (b1)), (2, .int 1), (0, .ref 64), (1, .int (xs 1))], [.int (xs 1)], (jzv268 b0 b1 b2 b3)) : jS)) rfl ?_
  refine jl_s (S' := ((108, [(3, .int 2), (4, .int (b1)), (2, .int 1), (0, .ref 64), (1, .int (xs 1))], [.int 8, .int (xs 1)], (jzv268 b0 b1 b2 b3)) : jS)) rfl ?_
  refine jl_s (S' := ((109, [(3, .int 2), (4, .int (b1)), (2, .int 1), (0, .ref 64), (1, .int (xs 1))], [.int 2, .int 8, .int (xs 1)], (jzv268 b0 b1 b2 b3)) : jS)) rfl ?_
  refine jl_s (S' := ((110, [(3, .int 2), (4, .int (b1)), (2, .int 1), (0, .ref 64), (1, .int (xs 1))], [.int 16, .int (xs 1)], (jzv268 b0 b1 b2 b3)) : jS)) rfl ?_
  refine jl_s (S' := ((111, [(3, .int 2), (4, .int (b1)), (2, .int 1), (0, .ref 64), (1, .int (xs 1))], [.int ((Int32.toUInt32 (xs 1) >>> (Int32.toUInt32 16 &&& Int32.toUInt32 31)).toInt32)], (jzv268 b0 b1 b2 b3)) : jS)) rfl ?_
  refine jl_s (S' := ((114, [(3, .int 2), (4, .int (b1)), (2, .int 1), (0, .ref 64), (1, .int (xs 1))], [.int 255, .int ((Int32.toUInt32 (xs 1) >>> (Int32.toUInt32 16 &&& Int32.toUInt32 31)).toInt32)], (jzv268 b0 b1 b2 b3)) : jS)) rfl ?_
  refine jl_s (S' := ((115, [(3, .int 2), (4, .int (b1)), (2, .int 1), (0, .ref 64), (1, .int (xs 1))], [.int (((Int32.toUInt32 (xs 1) >>> (Int32.toUInt32 16 &&& Int32.toUInt32 31)).toInt32) &&& 255)], (jzv268 b0 b1 b2 b3)) : jS)) rfl ?_
  rw [e]
  refine jl_s (S' := ((117, [(4, .int (b2)), (3, .int 2), (2, .int 1), (0, .ref 64), (1, .int (xs 1))], [], (jzv268 b0 b1 b2 b3)) : jS)) rfl ?_
  refine jl_s (S' := ((119, [(4, .int (b2)), (3, .int 2), (2, .int 1), (0, .ref 64), (1, .int (xs 1))], [.int (b2)], (jzv268 b0 b1 b2 b3)) : jS)) rfl ?_
  refine jl_ift (e := jm20) (o := 35) rfl (h.1) (t := 154) rfl ?_
  refine jl_s (S' := ((157, [(3, .int 3), (4, .int (b2)), (2, .int 1), (0, .ref 64), (1, .int (xs 1))], [], (jzv268 b0 b1 b2 b3)) : jS)) rfl ?_
  refine jl_s (S' := ((100, [(3, .int 3), (4, .int (b2)), (2, .int 1), (0, .ref 64), (1, .int (xs 1))], [], (jzv268 b0 b1 b2 b3)) : jS)) rfl ?_
  exact hq
set_option maxHeartbeats 4000000 in
set_option maxRecDepth 100000 in
theorem jzq339 (xs : Nat → Int32) (b0 b1 b2 b3 : Int32) (e : ((Int32.toUInt32 (xs 1) >>> (Int32.toUInt32 24 &&& Int32.toUInt32 31)).toInt32) &&& 255 = b3) (h : jbz b3) {f : Nat} {q : jO × jH} (hq : jLoop (jRun ((4, xs) : jX) 2000 37) ((4, xs) : jX) jm20 f ((100, [(3, .int 4), (4, .int (b3)), (2, .int 1), (0, .ref 64), (1, .int (xs 1))], [], (jzv268 b0 b1 b2 b3)) : jS) = some q) : jLoop (jRun ((4, xs) : jX) 2000 37) ((4, xs) : jX) jm20 (f + 15) ((100, [(3, .int 3), (4, .int (b2)), (2, .int 1), (0, .ref 64), (1, .int (xs 1))], [], (jzv268 b0 b1 b2 b3)) : jS) = some q := by
  refine jl_s (S' := ((101, [(3, .int 3), (4, .int (b2)), (2, .int 1), (0, .ref 64), (1, .int (xs 1))], [.int 3], (jzv268 b0 b1 b2 b3)) : jS)) rfl ?_
  refine jl_s (S' := ((102, [(3, .int 3), (4, .int (b2)), (2, .int 1), (0, .ref 64), (1, .int (xs 1))], [.int 4, .int 3], (jzv268 b0 b1 b2 b3)) : jS)) rfl ?_
  refine jl_s (S' := ((105, [(3, .int 3), (4, .int (b2)), (2, .int 1), (0, .ref 64), (1, .int (xs 1))], [], (jzv268 b0 b1 b2 b3)) : jS)) rfl ?_
  refine jl_s (S' := ((106, [(3, .int 3), (4, .int (b2)), (2, .int 1), (0, .ref 64), (1, .int (xs 1))], [.int (xs 1)], (jzv268 b0 b1 b2 b3)) : jS)) rfl ?_
  refine jl_s (S' := ((108, [(3, .int 3), (4, .int (b2)), (2, .int 1), (0, .ref 64), (1, .int (xs 1))], [.int 8, .int (xs 1)], (jzv268 b0 b1 b2 b3)) : jS)) rfl ?_
  refine jl_s (S' := ((109, [(3, .int 3), (4, .int (b2)), (2, .int 1), (0, .ref 64), (1, .int (xs 1))], [.int 3, .int 8, .int (xs 1)], (jzv268 b0 b1 b2 b3)) : jS)) rfl ?_
  refine jl_s (S' := ((110, [(3, .int 3), (4, .int (b2)), (2, .int 1), (0, .ref 64), (1, .int (xs 1))], [.int 24, .int (xs 1)], (jzv268 b0 b1 b2 b3)) : jS)) rfl ?_
  refine jl_s (S' := ((111, [(3, .int 3), (4, .int (b2)), (2, .int 1), (0, .ref 64), (1, .int (xs 1))], [.int ((Int32.toUInt32 (xs 1) >>> (Int32.toUInt32 24 &&& Int32.toUInt32 31)).toInt32)], (jzv268 b0 b1 b2 b3)) : jS)) rfl ?_
  refine jl_s (S' := ((114, [(3, .int 3), (4, .int (b2)), (2, .int 1), (0, .ref 64), (1, .int (xs 1))], [.int 255, .int ((Int32.toUInt32 (xs 1) >>> (Int32.toUInt32 24 &&& Int32.toUInt32 31)).toInt32)], (jzv268 b0 b1 b2 b3)) : jS)) rfl ?_
  refine jl_s (S' := ((115, [(3, .int 3), (4, .int (b2)), (2, .int 1), (0, .ref 64), (1, .int (xs 1))], [.int (((Int32.toUInt32 (xs 1) >>> (Int32.toUInt32 24 &&& Int32.toUInt32 31)).toInt32) &&& 255)], (jzv268 b0 b1 b2 b3)) : jS)) rfl ?_
  rw [e]
  refine jl_s (S' := ((117, [(4, .int (b3)), (3, .int 3), (2, .int 1), (0, .ref 64), (1, .int (xs 1))], [], (jzv268 b0 b1 b2 b3)) : jS)) rfl ?_
  refine jl_s (S' := ((119, [(4, .int (b3)), (3, .int 3), (2, .int 1), (0, .ref 64), (1, .int (xs 1))], [.int (b3)], (jzv268 b0 b1 b2 b3)) : jS)) rfl ?_
  refine jl_ift (e := jm20) (o := 35) rfl (h.1) (t := 154) rfl ?_
  refine jl_s (S' := ((157, [(3, .int 4), (4, .int (b3)), (2, .int 1), (0, .ref 64), (1, .int (xs 1))], [], (jzv268 b0 b1 b2 b3)) : jS)) rfl ?_
  refine jl_s (S' := ((100, [(3, .int 4), (4, .int (b3)), (2, .int 1), (0, .ref 64), (1, .int (xs 1))], [], (jzv268 b0 b1 b2 b3)) : jS)) rfl ?_
  exact hq
set_option maxHeartbeats 4000000 in
set_option maxRecDepth 100000 in
theorem jzq341 (xs : Nat → Int32) (b0 b1 b2 b3 : Int32) {f : Nat} : jLoop (jRun ((4, xs) : jX) 2000 37) ((4, xs) : jX) jm20 (f + 6) ((100, [(3, .int 4), (4, .int (b3)), (2, .int 1), (0, .ref 64), (1, .int (xs 1))], [], (jzv268 b0 b1 b2 b3)) : jS) = some (.inl (some (.int 1)), (jzv268 b0 b1 b2 b3)) := by
  refine jl_s (S' := ((101, [(3, .int 4), (4, .int (b3)), (2, .int 1), (0, .ref 64), (1, .int (xs 1))], [.int 4], (jzv268 b0 b1 b2 b3)) : jS)) rfl ?_
  refine jl_s (S' := ((102, [(3, .int 4), (4, .int (b3)), (2, .int 1), (0, .ref 64), (1, .int (xs 1))], [.int 4, .int 4], (jzv268 b0 b1 b2 b3)) : jS)) rfl ?_
  refine jl_s (S' := ((160, [(3, .int 4), (4, .int (b3)), (2, .int 1), (0, .ref 64), (1, .int (xs 1))], [], (jzv268 b0 b1 b2 b3)) : jS)) rfl ?_
  refine jl_s (S' := ((161, [(3, .int 4), (4, .int (b3)), (2, .int 1), (0, .ref 64), (1, .int (xs 1))], [.ref 64], (jzv268 b0 b1 b2 b3)) : jS)) rfl ?_
  refine jl_s (S' := ((164, [(3, .int 4), (4, .int (b3)), (2, .int 1), (0, .ref 64), (1, .int (xs 1))], [.int 1], (jzv268 b0 b1 b2 b3)) : jS)) rfl ?_
  exact jl_r (r := (.inl (some (.int 1)), (jzv268 b0 b1 b2 b3))) rfl
set_option maxHeartbeats 4000000 in
set_option maxRecDepth 100000 in
theorem jzcp_ZVZZ (xs : Nat → Int32) (b0 b1 b2 b3 : Int32) (e0 : ((Int32.toUInt32 (xs 1) >>> (Int32.toUInt32 0 &&& Int32.toUInt32 31)).toInt32) &&& 255 = b0) (e1 : ((Int32.toUInt32 (xs 1) >>> (Int32.toUInt32 8 &&& Int32.toUInt32 31)).toInt32) &&& 255 = b1) (e2 : ((Int32.toUInt32 (xs 1) >>> (Int32.toUInt32 16 &&& Int32.toUInt32 31)).toInt32) &&& 255 = b2) (e3 : ((Int32.toUInt32 (xs 1) >>> (Int32.toUInt32 24 &&& Int32.toUInt32 31)).toInt32) &&& 255 = b3) (h0 : jbz b0) (h1 : jbv b1) (h2 : jbz b2) (h3 : jbz b3) : jRun ((4, xs) : jX) 2000 38 20 [.ref 64, .int (xs 1)] jzv181 = some (.inl (some (.int 1)), (jzv268 b0 b1 b2 b3)) := by
  refine jr_run (e := jm20) rfl (Nat.le_of_ble_eq_true rfl) ?_
  refine jzq267 xs b0 b1 b2 b3 ?_
  refine jzq269 xs b0 b1 b2 b3 e0 h0 ?_
  refine jzq331 xs b0 b1 b2 b3 e1 h1 ?_
  refine jzq333 xs b0 b1 b2 b3 e2 h2 ?_
  refine jzq307 xs b0 b1 b2 b3 e3 h3 ?_
  refine jzq292 xs b0 b1 b2 b3 ?_
  refine jzq294 xs b0 b1 b2 b3 e0 h0 ?_
  refine jzq335 xs b0 b1 b2 b3 e1 h1.1 ?_
  refine jzq337 xs b0 b1 b2 b3 e2 h2 ?_
  refine jzq339 xs b0 b1 b2 b3 e3 h3 ?_
  exact jzq341 xs b0 b1 b2 b3
set_option maxHeartbeats 4000000 in
set_option maxRecDepth 100000 in
theorem jzq343 (xs : Nat → Int32) (b0 b1 b2 b3 : Int32) (e : ((Int32.toUInt32 (xs 1) >>> (Int32.toUInt32 8 &&& Int32.toUInt32 31)).toInt32) &&& 255 = b1) (h : jbn b1) {f : Nat} {q : jO × jH} (hq : jLoop (jRun ((4, xs) : jX) 2000 37) ((4, xs) : jX) jm20 f ((100, [(3, .int 2), (4, .int (b1)), (2, .int 2), (0, .ref 64), (1, .int (xs 1))], [], (jzv268 b0 b1 b2 b3)) : jS) = some q) : jLoop (jRun ((4, xs) : jX) 2000 37) ((4, xs) : jX) jm20 (f + 32) ((100, [(3, .int 1), (4, .int (b0)), (2, .int 2), (0, .ref 64), (1, .int (xs 1))], [], jzv181) : jS) = some q := by
  refine jl_s (S' := ((101, [(3, .int 1), (4, .int (b0)), (2, .int 2), (0, .ref 64), (1, .int (xs 1))], [.int 1], jzv181) : jS)) rfl ?_
  refine jl_s (S' := ((102, [(3, .int 1), (4, .int (b0)), (2, .int 2), (0, .ref 64), (1, .int (xs 1))], [.int 4, .int 1], jzv181) : jS)) rfl ?_
  refine jl_s (S' := ((105, [(3, .int 1), (4, .int (b0)), (2, .int 2), (0, .ref 64), (1, .int (xs 1))], [], jzv181) : jS)) rfl ?_
  refine jl_s (S' := ((106, [(3, .int 1), (4, .int (b0)), (2, .int 2), (0, .ref 64), (1, .int (xs 1))], [.int (xs 1)], jzv181) : jS)) rfl ?_
  refine jl_s (S' := ((108, [(3, .int 1), (4, .int (b0)), (2, .int 2), (0, .ref 64), (1, .int (xs 1))], [.int 8, .int (xs 1)], jzv181) : jS)) rfl ?_
  refine jl_s (S' := ((109, [(3, .int 1), (4, .int (b0)), (2, .int 2), (0, .ref 64), (1, .int (xs 1))], [.int 1, .int 8, .int (xs 1)], jzv181) : jS)) rfl ?_
  refine jl_s (S' := ((110, [(3, .int 1), (4, .int (b0)), (2, .int 2), (0, .ref 64), (1, .int (xs 1))], [.int 8, .int (xs 1)], jzv181) : jS)) rfl ?_
  refine jl_s (S' := ((111, [(3, .int 1), (4, .int (b0)), (2, .int 2), (0, .ref 64), (1, .int (xs 1))], [.int ((Int32.toUInt32 (xs 1) >>> (Int32.toUInt32 8 &&& Int32.toUInt32 31)).toInt32)], jzv181) : jS)) rfl ?_
  refine jl_s (S' := ((114, [(3, .int 1), (4, .int (b0)), (2, .int 2), (0, .ref 64), (1, .int (xs 1))], [.int 255, .int ((Int32.toUInt32 (xs 1) >>> (Int32.toUInt32 8 &&& Int32.toUInt32 31)).toInt32)], jzv181) : jS)) rfl ?_
  refine jl_s (S' := ((115, [(3, .int 1), (4, .int (b0)), (2, .int 2), (0, .ref 64), (1, .int (xs 1))], [.int (((Int32.toUInt32 (xs 1) >>> (Int32.toUInt32 8 &&& Int32.toUInt32 31)).toInt32) &&& 255)], jzv181) : jS)) rfl ?_
  rw [e]
  refine jl_s (S' := ((117, [(4, .int (b1)), (3, .int 1), (2, .int 2), (0, .ref 64), (1, .int (xs 1))], [], jzv181) : jS)) rfl ?_
  refine jl_s (S' := ((119, [(4, .int (b1)), (3, .int 1), (2, .int 2), (0, .ref 64), (1, .int (xs 1))], [.int (b1)], jzv181) : jS)) rfl ?_
  refine jl_iff (e := jm20) (o := 35) rfl (h.1) ?_
  refine jl_s (S' := ((123, [(4, .int (b1)), (3, .int 1), (2, .int 2), (0, .ref 64), (1, .int (xs 1))], [.ref 64], jzv181) : jS)) rfl ?_
  refine jl_s (S' := ((126, [(4, .int (b1)), (3, .int 1), (2, .int 2), (0, .ref 64), (1, .int (xs 1))], [.int 0], jzv181) : jS)) rfl ?_
  refine jl_s (S' := ((129, [(4, .int (b1)), (3, .int 1), (2, .int 2), (0, .ref 64), (1, .int (xs 1))], [.int 3000, .int 0], jzv181) : jS)) rfl ?_
  refine jl_s (S' := ((132, [(4, .int (b1)), (3, .int 1), (2, .int 2), (0, .ref 64), (1, .int (xs 1))], [], jzv181) : jS)) rfl ?_
  refine jl_s (S' := ((133, [(4, .int (b1)), (3, .int 1), (2, .int 2), (0, .ref 64), (1, .int (xs 1))], [.ref 64], jzv181) : jS)) rfl ?_
  refine jl_s (S' := ((136, [(4, .int (b1)), (3, .int 1), (2, .int 2), (0, .ref 64), (1, .int (xs 1))], [.ref 65], jzv181) : jS)) rfl ?_
  refine jl_s (S' := ((137, [(4, .int (b1)), (3, .int 1), (2, .int 2), (0, .ref 64), (1, .int (xs 1))], [.ref 64, .ref 65], jzv181) : jS)) rfl ?_
  refine jl_s (S' := ((140, [(4, .int (b1)), (3, .int 1), (2, .int 2), (0, .ref 64), (1, .int (xs 1))], [.int 0, .ref 65], jzv181) : jS)) rfl ?_
  refine jl_s (S' := ((142, [(4, .int (b1)), (3, .int 1), (2, .int 2), (0, .ref 64), (1, .int (xs 1))], [.int (b1), .int 0, .ref 65], jzv181) : jS)) rfl ?_
  refine jl_s (S' := ((143, [(4, .int (b1)), (3, .int 1), (2, .int 2), (0, .ref 64), (1, .int (xs 1))], [.int ((b1).toInt8.toInt32), .int 0, .ref 65], jzv181) : jS)) rfl ?_
  refine jl_s (S' := ((144, [(4, .int (b1)), (3, .int 1), (2, .int 2), (0, .ref 64), (1, .int (xs 1))], [], (jzv267 b0 b1 b2 b3)) : jS)) rfl ?_
  refine jl_s (S' := ((145, [(4, .int (b1)), (3, .int 1), (2, .int 2), (0, .ref 64), (1, .int (xs 1))], [.ref 64], (jzv267 b0 b1 b2 b3)) : jS)) rfl ?_
  refine jl_s (S' := ((146, [(4, .int (b1)), (3, .int 1), (2, .int 2), (0, .ref 64), (1, .int (xs 1))], [.ref 64, .ref 64], (jzv267 b0 b1 b2 b3)) : jS)) rfl ?_
  refine jl_s (S' := ((149, [(4, .int (b1)), (3, .int 1), (2, .int 2), (0, .ref 64), (1, .int (xs 1))], [.int 0, .ref 64], (jzv267 b0 b1 b2 b3)) : jS)) rfl ?_
  refine jl_s (S' := ((150, [(4, .int (b1)), (3, .int 1), (2, .int 2), (0, .ref 64), (1, .int (xs 1))], [.int 1, .int 0, .ref 64], (jzv267 b0 b1 b2 b3)) : jS)) rfl ?_
  refine jl_s (S' := ((151, [(4, .int (b1)), (3, .int 1), (2, .int 2), (0, .ref 64), (1, .int (xs 1))], [.int 1, .ref 64], (jzv267 b0 b1 b2 b3)) : jS)) rfl ?_
  refine jl_s (S' := ((154, [(4, .int (b1)), (3, .int 1), (2, .int 2), (0, .ref 64), (1, .int (xs 1))], [], (jzv268 b0 b1 b2 b3)) : jS)) rfl ?_
  refine jl_s (S' := ((157, [(3, .int 2), (4, .int (b1)), (2, .int 2), (0, .ref 64), (1, .int (xs 1))], [], (jzv268 b0 b1 b2 b3)) : jS)) rfl ?_
  refine jl_s (S' := ((100, [(3, .int 2), (4, .int (b1)), (2, .int 2), (0, .ref 64), (1, .int (xs 1))], [], (jzv268 b0 b1 b2 b3)) : jS)) rfl ?_
  exact hq
set_option maxHeartbeats 4000000 in
set_option maxRecDepth 100000 in
theorem jzq345 (xs : Nat → Int32) (b0 b1 b2 b3 : Int32) (e : ((Int32.toUInt32 (xs 1) >>> (Int32.toUInt32 16 &&& Int32.toUInt32 31)).toInt32) &&& 255 = b2) (h : jbz b2) {f : Nat} {q : jO × jH} (hq : jLoop (jRun ((4, xs) : jX) 2000 37) ((4, xs) : jX) jm20 f ((100, [(3, .int 3), (4, .int (b2)), (2, .int 2), (0, .ref 64), (1, .int (xs 1))], [], (jzv268 b0 b1 b2 b3)) : jS) = some q) : jLoop (jRun ((4, xs) : jX) 2000 37) ((4, xs) : jX) jm20 (f + 15) ((100, [(3, .int 2), (4, .int (b1)), (2, .int 2), (0, .ref 64), (1, .int (xs 1))], [], (jzv268 b0 b1 b2 b3)) : jS) = some q := by
  refine jl_s (S' := ((101, [(3, .int 2), (4, .int (b1)), (2, .int 2), (0, .ref 64), (1, .int (xs 1))], [.int 2], (jzv268 b0 b1 b2 b3)) : jS)) rfl ?_
  refine jl_s (S' := ((102, [(3, .int 2), (4, .int (b1)), (2, .int 2), (0, .ref 64), (1, .int (xs 1))], [.int 4, .int 2], (jzv268 b0 b1 b2 b3)) : jS)) rfl ?_
  refine jl_s (S' := ((105, [(3, .int 2), (4, .int (b1)), (2, .int 2), (0, .ref 64), (1, .int (xs 1))], [], (jzv268 b0 b1 b2 b3)) : jS)) rfl ?_
  refine jl_s (S' := ((106, [(3, .int 2), (4, .int (b1)), (2, .int 2), (0, .ref 64), (1, .int (xs 1))], [.int (xs 1)], (jzv268 b0 b1 b2 b3)) : jS)) rfl ?_
  refine jl_s (S' := ((108, [(3, .int 2), (4, .int (b1)), (2, .int 2), (0, .ref 64), (1, .int (xs 1))], [.int 8, .int (xs 1)], (jzv268 b0 b1 b2 b3)) : jS)) rfl ?_
  refine jl_s (S' := ((109, [(3, .int 2), (4, .int (b1)), (2, .int 2), (0, .ref 64), (1, .int (xs 1))], [.int 2, .int 8, .int (xs 1)], (jzv268 b0 b1 b2 b3)) : jS)) rfl ?_
  refine jl_s (S' := ((110, [(3, .int 2), (4, .int (b1)), (2, .int 2), (0, .ref 64), (1, .int (xs 1))], [.int 16, .int (xs 1)], (jzv268 b0 b1 b2 b3)) : jS)) rfl ?_
  refine jl_s (S' := ((111, [(3, .int 2), (4, .int (b1)), (2, .int 2), (0, .ref 64), (1, .int (xs 1))], [.int ((Int32.toUInt32 (xs 1) >>> (Int32.toUInt32 16 &&& Int32.toUInt32 31)).toInt32)], (jzv268 b0 b1 b2 b3)) : jS)) rfl ?_
  refine jl_s (S' := ((114, [(3, .int 2), (4, .int (b1)), (2, .int 2), (0, .ref 64), (1, .int (xs 1))], [.int 255, .int ((Int32.toUInt32 (xs 1) >>> (Int32.toUInt32 16 &&& Int32.toUInt32 31)).toInt32)], (jzv268 b0 b1 b2 b3)) : jS)) rfl ?_
  refine jl_s (S' := ((115, [(3, .int 2), (4, .int (b1)), (2, .int 2), (0, .ref 64), (1, .int (xs 1))], [.int (((Int32.toUInt32 (xs 1) >>> (Int32.toUInt32 16 &&& Int32.toUInt32 31)).toInt32) &&& 255)], (jzv268 b0 b1 b2 b3)) : jS)) rfl ?_
  rw [e]
  refine jl_s (S' := ((117, [(4, .int (b2)), (3, .int 2), (2, .int 2), (0, .ref 64), (1, .int (xs 1))], [], (jzv268 b0 b1 b2 b3)) : jS)) rfl ?_
  refine jl_s (S' := ((119, [(4, .int (b2)), (3, .int 2), (2, .int 2), (0, .ref 64), (1, .int (xs 1))], [.int (b2)], (jzv268 b0 b1 b2 b3)) : jS)) rfl ?_
  refine jl_ift (e := jm20) (o := 35) rfl (h.1) (t := 154) rfl ?_
  refine jl_s (S' := ((157, [(3, .int 3), (4, .int (b2)), (2, .int 2), (0, .ref 64), (1, .int (xs 1))], [], (jzv268 b0 b1 b2 b3)) : jS)) rfl ?_
  refine jl_s (S' := ((100, [(3, .int 3), (4, .int (b2)), (2, .int 2), (0, .ref 64), (1, .int (xs 1))], [], (jzv268 b0 b1 b2 b3)) : jS)) rfl ?_
  exact hq
def jzc187 (b0 b1 b2 b3 : Int32) : jC := .inl (0, 3000, .inl (upd (upd (fun _ => 0) 0 (vp_nar .byte ((b1).toInt8.toInt32))) 1 (vp_nar .byte ((b3).toInt8.toInt32))))
def jzv269 (b0 b1 b2 b3 : Int32) : jH := [jzc182, (jzc187 b0 b1 b2 b3), jzc117, jzc7, jzc9, jzc9, jzc9, jzc9, jzc9, jzc17, jzc19, jzc19, jzc19, jzc19, jzc19, jzc19, jzc19, jzc19, jzc28, jzc28, jzc28, jzc28, jzc28, jzc28, jzc28, jzc28, jzc28, jzc28, jzc28, jzc28, jzc28, jzc28, jzc43, jzc43, jzc43, jzc43, jzc43, jzc49, jzc49, jzc52, jzc52, jzc52, jzc56, jzc56, jzc59, jzc56, jzc62, jzc28, jzc28, jzc28, jzc28, jzc28, jzc69, jzc71, jzc73, jzc43, jzc76, jzc52, jzc52, jzc80, jzc80, jzc80, jzc84, jzc52, jzc52, jzc52, jzc52, jzc52, jzc52, jzc52, jzc93, jzc93, jzc52, jzc52, jzc98, jzc100, jzc93, jzc52, jzc52, jzc52, jzc52, jzc107, jzc109, jzc111, jzc100, jzc100, jzc100, jzc111, jzc111, jzc118]
def jzv270 (b0 b1 b2 b3 : Int32) : jH := [jzc185, (jzc187 b0 b1 b2 b3), jzc117, jzc7, jzc9, jzc9, jzc9, jzc9, jzc9, jzc17, jzc19, jzc19, jzc19, jzc19, jzc19, jzc19, jzc19, jzc19, jzc28, jzc28, jzc28, jzc28, jzc28, jzc28, jzc28, jzc28, jzc28, jzc28, jzc28, jzc28, jzc28, jzc28, jzc43, jzc43, jzc43, jzc43, jzc43, jzc49, jzc49, jzc52, jzc52, jzc52, jzc56, jzc56, jzc59, jzc56, jzc62, jzc28, jzc28, jzc28, jzc28, jzc28, jzc69, jzc71, jzc73, jzc43, jzc76, jzc52, jzc52, jzc80, jzc80, jzc80, jzc84, jzc52, jzc52, jzc52, jzc52, jzc52, jzc52, jzc52, jzc93, jzc93, jzc52, jzc52, jzc98, jzc100, jzc93, jzc52, jzc52, jzc52, jzc52, jzc107, jzc109, jzc111, jzc100, jzc100, jzc100, jzc111, jzc111, jzc118]
set_option maxHeartbeats 4000000 in
set_option maxRecDepth 100000 in
theorem jzq347 (xs : Nat → Int32) (b0 b1 b2 b3 : Int32) (e : ((Int32.toUInt32 (xs 1) >>> (Int32.toUInt32 24 &&& Int32.toUInt32 31)).toInt32) &&& 255 = b3) (h : jbn b3) {f : Nat} {q : jO × jH} (hq : jLoop (jRun ((4, xs) : jX) 2000 37) ((4, xs) : jX) jm20 f ((100, [(3, .int 4), (4, .int (b3)), (2, .int 2), (0, .ref 64), (1, .int (xs 1))], [], (jzv270 b0 b1 b2 b3)) : jS) = some q) : jLoop (jRun ((4, xs) : jX) 2000 37) ((4, xs) : jX) jm20 (f + 32) ((100, [(3, .int 3), (4, .int (b2)), (2, .int 2), (0, .ref 64), (1, .int (xs 1))], [], (jzv268 b0 b1 b2 b3)) : jS) = some q := by
  refine jl_s (S' := ((101, [(3, .int 3), (4, .int (b2)), (2, .int 2), (0, .ref 64), (1, .int (xs 1))], [.int 3], (jzv268 b0 b1 b2 b3)) : jS)) rfl ?_
  refine jl_s (S' := ((102, [(3, .int 3), (4, .int (b2)), (2, .int 2), (0, .ref 64), (1, .int (xs 1))], [.int 4, .int 3], (jzv268 b0 b1 b2 b3)) : jS)) rfl ?_
  refine jl_s (S' := ((105, [(3, .int 3), (4, .int (b2)), (2, .int 2), (0, .ref 64), (1, .int (xs 1))], [], (jzv268 b0 b1 b2 b3)) : jS)) rfl ?_
  refine jl_s (S' := ((106, [(3, .int 3), (4, .int (b2)), (2, .int 2), (0, .ref 64), (1, .int (xs 1))], [.int (xs 1)], (jzv268 b0 b1 b2 b3)) : jS)) rfl ?_
  refine jl_s (S' := ((108, [(3, .int 3), (4, .int (b2)), (2, .int 2), (0, .ref 64), (1, .int (xs 1))], [.int 8, .int (xs 1)], (jzv268 b0 b1 b2 b3)) : jS)) rfl ?_
  refine jl_s (S' := ((109, [(3, .int 3), (4, .int (b2)), (2, .int 2), (0, .ref 64), (1, .int (xs 1))], [.int 3, .int 8, .int (xs 1)], (jzv268 b0 b1 b2 b3)) : jS)) rfl ?_
  refine jl_s (S' := ((110, [(3, .int 3), (4, .int (b2)), (2, .int 2), (0, .ref 64), (1, .int (xs 1))], [.int 24, .int (xs 1)], (jzv268 b0 b1 b2 b3)) : jS)) rfl ?_
  refine jl_s (S' := ((111, [(3, .int 3), (4, .int (b2)), (2, .int 2), (0, .ref 64), (1, .int (xs 1))], [.int ((Int32.toUInt32 (xs 1) >>> (Int32.toUInt32 24 &&& Int32.toUInt32 31)).toInt32)], (jzv268 b0 b1 b2 b3)) : jS)) rfl ?_
  refine jl_s (S' := ((114, [(3, .int 3), (4, .int (b2)), (2, .int 2), (0, .ref 64), (1, .int (xs 1))], [.int 255, .int ((Int32.toUInt32 (xs 1) >>> (Int32.toUInt32 24 &&& Int32.toUInt32 31)).toInt32)], (jzv268 b0 b1 b2 b3)) : jS)) rfl ?_
  refine jl_s (S' := ((115, [(3, .int 3), (4, .int (b2)), (2, .int 2), (0, .ref 64), (1, .int (xs 1))], [.int (((Int32.toUInt32 (xs 1) >>> (Int32.toUInt32 24 &&& Int32.toUInt32 31)).toInt32) &&& 255)], (jzv268 b0 b1 b2 b3)) : jS)) rfl ?_
  rw [e]
  refine jl_s (S' := ((117, [(4, .int (b3)), (3, .int 3), (2, .int 2), (0, .ref 64), (1, .int (xs 1))], [], (jzv268 b0 b1 b2 b3)) : jS)) rfl ?_
  refine jl_s (S' := ((119, [(4, .int (b3)), (3, .int 3), (2, .int 2), (0, .ref 64), (1, .int (xs 1))], [.int (b3)], (jzv268 b0 b1 b2 b3)) : jS)) rfl ?_
  refine jl_iff (e := jm20) (o := 35) rfl (h.1) ?_
  refine jl_s (S' := ((123, [(4, .int (b3)), (3, .int 3), (2, .int 2), (0, .ref 64), (1, .int (xs 1))], [.ref 64], (jzv268 b0 b1 b2 b3)) : jS)) rfl ?_
  refine jl_s (S' := ((126, [(4, .int (b3)), (3, .int 3), (2, .int 2), (0, .ref 64), (1, .int (xs 1))], [.int 1], (jzv268 b0 b1 b2 b3)) : jS)) rfl ?_
  refine jl_s (S' := ((129, [(4, .int (b3)), (3, .int 3), (2, .int 2), (0, .ref 64), (1, .int (xs 1))], [.int 3000, .int 1], (jzv268 b0 b1 b2 b3)) : jS)) rfl ?_
  refine jl_s (S' := ((132, [(4, .int (b3)), (3, .int 3), (2, .int 2), (0, .ref 64), (1, .int (xs 1))], [], (jzv268 b0 b1 b2 b3)) : jS)) rfl ?_
  refine jl_s (S' := ((133, [(4, .int (b3)), (3, .int 3), (2, .int 2), (0, .ref 64), (1, .int (xs 1))], [.ref 64], (jzv268 b0 b1 b2 b3)) : jS)) rfl ?_
  refine jl_s (S' := ((136, [(4, .int (b3)), (3, .int 3), (2, .int 2), (0, .ref 64), (1, .int (xs 1))], [.ref 65], (jzv268 b0 b1 b2 b3)) : jS)) rfl ?_
  refine jl_s (S' := ((137, [(4, .int (b3)), (3, .int 3), (2, .int 2), (0, .ref 64), (1, .int (xs 1))], [.ref 64, .ref 65], (jzv268 b0 b1 b2 b3)) : jS)) rfl ?_
  refine jl_s (S' := ((140, [(4, .int (b3)), (3, .int 3), (2, .int 2), (0, .ref 64), (1, .int (xs 1))], [.int 1, .ref 65], (jzv268 b0 b1 b2 b3)) : jS)) rfl ?_
  refine jl_s (S' := ((142, [(4, .int (b3)), (3, .int 3), (2, .int 2), (0, .ref 64), (1, .int (xs 1))], [.int (b3), .int 1, .ref 65], (jzv268 b0 b1 b2 b3)) : jS)) rfl ?_
  refine jl_s (S' := ((143, [(4, .int (b3)), (3, .int 3), (2, .int 2), (0, .ref 64), (1, .int (xs 1))], [.int ((b3).toInt8.toInt32), .int 1, .ref 65], (jzv268 b0 b1 b2 b3)) : jS)) rfl ?_
  refine jl_s (S' := ((144, [(4, .int (b3)), (3, .int 3), (2, .int 2), (0, .ref 64), (1, .int (xs 1))], [], (jzv269 b0 b1 b2 b3)) : jS)) rfl ?_
  refine jl_s (S' := ((145, [(4, .int (b3)), (3, .int 3), (2, .int 2), (0, .ref 64), (1, .int (xs 1))], [.ref 64], (jzv269 b0 b1 b2 b3)) : jS)) rfl ?_
  refine jl_s (S' := ((146, [(4, .int (b3)), (3, .int 3), (2, .int 2), (0, .ref 64), (1, .int (xs 1))], [.ref 64, .ref 64], (jzv269 b0 b1 b2 b3)) : jS)) rfl ?_
  refine jl_s (S' := ((149, [(4, .int (b3)), (3, .int 3), (2, .int 2), (0, .ref 64), (1, .int (xs 1))], [.int 1, .ref 64], (jzv269 b0 b1 b2 b3)) : jS)) rfl ?_
  refine jl_s (S' := ((150, [(4, .int (b3)), (3, .int 3), (2, .int 2), (0, .ref 64), (1, .int (xs 1))], [.int 1, .int 1, .ref 64], (jzv269 b0 b1 b2 b3)) : jS)) rfl ?_
  refine jl_s (S' := ((151, [(4, .int (b3)), (3, .int 3), (2, .int 2), (0, .ref 64), (1, .int (xs 1))], [.int 2, .ref 64], (jzv269 b0 b1 b2 b3)) : jS)) rfl ?_
  refine jl_s (S' := ((154, [(4, .int (b3)), (3, .int 3), (2, .int 2), (0, .ref 64), (1, .int (xs 1))], [], (jzv270 b0 b1 b2 b3)) : jS)) rfl ?_
  refine jl_s (S' := ((157, [(3, .int 4), (4, .int (b3)), (2, .int 2), (0, .ref 64), (1, .int (xs 1))], [], (jzv270 b0 b1 b2 b3)) : jS)) rfl ?_
  refine jl_s (S' := ((100, [(3, .int 4), (4, .int (b3)), (2, .int 2), (0, .ref 64), (1, .int (xs 1))], [], (jzv270 b0 b1 b2 b3)) : jS)) rfl ?_
  exact hq
set_option maxHeartbeats 4000000 in
set_option maxRecDepth 100000 in
theorem jzq349 (xs : Nat → Int32) (b0 b1 b2 b3 : Int32) {f : Nat} : jLoop (jRun ((4, xs) : jX) 2000 37) ((4, xs) : jX) jm20 (f + 6) ((100, [(3, .int 4), (4, .int (b3)), (2, .int 2), (0, .ref 64), (1, .int (xs 1))], [], (jzv270 b0 b1 b2 b3)) : jS) = some (.inl (some (.int 2)), (jzv270 b0 b1 b2 b3)) := by
  refine jl_s (S' := ((101, [(3, .int 4), (4, .int (b3)), (2, .int 2), (0, .ref 64), (1, .int (xs 1))], [.int 4], (jzv270 b0 b1 b2 b3)) : jS)) rfl ?_
  refine jl_s (S' := ((102, [(3, .int 4), (4, .int (b3)), (2, .int 2), (0, .ref 64), (1, .int (xs 1))], [.int 4, .int 4], (jzv270 b0 b1 b2 b3)) : jS)) rfl ?_
  refine jl_s (S' := ((160, [(3, .int 4), (4, .int (b3)), (2, .int 2), (0, .ref 64), (1, .int (xs 1))], [], (jzv270 b0 b1 b2 b3)) : jS)) rfl ?_
  refine jl_s (S' := ((161, [(3, .int 4), (4, .int (b3)), (2, .int 2), (0, .ref 64), (1, .int (xs 1))], [.ref 64], (jzv270 b0 b1 b2 b3)) : jS)) rfl ?_
  refine jl_s (S' := ((164, [(3, .int 4), (4, .int (b3)), (2, .int 2), (0, .ref 64), (1, .int (xs 1))], [.int 2], (jzv270 b0 b1 b2 b3)) : jS)) rfl ?_
  exact jl_r (r := (.inl (some (.int 2)), (jzv270 b0 b1 b2 b3))) rfl
set_option maxHeartbeats 4000000 in
set_option maxRecDepth 100000 in
theorem jzcp_ZVZV (xs : Nat → Int32) (b0 b1 b2 b3 : Int32) (e0 : ((Int32.toUInt32 (xs 1) >>> (Int32.toUInt32 0 &&& Int32.toUInt32 31)).toInt32) &&& 255 = b0) (e1 : ((Int32.toUInt32 (xs 1) >>> (Int32.toUInt32 8 &&& Int32.toUInt32 31)).toInt32) &&& 255 = b1) (e2 : ((Int32.toUInt32 (xs 1) >>> (Int32.toUInt32 16 &&& Int32.toUInt32 31)).toInt32) &&& 255 = b2) (e3 : ((Int32.toUInt32 (xs 1) >>> (Int32.toUInt32 24 &&& Int32.toUInt32 31)).toInt32) &&& 255 = b3) (h0 : jbz b0) (h1 : jbv b1) (h2 : jbz b2) (h3 : jbv b3) : jRun ((4, xs) : jX) 2000 38 20 [.ref 64, .int (xs 1)] jzv181 = some (.inl (some (.int 2)), (jzv270 b0 b1 b2 b3)) := by
  refine jr_run (e := jm20) rfl (Nat.le_of_ble_eq_true rfl) ?_
  refine jzq267 xs b0 b1 b2 b3 ?_
  refine jzq269 xs b0 b1 b2 b3 e0 h0 ?_
  refine jzq331 xs b0 b1 b2 b3 e1 h1 ?_
  refine jzq333 xs b0 b1 b2 b3 e2 h2 ?_
  refine jzq316 xs b0 b1 b2 b3 e3 h3 ?_
  refine jzq318 xs b0 b1 b2 b3 ?_
  refine jzq320 xs b0 b1 b2 b3 e0 h0 ?_
  refine jzq343 xs b0 b1 b2 b3 e1 h1.1 ?_
  refine jzq345 xs b0 b1 b2 b3 e2 h2 ?_
  refine jzq347 xs b0 b1 b2 b3 e3 h3.1 ?_
  exact jzq349 xs b0 b1 b2 b3
set_option maxHeartbeats 4000000 in
set_option maxRecDepth 100000 in
theorem jzq352 (xs : Nat → Int32) (b0 b1 b2 b3 : Int32) (e : ((Int32.toUInt32 (xs 1) >>> (Int32.toUInt32 16 &&& Int32.toUInt32 31)).toInt32) &&& 255 = b2) (h : jbv b2) {f : Nat} {q : jO × jH} (hq : jLoop (jRun ((4, xs) : jX) 2000 37) ((4, xs) : jX) jm20 f ((4, [(3, .int 3), (2, .int 2), (4, .int (b2)), (0, .ref 64), (1, .int (xs 1))], [], jzv181) : jS) = some q) : jLoop (jRun ((4, xs) : jX) 2000 37) ((4, xs) : jX) jm20 (f + 30) ((4, [(3, .int 2), (2, .int 1), (4, .int (b1)), (0, .ref 64), (1, .int (xs 1))], [], jzv181) : jS) = some q := by
  rcases h.2 with h1 | ⟨h1, h2, h3, h4⟩
  · refine jl_s (S' := ((5, [(3, .int 2), (2, .int 1), (4, .int (b1)), (0, .ref 64), (1, .int (xs 1))], [.int 2], jzv181) : jS)) rfl ?_
    refine jl_s (S' := ((6, [(3, .int 2), (2, .int 1), (4, .int (b1)), (0, .ref 64), (1, .int (xs 1))], [.int 4, .int 2], jzv181) : jS)) rfl ?_
    refine jl_s (S' := ((9, [(3, .int 2), (2, .int 1), (4, .int (b1)), (0, .ref 64), (1, .int (xs 1))], [], jzv181) : jS)) rfl ?_
    refine jl_s (S' := ((10, [(3, .int 2), (2, .int 1), (4, .int (b1)), (0, .ref 64), (1, .int (xs 1))], [.int (xs 1)], jzv181) : jS)) rfl ?_
    refine jl_s (S' := ((12, [(3, .int 2), (2, .int 1), (4, .int (b1)), (0, .ref 64), (1, .int (xs 1))], [.int 8, .int (xs 1)], jzv181) : jS)) rfl ?_
    refine jl_s (S' := ((13, [(3, .int 2), (2, .int 1), (4, .int (b1)), (0, .ref 64), (1, .int (xs 1))], [.int 2, .int 8, .int (xs 1)], jzv181) : jS)) rfl ?_
    refine jl_s (S' := ((14, [(3, .int 2), (2, .int 1), (4, .int (b1)), (0, .ref 64), (1, .int (xs 1))], [.int 16, .int (xs 1)], jzv181) : jS)) rfl ?_
    refine jl_s (S' := ((15, [(3, .int 2), (2, .int 1), (4, .int (b1)), (0, .ref 64), (1, .int (xs 1))], [.int ((Int32.toUInt32 (xs 1) >>> (Int32.toUInt32 16 &&& Int32.toUInt32 31)).toInt32)], jzv181) : jS)) rfl ?_
    refine jl_s (S' := ((18, [(3, .int 2), (2, .int 1), (4, .int (b1)), (0, .ref 64), (1, .int (xs 1))], [.int 255, .int ((Int32.toUInt32 (xs 1) >>> (Int32.toUInt32 16 &&& Int32.toUInt32 31)).toInt32)], jzv181) : jS)) rfl ?_
    refine jl_s (S' := ((19, [(3, .int 2), (2, .int 1), (4, .int (b1)), (0, .ref 64), (1, .int (xs 1))], [.int (((Int32.toUInt32 (xs 1) >>> (Int32.toUInt32 16 &&& Int32.toUInt32 31)).toInt32) &&& 255)], jzv181) : jS)) rfl ?_
    rw [e]
    refine jl_s (S' := ((21, [(4, .int (b2)), (3, .int 2), (2, .int 1), (0, .ref 64), (1, .int (xs 1))], [], jzv181) : jS)) rfl ?_
    refine jl_s (S' := ((23, [(4, .int (b2)), (3, .int 2), (2, .int 1), (0, .ref 64), (1, .int (xs 1))], [.int (b2)], jzv181) : jS)) rfl ?_
    refine jl_iff (e := jm20) (o := 34) rfl (h.1.1) ?_
    refine jl_s (S' := ((28, [(4, .int (b2)), (3, .int 2), (2, .int 1), (0, .ref 64), (1, .int (xs 1))], [.int (b2)], jzv181) : jS)) rfl ?_
    refine jl_s (S' := ((30, [(4, .int (b2)), (3, .int 2), (2, .int 1), (0, .ref 64), (1, .int (xs 1))], [.int 10, .int (b2)], jzv181) : jS)) rfl ?_
    refine jl_ict (e := jm20) (o := 27) rfl (h1) (t := 57) rfl ?_
    refine jl_s (S' := ((58, [(4, .int (b2)), (3, .int 2), (2, .int 1), (0, .ref 64), (1, .int (xs 1))], [.int 1], jzv181) : jS)) rfl ?_
    refine jl_s (S' := ((60, [(4, .int (b2)), (3, .int 2), (2, .int 1), (0, .ref 64), (1, .int (xs 1))], [.int (b2), .int 1], jzv181) : jS)) rfl ?_
    refine jl_ift (e := jm20) (o := 7) rfl (h.1.2) (t := 67) rfl ?_
    refine jl_s (S' := ((68, [(4, .int (b2)), (3, .int 2), (2, .int 1), (0, .ref 64), (1, .int (xs 1))], [.int 1, .int 1], jzv181) : jS)) rfl ?_
    refine jl_s (S' := ((69, [(4, .int (b2)), (3, .int 2), (2, .int 1), (0, .ref 64), (1, .int (xs 1))], [.int 2], jzv181) : jS)) rfl ?_
    refine jl_s (S' := ((70, [(2, .int 2), (4, .int (b2)), (3, .int 2), (0, .ref 64), (1, .int (xs 1))], [], jzv181) : jS)) rfl ?_
    refine jl_s (S' := ((73, [(3, .int 3), (2, .int 2), (4, .int (b2)), (0, .ref 64), (1, .int (xs 1))], [], jzv181) : jS)) rfl ?_
    refine jl_s (S' := ((4, [(3, .int 3), (2, .int 2), (4, .int (b2)), (0, .ref 64), (1, .int (xs 1))], [], jzv181) : jS)) rfl ?_
    exact jl_more hq
  · refine jl_s (S' := ((5, [(3, .int 2), (2, .int 1), (4, .int (b1)), (0, .ref 64), (1, .int (xs 1))], [.int 2], jzv181) : jS)) rfl ?_
    refine jl_s (S' := ((6, [(3, .int 2), (2, .int 1), (4, .int (b1)), (0, .ref 64), (1, .int (xs 1))], [.int 4, .int 2], jzv181) : jS)) rfl ?_
    refine jl_s (S' := ((9, [(3, .int 2), (2, .int 1), (4, .int (b1)), (0, .ref 64), (1, .int (xs 1))], [], jzv181) : jS)) rfl ?_
    refine jl_s (S' := ((10, [(3, .int 2), (2, .int 1), (4, .int (b1)), (0, .ref 64), (1, .int (xs 1))], [.int (xs 1)], jzv181) : jS)) rfl ?_
    refine jl_s (S' := ((12, [(3, .int 2), (2, .int 1), (4, .int (b1)), (0, .ref 64), (1, .int (xs 1))], [.int 8, .int (xs 1)], jzv181) : jS)) rfl ?_
    refine jl_s (S' := ((13, [(3, .int 2), (2, .int 1), (4, .int (b1)), (0, .ref 64), (1, .int (xs 1))], [.int 2, .int 8, .int (xs 1)], jzv181) : jS)) rfl ?_
    refine jl_s (S' := ((14, [(3, .int 2), (2, .int 1), (4, .int (b1)), (0, .ref 64), (1, .int (xs 1))], [.int 16, .int (xs 1)], jzv181) : jS)) rfl ?_
    refine jl_s (S' := ((15, [(3, .int 2), (2, .int 1), (4, .int (b1)), (0, .ref 64), (1, .int (xs 1))], [.int ((Int32.toUInt32 (xs 1) >>> (Int32.toUInt32 16 &&& Int32.toUInt32 31)).toInt32)], jzv181) : jS)) rfl ?_
    refine jl_s (S' := ((18, [(3, .int 2), (2, .int 1), (4, .int (b1)), (0, .ref 64), (1, .int (xs 1))], [.int 255, .int ((Int32.toUInt32 (xs 1) >>> (Int32.toUInt32 16 &&& Int32.toUInt32 31)).toInt32)], jzv181) : jS)) rfl ?_
    refine jl_s (S' := ((19, [(3, .int 2), (2, .int 1), (4, .int (b1)), (0, .ref 64), (1, .int (xs 1))], [.int (((Int32.toUInt32 (xs 1) >>> (Int32.toUInt32 16 &&& Int32.toUInt32 31)).toInt32) &&& 255)], jzv181) : jS)) rfl ?_
    rw [e]
    refine jl_s (S' := ((21, [(4, .int (b2)), (3, .int 2), (2, .int 1), (0, .ref 64), (1, .int (xs 1))], [], jzv181) : jS)) rfl ?_
    refine jl_s (S' := ((23, [(4, .int (b2)), (3, .int 2), (2, .int 1), (0, .ref 64), (1, .int (xs 1))], [.int (b2)], jzv181) : jS)) rfl ?_
    refine jl_iff (e := jm20) (o := 34) rfl (h.1.1) ?_
    refine jl_s (S' := ((28, [(4, .int (b2)), (3, .int 2), (2, .int 1), (0, .ref 64), (1, .int (xs 1))], [.int (b2)], jzv181) : jS)) rfl ?_
    refine jl_s (S' := ((30, [(4, .int (b2)), (3, .int 2), (2, .int 1), (0, .ref 64), (1, .int (xs 1))], [.int 10, .int (b2)], jzv181) : jS)) rfl ?_
    refine jl_icf (e := jm20) (o := 27) rfl (h1) ?_
    refine jl_s (S' := ((35, [(4, .int (b2)), (3, .int 2), (2, .int 1), (0, .ref 64), (1, .int (xs 1))], [.int (b2)], jzv181) : jS)) rfl ?_
    refine jl_s (S' := ((37, [(4, .int (b2)), (3, .int 2), (2, .int 1), (0, .ref 64), (1, .int (xs 1))], [.int 32, .int (b2)], jzv181) : jS)) rfl ?_
    refine jl_icf (e := jm20) (o := 10) rfl (h2) ?_
    refine jl_s (S' := ((42, [(4, .int (b2)), (3, .int 2), (2, .int 1), (0, .ref 64), (1, .int (xs 1))], [.int (b2)], jzv181) : jS)) rfl ?_
    refine jl_s (S' := ((44, [(4, .int (b2)), (3, .int 2), (2, .int 1), (0, .ref 64), (1, .int (xs 1))], [.int 126, .int (b2)], jzv181) : jS)) rfl ?_
    refine jl_ict (e := jm20) (o := 13) rfl (h3) (t := 57) rfl ?_
    refine jl_s (S' := ((58, [(4, .int (b2)), (3, .int 2), (2, .int 1), (0, .ref 64), (1, .int (xs 1))], [.int 1], jzv181) : jS)) rfl ?_
    refine jl_s (S' := ((60, [(4, .int (b2)), (3, .int 2), (2, .int 1), (0, .ref 64), (1, .int (xs 1))], [.int (b2), .int 1], jzv181) : jS)) rfl ?_
    refine jl_ift (e := jm20) (o := 7) rfl (h.1.2) (t := 67) rfl ?_
    refine jl_s (S' := ((68, [(4, .int (b2)), (3, .int 2), (2, .int 1), (0, .ref 64), (1, .int (xs 1))], [.int 1, .int 1], jzv181) : jS)) rfl ?_
    refine jl_s (S' := ((69, [(4, .int (b2)), (3, .int 2), (2, .int 1), (0, .ref 64), (1, .int (xs 1))], [.int 2], jzv181) : jS)) rfl ?_
    refine jl_s (S' := ((70, [(2, .int 2), (4, .int (b2)), (3, .int 2), (0, .ref 64), (1, .int (xs 1))], [], jzv181) : jS)) rfl ?_
    refine jl_s (S' := ((73, [(3, .int 3), (2, .int 2), (4, .int (b2)), (0, .ref 64), (1, .int (xs 1))], [], jzv181) : jS)) rfl ?_
    refine jl_s (S' := ((4, [(3, .int 3), (2, .int 2), (4, .int (b2)), (0, .ref 64), (1, .int (xs 1))], [], jzv181) : jS)) rfl ?_
    exact hq
set_option maxHeartbeats 4000000 in
set_option maxRecDepth 100000 in
theorem jzq354 (xs : Nat → Int32) (b0 b1 b2 b3 : Int32) (e : ((Int32.toUInt32 (xs 1) >>> (Int32.toUInt32 24 &&& Int32.toUInt32 31)).toInt32) &&& 255 = b3) (h : jbz b3) {f : Nat} {q : jO × jH} (hq : jLoop (jRun ((4, xs) : jX) 2000 37) ((4, xs) : jX) jm20 f ((4, [(3, .int 4), (2, .int 2), (4, .int (b3)), (0, .ref 64), (1, .int (xs 1))], [], jzv181) : jS) = some q) : jLoop (jRun ((4, xs) : jX) 2000 37) ((4, xs) : jX) jm20 (f + 22) ((4, [(3, .int 3), (2, .int 2), (4, .int (b2)), (0, .ref 64), (1, .int (xs 1))], [], jzv181) : jS) = some q := by
  refine jl_s (S' := ((5, [(3, .int 3), (2, .int 2), (4, .int (b2)), (0, .ref 64), (1, .int (xs 1))], [.int 3], jzv181) : jS)) rfl ?_
  refine jl_s (S' := ((6, [(3, .int 3), (2, .int 2), (4, .int (b2)), (0, .ref 64), (1, .int (xs 1))], [.int 4, .int 3], jzv181) : jS)) rfl ?_
  refine jl_s (S' := ((9, [(3, .int 3), (2, .int 2), (4, .int (b2)), (0, .ref 64), (1, .int (xs 1))], [], jzv181) : jS)) rfl ?_
  refine jl_s (S' := ((10, [(3, .int 3), (2, .int 2), (4, .int (b2)), (0, .ref 64), (1, .int (xs 1))], [.int (xs 1)], jzv181) : jS)) rfl ?_
  refine jl_s (S' := ((12, [(3, .int 3), (2, .int 2), (4, .int (b2)), (0, .ref 64), (1, .int (xs 1))], [.int 8, .int (xs 1)], jzv181) : jS)) rfl ?_
  refine jl_s (S' := ((13, [(3, .int 3), (2, .int 2), (4, .int (b2)), (0, .ref 64), (1, .int (xs 1))], [.int 3, .int 8, .int (xs 1)], jzv181) : jS)) rfl ?_
  refine jl_s (S' := ((14, [(3, .int 3), (2, .int 2), (4, .int (b2)), (0, .ref 64), (1, .int (xs 1))], [.int 24, .int (xs 1)], jzv181) : jS)) rfl ?_
  refine jl_s (S' := ((15, [(3, .int 3), (2, .int 2), (4, .int (b2)), (0, .ref 64), (1, .int (xs 1))], [.int ((Int32.toUInt32 (xs 1) >>> (Int32.toUInt32 24 &&& Int32.toUInt32 31)).toInt32)], jzv181) : jS)) rfl ?_
  refine jl_s (S' := ((18, [(3, .int 3), (2, .int 2), (4, .int (b2)), (0, .ref 64), (1, .int (xs 1))], [.int 255, .int ((Int32.toUInt32 (xs 1) >>> (Int32.toUInt32 24 &&& Int32.toUInt32 31)).toInt32)], jzv181) : jS)) rfl ?_
  refine jl_s (S' := ((19, [(3, .int 3), (2, .int 2), (4, .int (b2)), (0, .ref 64), (1, .int (xs 1))], [.int (((Int32.toUInt32 (xs 1) >>> (Int32.toUInt32 24 &&& Int32.toUInt32 31)).toInt32) &&& 255)], jzv181) : jS)) rfl ?_
  rw [e]
  refine jl_s (S' := ((21, [(4, .int (b3)), (3, .int 3), (2, .int 2), (0, .ref 64), (1, .int (xs 1))], [], jzv181) : jS)) rfl ?_
  refine jl_s (S' := ((23, [(4, .int (b3)), (3, .int 3), (2, .int 2), (0, .ref 64), (1, .int (xs 1))], [.int (b3)], jzv181) : jS)) rfl ?_
  refine jl_ift (e := jm20) (o := 34) rfl (h.1) (t := 57) rfl ?_
  refine jl_s (S' := ((58, [(4, .int (b3)), (3, .int 3), (2, .int 2), (0, .ref 64), (1, .int (xs 1))], [.int 2], jzv181) : jS)) rfl ?_
  refine jl_s (S' := ((60, [(4, .int (b3)), (3, .int 3), (2, .int 2), (0, .ref 64), (1, .int (xs 1))], [.int (b3), .int 2], jzv181) : jS)) rfl ?_
  refine jl_iff (e := jm20) (o := 7) rfl (h.2) ?_
  refine jl_s (S' := ((64, [(4, .int (b3)), (3, .int 3), (2, .int 2), (0, .ref 64), (1, .int (xs 1))], [.int 0, .int 2], jzv181) : jS)) rfl ?_
  refine jl_s (S' := ((68, [(4, .int (b3)), (3, .int 3), (2, .int 2), (0, .ref 64), (1, .int (xs 1))], [.int 0, .int 2], jzv181) : jS)) rfl ?_
  refine jl_s (S' := ((69, [(4, .int (b3)), (3, .int 3), (2, .int 2), (0, .ref 64), (1, .int (xs 1))], [.int 2], jzv181) : jS)) rfl ?_
  refine jl_s (S' := ((70, [(2, .int 2), (4, .int (b3)), (3, .int 3), (0, .ref 64), (1, .int (xs 1))], [], jzv181) : jS)) rfl ?_
  refine jl_s (S' := ((73, [(3, .int 4), (2, .int 2), (4, .int (b3)), (0, .ref 64), (1, .int (xs 1))], [], jzv181) : jS)) rfl ?_
  refine jl_s (S' := ((4, [(3, .int 4), (2, .int 2), (4, .int (b3)), (0, .ref 64), (1, .int (xs 1))], [], jzv181) : jS)) rfl ?_
  exact hq
def jzc188 (b0 b1 b2 b3 : Int32) : jC := .inl (0, 3000, .inl (upd (upd (fun _ => 0) 0 (vp_nar .byte ((b1).toInt8.toInt32))) 1 (vp_nar .byte ((b2).toInt8.toInt32))))
def jzv271 (b0 b1 b2 b3 : Int32) : jH := [jzc182, (jzc188 b0 b1 b2 b3), jzc117, jzc7, jzc9, jzc9, jzc9, jzc9, jzc9, jzc17, jzc19, jzc19, jzc19, jzc19, jzc19, jzc19, jzc19, jzc19, jzc28, jzc28, jzc28, jzc28, jzc28, jzc28, jzc28, jzc28, jzc28, jzc28, jzc28, jzc28, jzc28, jzc28, jzc43, jzc43, jzc43, jzc43, jzc43, jzc49, jzc49, jzc52, jzc52, jzc52, jzc56, jzc56, jzc59, jzc56, jzc62, jzc28, jzc28, jzc28, jzc28, jzc28, jzc69, jzc71, jzc73, jzc43, jzc76, jzc52, jzc52, jzc80, jzc80, jzc80, jzc84, jzc52, jzc52, jzc52, jzc52, jzc52, jzc52, jzc52, jzc93, jzc93, jzc52, jzc52, jzc98, jzc100, jzc93, jzc52, jzc52, jzc52, jzc52, jzc107, jzc109, jzc111, jzc100, jzc100, jzc100, jzc111, jzc111, jzc118]
def jzv272 (b0 b1 b2 b3 : Int32) : jH := [jzc185, (jzc188 b0 b1 b2 b3), jzc117, jzc7, jzc9, jzc9, jzc9, jzc9, jzc9, jzc17, jzc19, jzc19, jzc19, jzc19, jzc19, jzc19, jzc19, jzc19, jzc28, jzc28, jzc28, jzc28, jzc28, jzc28, jzc28, jzc28, jzc28, jzc28, jzc28, jzc28, jzc28, jzc28, jzc43, jzc43, jzc43, jzc43, jzc43, jzc49, jzc49, jzc52, jzc52, jzc52, jzc56, jzc56, jzc59, jzc56, jzc62, jzc28, jzc28, jzc28, jzc28, jzc28, jzc69, jzc71, jzc73, jzc43, jzc76, jzc52, jzc52, jzc80, jzc80, jzc80, jzc84, jzc52, jzc52, jzc52, jzc52, jzc52, jzc52, jzc52, jzc93, jzc93, jzc52, jzc52, jzc98, jzc100, jzc93, jzc52, jzc52, jzc52, jzc52, jzc107, jzc109, jzc111, jzc100, jzc100, jzc100, jzc111, jzc111, jzc118]
set_option maxHeartbeats 4000000 in
set_option maxRecDepth 100000 in
theorem jzq356 (xs : Nat → Int32) (b0 b1 b2 b3 : Int32) (e : ((Int32.toUInt32 (xs 1) >>> (Int32.toUInt32 16 &&& Int32.toUInt32 31)).toInt32) &&& 255 = b2) (h : jbn b2) {f : Nat} {q : jO × jH} (hq : jLoop (jRun ((4, xs) : jX) 2000 37) ((4, xs) : jX) jm20 f ((100, [(3, .int 3), (4, .int (b2)), (2, .int 2), (0, .ref 64), (1, .int (xs 1))], [], (jzv272 b0 b1 b2 b3)) : jS) = some q) : jLoop (jRun ((4, xs) : jX) 2000 37) ((4, xs) : jX) jm20 (f + 32) ((100, [(3, .int 2), (4, .int (b1)), (2, .int 2), (0, .ref 64), (1, .int (xs 1))], [], (jzv268 b0 b1 b2 b3)) : jS) = some q := by
  refine jl_s (S' := ((101, [(3, .int 2), (4, .int (b1)), (2, .int 2), (0, .ref 64), (1, .int (xs 1))], [.int 2], (jzv268 b0 b1 b2 b3)) : jS)) rfl ?_
  refine jl_s (S' := ((102, [(3, .int 2), (4, .int (b1)), (2, .int 2), (0, .ref 64), (1, .int (xs 1))], [.int 4, .int 2], (jzv268 b0 b1 b2 b3)) : jS)) rfl ?_
  refine jl_s (S' := ((105, [(3, .int 2), (4, .int (b1)), (2, .int 2), (0, .ref 64), (1, .int (xs 1))], [], (jzv268 b0 b1 b2 b3)) : jS)) rfl ?_
  refine jl_s (S' := ((106, [(3, .int 2), (4, .int (b1)), (2, .int 2), (0, .ref 64), (1, .int (xs 1))], [.int (xs 1)], (jzv268 b0 b1 b2 b3)) : jS)) rfl ?_
  refine jl_s (S' := ((108, [(3, .int 2), (4, .int (b1)), (2, .int 2), (0, .ref 64), (1, .int (xs 1))], [.int 8, .int (xs 1)], (jzv268 b0 b1 b2 b3)) : jS)) rfl ?_
  refine jl_s (S' := ((109, [(3, .int 2), (4, .int (b1)), (2, .int 2), (0, .ref 64), (1, .int (xs 1))], [.int 2, .int 8, .int (xs 1)], (jzv268 b0 b1 b2 b3)) : jS)) rfl ?_
  refine jl_s (S' := ((110, [(3, .int 2), (4, .int (b1)), (2, .int 2), (0, .ref 64), (1, .int (xs 1))], [.int 16, .int (xs 1)], (jzv268 b0 b1 b2 b3)) : jS)) rfl ?_
  refine jl_s (S' := ((111, [(3, .int 2), (4, .int (b1)), (2, .int 2), (0, .ref 64), (1, .int (xs 1))], [.int ((Int32.toUInt32 (xs 1) >>> (Int32.toUInt32 16 &&& Int32.toUInt32 31)).toInt32)], (jzv268 b0 b1 b2 b3)) : jS)) rfl ?_
  refine jl_s (S' := ((114, [(3, .int 2), (4, .int (b1)), (2, .int 2), (0, .ref 64), (1, .int (xs 1))], [.int 255, .int ((Int32.toUInt32 (xs 1) >>> (Int32.toUInt32 16 &&& Int32.toUInt32 31)).toInt32)], (jzv268 b0 b1 b2 b3)) : jS)) rfl ?_
  refine jl_s (S' := ((115, [(3, .int 2), (4, .int (b1)), (2, .int 2), (0, .ref 64), (1, .int (xs 1))], [.int (((Int32.toUInt32 (xs 1) >>> (Int32.toUInt32 16 &&& Int32.toUInt32 31)).toInt32) &&& 255)], (jzv268 b0 b1 b2 b3)) : jS)) rfl ?_
  rw [e]
  refine jl_s (S' := ((117, [(4, .int (b2)), (3, .int 2), (2, .int 2), (0, .ref 64), (1, .int (xs 1))], [], (jzv268 b0 b1 b2 b3)) : jS)) rfl ?_
  refine jl_s (S' := ((119, [(4, .int (b2)), (3, .int 2), (2, .int 2), (0, .ref 64), (1, .int (xs 1))], [.int (b2)], (jzv268 b0 b1 b2 b3)) : jS)) rfl ?_
  refine jl_iff (e := jm20) (o := 35) rfl (h.1) ?_
  refine jl_s (S' := ((123, [(4, .int (b2)), (3, .int 2), (2, .int 2), (0, .ref 64), (1, .int (xs 1))], [.ref 64], (jzv268 b0 b1 b2 b3)) : jS)) rfl ?_
  refine jl_s (S' := ((126, [(4, .int (b2)), (3, .int 2), (2, .int 2), (0, .ref 64), (1, .int (xs 1))], [.int 1], (jzv268 b0 b1 b2 b3)) : jS)) rfl ?_
  refine jl_s (S' := ((129, [(4, .int (b2)), (3, .int 2), (2, .int 2), (0, .ref 64), (1, .int (xs 1))], [.int 3000, .int 1], (jzv268 b0 b1 b2 b3)) : jS)) rfl ?_
  refine jl_s (S' := ((132, [(4, .int (b2)), (3, .int 2), (2, .int 2), (0, .ref 64), (1, .int (xs 1))], [], (jzv268 b0 b1 b2 b3)) : jS)) rfl ?_
  refine jl_s (S' := ((133, [(4, .int (b2)), (3, .int 2), (2, .int 2), (0, .ref 64), (1, .int (xs 1))], [.ref 64], (jzv268 b0 b1 b2 b3)) : jS)) rfl ?_
  refine jl_s (S' := ((136, [(4, .int (b2)), (3, .int 2), (2, .int 2), (0, .ref 64), (1, .int (xs 1))], [.ref 65], (jzv268 b0 b1 b2 b3)) : jS)) rfl ?_
  refine jl_s (S' := ((137, [(4, .int (b2)), (3, .int 2), (2, .int 2), (0, .ref 64), (1, .int (xs 1))], [.ref 64, .ref 65], (jzv268 b0 b1 b2 b3)) : jS)) rfl ?_
  refine jl_s (S' := ((140, [(4, .int (b2)), (3, .int 2), (2, .int 2), (0, .ref 64), (1, .int (xs 1))], [.int 1, .ref 65], (jzv268 b0 b1 b2 b3)) : jS)) rfl ?_
  refine jl_s (S' := ((142, [(4, .int (b2)), (3, .int 2), (2, .int 2), (0, .ref 64), (1, .int (xs 1))], [.int (b2), .int 1, .ref 65], (jzv268 b0 b1 b2 b3)) : jS)) rfl ?_
  refine jl_s (S' := ((143, [(4, .int (b2)), (3, .int 2), (2, .int 2), (0, .ref 64), (1, .int (xs 1))], [.int ((b2).toInt8.toInt32), .int 1, .ref 65], (jzv268 b0 b1 b2 b3)) : jS)) rfl ?_
  refine jl_s (S' := ((144, [(4, .int (b2)), (3, .int 2), (2, .int 2), (0, .ref 64), (1, .int (xs 1))], [], (jzv271 b0 b1 b2 b3)) : jS)) rfl ?_
  refine jl_s (S' := ((145, [(4, .int (b2)), (3, .int 2), (2, .int 2), (0, .ref 64), (1, .int (xs 1))], [.ref 64], (jzv271 b0 b1 b2 b3)) : jS)) rfl ?_
  refine jl_s (S' := ((146, [(4, .int (b2)), (3, .int 2), (2, .int 2), (0, .ref 64), (1, .int (xs 1))], [.ref 64, .ref 64], (jzv271 b0 b1 b2 b3)) : jS)) rfl ?_
  refine jl_s (S' := ((149, [(4, .int (b2)), (3, .int 2), (2, .int 2), (0, .ref 64), (1, .int (xs 1))], [.int 1, .ref 64], (jzv271 b0 b1 b2 b3)) : jS)) rfl ?_
  refine jl_s (S' := ((150, [(4, .int (b2)), (3, .int 2), (2, .int 2), (0, .ref 64), (1, .int (xs 1))], [.int 1, .int 1, .ref 64], (jzv271 b0 b1 b2 b3)) : jS)) rfl ?_
  refine jl_s (S' := ((151, [(4, .int (b2)), (3, .int 2), (2, .int 2), (0, .ref 64), (1, .int (xs 1))], [.int 2, .ref 64], (jzv271 b0 b1 b2 b3)) : jS)) rfl ?_
  refine jl_s (S' := ((154, [(4, .int (b2)), (3, .int 2), (2, .int 2), (0, .ref 64), (1, .int (xs 1))], [], (jzv272 b0 b1 b2 b3)) : jS)) rfl ?_
  refine jl_s (S' := ((157, [(3, .int 3), (4, .int (b2)), (2, .int 2), (0, .ref 64), (1, .int (xs 1))], [], (jzv272 b0 b1 b2 b3)) : jS)) rfl ?_
  refine jl_s (S' := ((100, [(3, .int 3), (4, .int (b2)), (2, .int 2), (0, .ref 64), (1, .int (xs 1))], [], (jzv272 b0 b1 b2 b3)) : jS)) rfl ?_
  exact hq
set_option maxHeartbeats 4000000 in
set_option maxRecDepth 100000 in
theorem jzq358 (xs : Nat → Int32) (b0 b1 b2 b3 : Int32) (e : ((Int32.toUInt32 (xs 1) >>> (Int32.toUInt32 24 &&& Int32.toUInt32 31)).toInt32) &&& 255 = b3) (h : jbz b3) {f : Nat} {q : jO × jH} (hq : jLoop (jRun ((4, xs) : jX) 2000 37) ((4, xs) : jX) jm20 f ((100, [(3, .int 4), (4, .int (b3)), (2, .int 2), (0, .ref 64), (1, .int (xs 1))], [], (jzv272 b0 b1 b2 b3)) : jS) = some q) : jLoop (jRun ((4, xs) : jX) 2000 37) ((4, xs) : jX) jm20 (f + 15) ((100, [(3, .int 3), (4, .int (b2)), (2, .int 2), (0, .ref 64), (1, .int (xs 1))], [], (jzv272 b0 b1 b2 b3)) : jS) = some q := by
  refine jl_s (S' := ((101, [(3, .int 3), (4, .int (b2)), (2, .int 2), (0, .ref 64), (1, .int (xs 1))], [.int 3], (jzv272 b0 b1 b2 b3)) : jS)) rfl ?_
  refine jl_s (S' := ((102, [(3, .int 3), (4, .int (b2)), (2, .int 2), (0, .ref 64), (1, .int (xs 1))], [.int 4, .int 3], (jzv272 b0 b1 b2 b3)) : jS)) rfl ?_
  refine jl_s (S' := ((105, [(3, .int 3), (4, .int (b2)), (2, .int 2), (0, .ref 64), (1, .int (xs 1))], [], (jzv272 b0 b1 b2 b3)) : jS)) rfl ?_
  refine jl_s (S' := ((106, [(3, .int 3), (4, .int (b2)), (2, .int 2), (0, .ref 64), (1, .int (xs 1))], [.int (xs 1)], (jzv272 b0 b1 b2 b3)) : jS)) rfl ?_
  refine jl_s (S' := ((108, [(3, .int 3), (4, .int (b2)), (2, .int 2), (0, .ref 64), (1, .int (xs 1))], [.int 8, .int (xs 1)], (jzv272 b0 b1 b2 b3)) : jS)) rfl ?_
  refine jl_s (S' := ((109, [(3, .int 3), (4, .int (b2)), (2, .int 2), (0, .ref 64), (1, .int (xs 1))], [.int 3, .int 8, .int (xs 1)], (jzv272 b0 b1 b2 b3)) : jS)) rfl ?_
  refine jl_s (S' := ((110, [(3, .int 3), (4, .int (b2)), (2, .int 2), (0, .ref 64), (1, .int (xs 1))], [.int 24, .int (xs 1)], (jzv272 b0 b1 b2 b3)) : jS)) rfl ?_
  refine jl_s (S' := ((111, [(3, .int 3), (4, .int (b2)), (2, .int 2), (0, .ref 64), (1, .int (xs 1))], [.int ((Int32.toUInt32 (xs 1) >>> (Int32.toUInt32 24 &&& Int32.toUInt32 31)).toInt32)], (jzv272 b0 b1 b2 b3)) : jS)) rfl ?_
  refine jl_s (S' := ((114, [(3, .int 3), (4, .int (b2)), (2, .int 2), (0, .ref 64), (1, .int (xs 1))], [.int 255, .int ((Int32.toUInt32 (xs 1) >>> (Int32.toUInt32 24 &&& Int32.toUInt32 31)).toInt32)], (jzv272 b0 b1 b2 b3)) : jS)) rfl ?_
  refine jl_s (S' := ((115, [(3, .int 3), (4, .int (b2)), (2, .int 2), (0, .ref 64), (1, .int (xs 1))], [.int (((Int32.toUInt32 (xs 1) >>> (Int32.toUInt32 24 &&& Int32.toUInt32 31)).toInt32) &&& 255)], (jzv272 b0 b1 b2 b3)) : jS)) rfl ?_
  rw [e]
  refine jl_s (S' := ((117, [(4, .int (b3)), (3, .int 3), (2, .int 2), (0, .ref 64), (1, .int (xs 1))], [], (jzv272 b0 b1 b2 b3)) : jS)) rfl ?_
  refine jl_s (S' := ((119, [(4, .int (b3)), (3, .int 3), (2, .int 2), (0, .ref 64), (1, .int (xs 1))], [.int (b3)], (jzv272 b0 b1 b2 b3)) : jS)) rfl ?_
  refine jl_ift (e := jm20) (o := 35) rfl (h.1) (t := 154) rfl ?_
  refine jl_s (S' := ((157, [(3, .int 4), (4, .int (b3)), (2, .int 2), (0, .ref 64), (1, .int (xs 1))], [], (jzv272 b0 b1 b2 b3)) : jS)) rfl ?_
  refine jl_s (S' := ((100, [(3, .int 4), (4, .int (b3)), (2, .int 2), (0, .ref 64), (1, .int (xs 1))], [], (jzv272 b0 b1 b2 b3)) : jS)) rfl ?_
  exact hq
set_option maxHeartbeats 4000000 in
set_option maxRecDepth 100000 in
theorem jzq360 (xs : Nat → Int32) (b0 b1 b2 b3 : Int32) {f : Nat} : jLoop (jRun ((4, xs) : jX) 2000 37) ((4, xs) : jX) jm20 (f + 6) ((100, [(3, .int 4), (4, .int (b3)), (2, .int 2), (0, .ref 64), (1, .int (xs 1))], [], (jzv272 b0 b1 b2 b3)) : jS) = some (.inl (some (.int 2)), (jzv272 b0 b1 b2 b3)) := by
  refine jl_s (S' := ((101, [(3, .int 4), (4, .int (b3)), (2, .int 2), (0, .ref 64), (1, .int (xs 1))], [.int 4], (jzv272 b0 b1 b2 b3)) : jS)) rfl ?_
  refine jl_s (S' := ((102, [(3, .int 4), (4, .int (b3)), (2, .int 2), (0, .ref 64), (1, .int (xs 1))], [.int 4, .int 4], (jzv272 b0 b1 b2 b3)) : jS)) rfl ?_
  refine jl_s (S' := ((160, [(3, .int 4), (4, .int (b3)), (2, .int 2), (0, .ref 64), (1, .int (xs 1))], [], (jzv272 b0 b1 b2 b3)) : jS)) rfl ?_
  refine jl_s (S' := ((161, [(3, .int 4), (4, .int (b3)), (2, .int 2), (0, .ref 64), (1, .int (xs 1))], [.ref 64], (jzv272 b0 b1 b2 b3)) : jS)) rfl ?_
  refine jl_s (S' := ((164, [(3, .int 4), (4, .int (b3)), (2, .int 2), (0, .ref 64), (1, .int (xs 1))], [.int 2], (jzv272 b0 b1 b2 b3)) : jS)) rfl ?_
  exact jl_r (r := (.inl (some (.int 2)), (jzv272 b0 b1 b2 b3))) rfl
set_option maxHeartbeats 4000000 in
set_option maxRecDepth 100000 in
theorem jzcp_ZVVZ (xs : Nat → Int32) (b0 b1 b2 b3 : Int32) (e0 : ((Int32.toUInt32 (xs 1) >>> (Int32.toUInt32 0 &&& Int32.toUInt32 31)).toInt32) &&& 255 = b0) (e1 : ((Int32.toUInt32 (xs 1) >>> (Int32.toUInt32 8 &&& Int32.toUInt32 31)).toInt32) &&& 255 = b1) (e2 : ((Int32.toUInt32 (xs 1) >>> (Int32.toUInt32 16 &&& Int32.toUInt32 31)).toInt32) &&& 255 = b2) (e3 : ((Int32.toUInt32 (xs 1) >>> (Int32.toUInt32 24 &&& Int32.toUInt32 31)).toInt32) &&& 255 = b3) (h0 : jbz b0) (h1 : jbv b1) (h2 : jbv b2) (h3 : jbz b3) : jRun ((4, xs) : jX) 2000 38 20 [.ref 64, .int (xs 1)] jzv181 = some (.inl (some (.int 2)), (jzv272 b0 b1 b2 b3)) := by
  refine jr_run (e := jm20) rfl (Nat.le_of_ble_eq_true rfl) ?_
  refine jzq267 xs b0 b1 b2 b3 ?_
  refine jzq269 xs b0 b1 b2 b3 e0 h0 ?_
  refine jzq331 xs b0 b1 b2 b3 e1 h1 ?_
  refine jzq352 xs b0 b1 b2 b3 e2 h2 ?_
  refine jzq354 xs b0 b1 b2 b3 e3 h3 ?_
  refine jzq318 xs b0 b1 b2 b3 ?_
  refine jzq320 xs b0 b1 b2 b3 e0 h0 ?_
  refine jzq343 xs b0 b1 b2 b3 e1 h1.1 ?_
  refine jzq356 xs b0 b1 b2 b3 e2 h2.1 ?_
  refine jzq358 xs b0 b1 b2 b3 e3 h3 ?_
  exact jzq360 xs b0 b1 b2 b3
set_option maxHeartbeats 4000000 in
set_option maxRecDepth 100000 in
theorem jzq363 (xs : Nat → Int32) (b0 b1 b2 b3 : Int32) (e : ((Int32.toUInt32 (xs 1) >>> (Int32.toUInt32 24 &&& Int32.toUInt32 31)).toInt32) &&& 255 = b3) (h : jbv b3) {f : Nat} {q : jO × jH} (hq : jLoop (jRun ((4, xs) : jX) 2000 37) ((4, xs) : jX) jm20 f ((4, [(3, .int 4), (2, .int 3), (4, .int (b3)), (0, .ref 64), (1, .int (xs 1))], [], jzv181) : jS) = some q) : jLoop (jRun ((4, xs) : jX) 2000 37) ((4, xs) : jX) jm20 (f + 30) ((4, [(3, .int 3), (2, .int 2), (4, .int (b2)), (0, .ref 64), (1, .int (xs 1))], [], jzv181) : jS) = some q := by
  rcases h.2 with h1 | ⟨h1, h2, h3, h4⟩
  · refine jl_s (S' := ((5, [(3, .int 3), (2, .int 2), (4, .int (b2)), (0, .ref 64), (1, .int (xs 1))], [.int 3], jzv181) : jS)) rfl ?_
    refine jl_s (S' := ((6, [(3, .int 3), (2, .int 2), (4, .int (b2)), (0, .ref 64), (1, .int (xs 1))], [.int 4, .int 3], jzv181) : jS)) rfl ?_
    refine jl_s (S' := ((9, [(3, .int 3), (2, .int 2), (4, .int (b2)), (0, .ref 64), (1, .int (xs 1))], [], jzv181) : jS)) rfl ?_
    refine jl_s (S' := ((10, [(3, .int 3), (2, .int 2), (4, .int (b2)), (0, .ref 64), (1, .int (xs 1))], [.int (xs 1)], jzv181) : jS)) rfl ?_
    refine jl_s (S' := ((12, [(3, .int 3), (2, .int 2), (4, .int (b2)), (0, .ref 64), (1, .int (xs 1))], [.int 8, .int (xs 1)], jzv181) : jS)) rfl ?_
    refine jl_s (S' := ((13, [(3, .int 3), (2, .int 2), (4, .int (b2)), (0, .ref 64), (1, .int (xs 1))], [.int 3, .int 8, .int (xs 1)], jzv181) : jS)) rfl ?_
    refine jl_s (S' := ((14, [(3, .int 3), (2, .int 2), (4, .int (b2)), (0, .ref 64), (1, .int (xs 1))], [.int 24, .int (xs 1)], jzv181) : jS)) rfl ?_
    refine jl_s (S' := ((15, [(3, .int 3), (2, .int 2), (4, .int (b2)), (0, .ref 64), (1, .int (xs 1))], [.int ((Int32.toUInt32 (xs 1) >>> (Int32.toUInt32 24 &&& Int32.toUInt32 31)).toInt32)], jzv181) : jS)) rfl ?_
    refine jl_s (S' := ((18, [(3, .int 3), (2, .int 2), (4, .int (b2)), (0, .ref 64), (1, .int (xs 1))], [.int 255, .int ((Int32.toUInt32 (xs 1) >>> (Int32.toUInt32 24 &&& Int32.toUInt32 31)).toInt32)], jzv181) : jS)) rfl ?_
    refine jl_s (S' := ((19, [(3, .int 3), (2, .int 2), (4, .int (b2)), (0, .ref 64), (1, .int (xs 1))], [.int (((Int32.toUInt32 (xs 1) >>> (Int32.toUInt32 24 &&& Int32.toUInt32 31)).toInt32) &&& 255)], jzv181) : jS)) rfl ?_
    rw [e]
    refine jl_s (S' := ((21, [(4, .int (b3)), (3, .int 3), (2, .int 2), (0, .ref 64), (1, .int (xs 1))], [], jzv181) : jS)) rfl ?_
    refine jl_s (S' := ((23, [(4, .int (b3)), (3, .int 3), (2, .int 2), (0, .ref 64), (1, .int (xs 1))], [.int (b3)], jzv181) : jS)) rfl ?_
    refine jl_iff (e := jm20) (o := 34) rfl (h.1.1) ?_
    refine jl_s (S' := ((28, [(4, .int (b3)), (3, .int 3), (2, .int 2), (0, .ref 64), (1, .int (xs 1))], [.int (b3)], jzv181) : jS)) rfl ?_
    refine jl_s (S' := ((30, [(4, .int (b3)), (3, .int 3), (2, .int 2), (0, .ref 64), (1, .int (xs 1))], [.int 10, .int (b3)], jzv181) : jS)) rfl ?_
    refine jl_ict (e := jm20) (o := 27) rfl (h1) (t := 57) rfl ?_
    refine jl_s (S' := ((58, [(4, .int (b3)), (3, .int 3), (2, .int 2), (0, .ref 64), (1, .int (xs 1))], [.int 2], jzv181) : jS)) rfl ?_
    refine jl_s (S' := ((60, [(4, .int (b3)), (3, .int 3), (2, .int 2), (0, .ref 64), (1, .int (xs 1))], [.int (b3), .int 2], jzv181) : jS)) rfl ?_
    refine jl_ift (e := jm20) (o := 7) rfl (h.1.2) (t := 67) rfl ?_
    refine jl_s (S' := ((68, [(4, .int (b3)), (3, .int 3), (2, .int 2), (0, .ref 64), (1, .int (xs 1))], [.int 1, .int 2], jzv181) : jS)) rfl ?_
    refine jl_s (S' := ((69, [(4, .int (b3)), (3, .int 3), (2, .int 2), (0, .ref 64), (1, .int (xs 1))], [.int 3], jzv181) : jS)) rfl ?_
    refine jl_s (S' := ((70, [(2, .int 3), (4, .int (b3)), (3, .int 3), (0, .ref 64), (1, .int (xs 1))], [], jzv181) : jS)) rfl ?_
    refine jl_s (S' := ((73, [(3, .int 4), (2, .int 3), (4, .int (b3)), (0, .ref 64), (1, .int (xs 1))], [], jzv181) : jS)) rfl ?_
    refine jl_s (S' := ((4, [(3, .int 4), (2, .int 3), (4, .int (b3)), (0, .ref 64), (1, .int (xs 1))], [], jzv181) : jS)) rfl ?_
    exact jl_more hq
  · refine jl_s (S' := ((5, [(3, .int 3), (2, .int 2), (4, .int (b2)), (0, .ref 64), (1, .int (xs 1))], [.int 3], jzv181) : jS)) rfl ?_
    refine jl_s (S' := ((6, [(3, .int 3), (2, .int 2), (4, .int (b2)), (0, .ref 64), (1, .int (xs 1))], [.int 4, .int 3], jzv181) : jS)) rfl ?_
    refine jl_s (S' := ((9, [(3, .int 3), (2, .int 2), (4, .int (b2)), (0, .ref 64), (1, .int (xs 1))], [], jzv181) : jS)) rfl ?_
    refine jl_s (S' := ((10, [(3, .int 3), (2, .int 2), (4, .int (b2)), (0, .ref 64), (1, .int (xs 1))], [.int (xs 1)], jzv181) : jS)) rfl ?_
    refine jl_s (S' := ((12, [(3, .int 3), (2, .int 2), (4, .int (b2)), (0, .ref 64), (1, .int (xs 1))], [.int 8, .int (xs 1)], jzv181) : jS)) rfl ?_
    refine jl_s (S' := ((13, [(3, .int 3), (2, .int 2), (4, .int (b2)), (0, .ref 64), (1, .int (xs 1))], [.int 3, .int 8, .int (xs 1)], jzv181) : jS)) rfl ?_
    refine jl_s (S' := ((14, [(3, .int 3), (2, .int 2), (4, .int (b2)), (0, .ref 64), (1, .int (xs 1))], [.int 24, .int (xs 1)], jzv181) : jS)) rfl ?_
    refine jl_s (S' := ((15, [(3, .int 3), (2, .int 2), (4, .int (b2)), (0, .ref 64), (1, .int (xs 1))], [.int ((Int32.toUInt32 (xs 1) >>> (Int32.toUInt32 24 &&& Int32.toUInt32 31)).toInt32)], jzv181) : jS)) rfl ?_
    refine jl_s (S' := ((18, [(3, .int 3), (2, .int 2), (4, .int (b2)), (0, .ref 64), (1, .int (xs 1))], [.int 255, .int ((Int32.toUInt32 (xs 1) >>> (Int32.toUInt32 24 &&& Int32.toUInt32 31)).toInt32)], jzv181) : jS)) rfl ?_
    refine jl_s (S' := ((19, [(3, .int 3), (2, .int 2), (4, .int (b2)), (0, .ref 64), (1, .int (xs 1))], [.int (((Int32.toUInt32 (xs 1) >>> (Int32.toUInt32 24 &&& Int32.toUInt32 31)).toInt32) &&& 255)], jzv181) : jS)) rfl ?_
    rw [e]
    refine jl_s (S' := ((21, [(4, .int (b3)), (3, .int 3), (2, .int 2), (0, .ref 64), (1, .int (xs 1))], [], jzv181) : jS)) rfl ?_
    refine jl_s (S' := ((23, [(4, .int (b3)), (3, .int 3), (2, .int 2), (0, .ref 64), (1, .int (xs 1))], [.int (b3)], jzv181) : jS)) rfl ?_
    refine jl_iff (e := jm20) (o := 34) rfl (h.1.1) ?_
    refine jl_s (S' := ((28, [(4, .int (b3)), (3, .int 3), (2, .int 2), (0, .ref 64), (1, .int (xs 1))], [.int (b3)], jzv181) : jS)) rfl ?_
    refine jl_s (S' := ((30, [(4, .int (b3)), (3, .int 3), (2, .int 2), (0, .ref 64), (1, .int (xs 1))], [.int 10, .int (b3)], jzv181) : jS)) rfl ?_
    refine jl_icf (e := jm20) (o := 27) rfl (h1) ?_
    refine jl_s (S' := ((35, [(4, .int (b3)), (3, .int 3), (2, .int 2), (0, .ref 64), (1, .int (xs 1))], [.int (b3)], jzv181) : jS)) rfl ?_
    refine jl_s (S' := ((37, [(4, .int (b3)), (3, .int 3), (2, .int 2), (0, .ref 64), (1, .int (xs 1))], [.int 32, .int (b3)], jzv181) : jS)) rfl ?_
    refine jl_icf (e := jm20) (o := 10) rfl (h2) ?_
    refine jl_s (S' := ((42, [(4, .int (b3)), (3, .int 3), (2, .int 2), (0, .ref 64), (1, .int (xs 1))], [.int (b3)], jzv181) : jS)) rfl ?_
    refine jl_s (S' := ((44, [(4, .int (b3)), (3, .int 3), (2, .int 2), (0, .ref 64), (1, .int (xs 1))], [.int 126, .int (b3)], jzv181) : jS)) rfl ?_
    refine jl_ict (e := jm20) (o := 13) rfl (h3) (t := 57) rfl ?_
    refine jl_s (S' := ((58, [(4, .int (b3)), (3, .int 3), (2, .int 2), (0, .ref 64), (1, .int (xs 1))], [.int 2], jzv181) : jS)) rfl ?_
    refine jl_s (S' := ((60, [(4, .int (b3)), (3, .int 3), (2, .int 2), (0, .ref 64), (1, .int (xs 1))], [.int (b3), .int 2], jzv181) : jS)) rfl ?_
    refine jl_ift (e := jm20) (o := 7) rfl (h.1.2) (t := 67) rfl ?_
    refine jl_s (S' := ((68, [(4, .int (b3)), (3, .int 3), (2, .int 2), (0, .ref 64), (1, .int (xs 1))], [.int 1, .int 2], jzv181) : jS)) rfl ?_
    refine jl_s (S' := ((69, [(4, .int (b3)), (3, .int 3), (2, .int 2), (0, .ref 64), (1, .int (xs 1))], [.int 3], jzv181) : jS)) rfl ?_
    refine jl_s (S' := ((70, [(2, .int 3), (4, .int (b3)), (3, .int 3), (0, .ref 64), (1, .int (xs 1))], [], jzv181) : jS)) rfl ?_
    refine jl_s (S' := ((73, [(3, .int 4), (2, .int 3), (4, .int (b3)), (0, .ref 64), (1, .int (xs 1))], [], jzv181) : jS)) rfl ?_
    refine jl_s (S' := ((4, [(3, .int 4), (2, .int 3), (4, .int (b3)), (0, .ref 64), (1, .int (xs 1))], [], jzv181) : jS)) rfl ?_
    exact hq
set_option maxHeartbeats 4000000 in
set_option maxRecDepth 100000 in
theorem jzq365 (xs : Nat → Int32) (b0 b1 b2 b3 : Int32) {f : Nat} {q : jO × jH} (hq : jLoop (jRun ((4, xs) : jX) 2000 37) ((4, xs) : jX) jm20 f ((100, [(3, .int 0), (2, .int 3), (4, .int (b3)), (0, .ref 64), (1, .int (xs 1))], [], jzv181) : jS) = some q) : jLoop (jRun ((4, xs) : jX) 2000 37) ((4, xs) : jX) jm20 (f + 11) ((4, [(3, .int 4), (2, .int 3), (4, .int (b3)), (0, .ref 64), (1, .int (xs 1))], [], jzv181) : jS) = some q := by
  refine jl_s (S' := ((5, [(3, .int 4), (2, .int 3), (4, .int (b3)), (0, .ref 64), (1, .int (xs 1))], [.int 4], jzv181) : jS)) rfl ?_
  refine jl_s (S' := ((6, [(3, .int 4), (2, .int 3), (4, .int (b3)), (0, .ref 64), (1, .int (xs 1))], [.int 4, .int 4], jzv181) : jS)) rfl ?_
  refine jl_s (S' := ((76, [(3, .int 4), (2, .int 3), (4, .int (b3)), (0, .ref 64), (1, .int (xs 1))], [], jzv181) : jS)) rfl ?_
  refine jl_s (S' := ((77, [(3, .int 4), (2, .int 3), (4, .int (b3)), (0, .ref 64), (1, .int (xs 1))], [.ref 64], jzv181) : jS)) rfl ?_
  refine jl_s (S' := ((80, [(3, .int 4), (2, .int 3), (4, .int (b3)), (0, .ref 64), (1, .int (xs 1))], [.int 0], jzv181) : jS)) rfl ?_
  refine jl_s (S' := ((81, [(3, .int 4), (2, .int 3), (4, .int (b3)), (0, .ref 64), (1, .int (xs 1))], [.int 3, .int 0], jzv181) : jS)) rfl ?_
  refine jl_s (S' := ((82, [(3, .int 4), (2, .int 3), (4, .int (b3)), (0, .ref 64), (1, .int (xs 1))], [.int 3], jzv181) : jS)) rfl ?_
  refine jl_s (S' := ((85, [(3, .int 4), (2, .int 3), (4, .int (b3)), (0, .ref 64), (1, .int (xs 1))], [.int 3000, .int 3], jzv181) : jS)) rfl ?_
  refine jl_s (S' := ((98, [(3, .int 4), (2, .int 3), (4, .int (b3)), (0, .ref 64), (1, .int (xs 1))], [], jzv181) : jS)) rfl ?_
  refine jl_s (S' := ((99, [(3, .int 4), (2, .int 3), (4, .int (b3)), (0, .ref 64), (1, .int (xs 1))], [.int 0], jzv181) : jS)) rfl ?_
  refine jl_s (S' := ((100, [(3, .int 0), (2, .int 3), (4, .int (b3)), (0, .ref 64), (1, .int (xs 1))], [], jzv181) : jS)) rfl ?_
  exact hq
set_option maxHeartbeats 4000000 in
set_option maxRecDepth 100000 in
theorem jzq367 (xs : Nat → Int32) (b0 b1 b2 b3 : Int32) (e : ((Int32.toUInt32 (xs 1) >>> (Int32.toUInt32 0 &&& Int32.toUInt32 31)).toInt32) &&& 255 = b0) (h : jbz b0) {f : Nat} {q : jO × jH} (hq : jLoop (jRun ((4, xs) : jX) 2000 37) ((4, xs) : jX) jm20 f ((100, [(3, .int 1), (4, .int (b0)), (2, .int 3), (0, .ref 64), (1, .int (xs 1))], [], jzv181) : jS) = some q) : jLoop (jRun ((4, xs) : jX) 2000 37) ((4, xs) : jX) jm20 (f + 15) ((100, [(3, .int 0), (2, .int 3), (4, .int (b3)), (0, .ref 64), (1, .int (xs 1))], [], jzv181) : jS) = some q := by
  refine jl_s (S' := ((101, [(3, .int 0), (2, .int 3), (4, .int (b3)), (0, .ref 64), (1, .int (xs 1))], [.int 0], jzv181) : jS)) rfl ?_
  refine jl_s (S' := ((102, [(3, .int 0), (2, .int 3), (4, .int (b3)), (0, .ref 64), (1, .int (xs 1))], [.int 4, .int 0], jzv181) : jS)) rfl ?_
  refine jl_s (S' := ((105, [(3, .int 0), (2, .int 3), (4, .int (b3)), (0, .ref 64), (1, .int (xs 1))], [], jzv181) : jS)) rfl ?_
  refine jl_s (S' := ((106, [(3, .int 0), (2, .int 3), (4, .int (b3)), (0, .ref 64), (1, .int (xs 1))], [.int (xs 1)], jzv181) : jS)) rfl ?_
  refine jl_s (S' := ((108, [(3, .int 0), (2, .int 3), (4, .int (b3)), (0, .ref 64), (1, .int (xs 1))], [.int 8, .int (xs 1)], jzv181) : jS)) rfl ?_
  refine jl_s (S' := ((109, [(3, .int 0), (2, .int 3), (4, .int (b3)), (0, .ref 64), (1, .int (xs 1))], [.int 0, .int 8, .int (xs 1)], jzv181) : jS)) rfl ?_
  refine jl_s (S' := ((110, [(3, .int 0), (2, .int 3), (4, .int (b3)), (0, .ref 64), (1, .int (xs 1))], [.int 0, .int (xs 1)], jzv181) : jS)) rfl ?_
  refine jl_s (S' := ((111, [(3, .int 0), (2, .int 3), (4, .int (b3)), (0, .ref 64), (1, .int (xs 1))], [.int ((Int32.toUInt32 (xs 1) >>> (Int32.toUInt32 0 &&& Int32.toUInt32 31)).toInt32)], jzv181) : jS)) rfl ?_
  refine jl_s (S' := ((114, [(3, .int 0), (2, .int 3), (4, .int (b3)), (0, .ref 64), (1, .int (xs 1))], [.int 255, .int ((Int32.toUInt32 (xs 1) >>> (Int32.toUInt32 0 &&& Int32.toUInt32 31)).toInt32)], jzv181) : jS)) rfl ?_
  refine jl_s (S' := ((115, [(3, .int 0), (2, .int 3), (4, .int (b3)), (0, .ref 64), (1, .int (xs 1))], [.int (((Int32.toUInt32 (xs 1) >>> (Int32.toUInt32 0 &&& Int32.toUInt32 31)).toInt32) &&& 255)], jzv181) : jS)) rfl ?_
  rw [e]
  refine jl_s (S' := ((117, [(4, .int (b0)), (3, .int 0), (2, .int 3), (0, .ref 64), (1, .int (xs 1))], [], jzv181) : jS)) rfl ?_
  refine jl_s (S' := ((119, [(4, .int (b0)), (3, .int 0), (2, .int 3), (0, .ref 64), (1, .int (xs 1))], [.int (b0)], jzv181) : jS)) rfl ?_
  refine jl_ift (e := jm20) (o := 35) rfl (h.1) (t := 154) rfl ?_
  refine jl_s (S' := ((157, [(3, .int 1), (4, .int (b0)), (2, .int 3), (0, .ref 64), (1, .int (xs 1))], [], jzv181) : jS)) rfl ?_
  refine jl_s (S' := ((100, [(3, .int 1), (4, .int (b0)), (2, .int 3), (0, .ref 64), (1, .int (xs 1))], [], jzv181) : jS)) rfl ?_
  exact hq
set_option maxHeartbeats 4000000 in
set_option maxRecDepth 100000 in
theorem jzq369 (xs : Nat → Int32) (b0 b1 b2 b3 : Int32) (e : ((Int32.toUInt32 (xs 1) >>> (Int32.toUInt32 8 &&& Int32.toUInt32 31)).toInt32) &&& 255 = b1) (h : jbn b1) {f : Nat} {q : jO × jH} (hq : jLoop (jRun ((4, xs) : jX) 2000 37) ((4, xs) : jX) jm20 f ((100, [(3, .int 2), (4, .int (b1)), (2, .int 3), (0, .ref 64), (1, .int (xs 1))], [], (jzv268 b0 b1 b2 b3)) : jS) = some q) : jLoop (jRun ((4, xs) : jX) 2000 37) ((4, xs) : jX) jm20 (f + 32) ((100, [(3, .int 1), (4, .int (b0)), (2, .int 3), (0, .ref 64), (1, .int (xs 1))], [], jzv181) : jS) = some q := by
  refine jl_s (S' := ((101, [(3, .int 1), (4, .int (b0)), (2, .int 3), (0, .ref 64), (1, .int (xs 1))], [.int 1], jzv181) : jS)) rfl ?_
  refine jl_s (S' := ((102, [(3, .int 1), (4, .int (b0)), (2, .int 3), (0, .ref 64), (1, .int (xs 1))], [.int 4, .int 1], jzv181) : jS)) rfl ?_
  refine jl_s (S' := ((105, [(3, .int 1), (4, .int (b0)), (2, .int 3), (0, .ref 64), (1, .int (xs 1))], [], jzv181) : jS)) rfl ?_
  refine jl_s (S' := ((106, [(3, .int 1), (4, .int (b0)), (2, .int 3), (0, .ref 64), (1, .int (xs 1))], [.int (xs 1)], jzv181) : jS)) rfl ?_
  refine jl_s (S' := ((108, [(3, .int 1), (4, .int (b0)), (2, .int 3), (0, .ref 64), (1, .int (xs 1))], [.int 8, .int (xs 1)], jzv181) : jS)) rfl ?_
  refine jl_s (S' := ((109, [(3, .int 1), (4, .int (b0)), (2, .int 3), (0, .ref 64), (1, .int (xs 1))], [.int 1, .int 8, .int (xs 1)], jzv181) : jS)) rfl ?_
  refine jl_s (S' := ((110, [(3, .int 1), (4, .int (b0)), (2, .int 3), (0, .ref 64), (1, .int (xs 1))], [.int 8, .int (xs 1)], jzv181) : jS)) rfl ?_
  refine jl_s (S' := ((111, [(3, .int 1), (4, .int (b0)), (2, .int 3), (0, .ref 64), (1, .int (xs 1))], [.int ((Int32.toUInt32 (xs 1) >>> (Int32.toUInt32 8 &&& Int32.toUInt32 31)).toInt32)], jzv181) : jS)) rfl ?_
  refine jl_s (S' := ((114, [(3, .int 1), (4, .int (b0)), (2, .int 3), (0, .ref 64), (1, .int (xs 1))], [.int 255, .int ((Int32.toUInt32 (xs 1) >>> (Int32.toUInt32 8 &&& Int32.toUInt32 31)).toInt32)], jzv181) : jS)) rfl ?_
  refine jl_s (S' := ((115, [(3, .int 1), (4, .int (b0)), (2, .int 3), (0, .ref 64), (1, .int (xs 1))], [.int (((Int32.toUInt32 (xs 1) >>> (Int32.toUInt32 8 &&& Int32.toUInt32 31)).toInt32) &&& 255)], jzv181) : jS)) rfl ?_
  rw [e]
  refine jl_s (S' := ((117, [(4, .int (b1)), (3, .int 1), (2, .int 3), (0, .ref 64), (1, .int (xs 1))], [], jzv181) : jS)) rfl ?_
  refine jl_s (S' := ((119, [(4, .int (b1)), (3, .int 1), (2, .int 3), (0, .ref 64), (1, .int (xs 1))], [.int (b1)], jzv181) : jS)) rfl ?_
  refine jl_iff (e := jm20) (o := 35) rfl (h.1) ?_
  refine jl_s (S' := ((123, [(4, .int (b1)), (3, .int 1), (2, .int 3), (0, .ref 64), (1, .int (xs 1))], [.ref 64], jzv181) : jS)) rfl ?_
  refine jl_s (S' := ((126, [(4, .int (b1)), (3, .int 1), (2, .int 3), (0, .ref 64), (1, .int (xs 1))], [.int 0], jzv181) : jS)) rfl ?_
  refine jl_s (S' := ((129, [(4, .int (b1)), (3, .int 1), (2, .int 3), (0, .ref 64), (1, .int (xs 1))], [.int 3000, .int 0], jzv181) : jS)) rfl ?_
  refine jl_s (S' := ((132, [(4, .int (b1)), (3, .int 1), (2, .int 3), (0, .ref 64), (1, .int (xs 1))], [], jzv181) : jS)) rfl ?_
  refine jl_s (S' := ((133, [(4, .int (b1)), (3, .int 1), (2, .int 3), (0, .ref 64), (1, .int (xs 1))], [.ref 64], jzv181) : jS)) rfl ?_
  refine jl_s (S' := ((136, [(4, .int (b1)), (3, .int 1), (2, .int 3), (0, .ref 64), (1, .int (xs 1))], [.ref 65], jzv181) : jS)) rfl ?_
  refine jl_s (S' := ((137, [(4, .int (b1)), (3, .int 1), (2, .int 3), (0, .ref 64), (1, .int (xs 1))], [.ref 64, .ref 65], jzv181) : jS)) rfl ?_
  refine jl_s (S' := ((140, [(4, .int (b1)), (3, .int 1), (2, .int 3), (0, .ref 64), (1, .int (xs 1))], [.int 0, .ref 65], jzv181) : jS)) rfl ?_
  refine jl_s (S' := ((142, [(4, .int (b1)), (3, .int 1), (2, .int 3), (0, .ref 64), (1, .int (xs 1))], [.int (b1), .int 0, .ref 65], jzv181) : jS)) rfl ?_
  refine jl_s (S' := ((143, [(4, .int (b1)), (3, .int 1), (2, .int 3), (0, .ref 64), (1, .int (xs 1))], [.int ((b1).toInt8.toInt32), .int 0, .ref 65], jzv181) : jS)) rfl ?_
  refine jl_s (S' := ((144, [(4, .int (b1)), (3, .int 1), (2, .int 3), (0, .ref 64), (1, .int (xs 1))], [], (jzv267 b0 b1 b2 b3)) : jS)) rfl ?_
  refine jl_s (S' := ((145, [(4, .int (b1)), (3, .int 1), (2, .int 3), (0, .ref 64), (1, .int (xs 1))], [.ref 64], (jzv267 b0 b1 b2 b3)) : jS)) rfl ?_
  refine jl_s (S' := ((146, [(4, .int (b1)), (3, .int 1), (2, .int 3), (0, .ref 64), (1, .int (xs 1))], [.ref 64, .ref 64], (jzv267 b0 b1 b2 b3)) : jS)) rfl ?_
  refine jl_s (S' := ((149, [(4, .int (b1)), (3, .int 1), (2, .int 3), (0, .ref 64), (1, .int (xs 1))], [.int 0, .ref 64], (jzv267 b0 b1 b2 b3)) : jS)) rfl ?_
  refine jl_s (S' := ((150, [(4, .int (b1)), (3, .int 1), (2, .int 3), (0, .ref 64), (1, .int (xs 1))], [.int 1, .int 0, .ref 64], (jzv267 b0 b1 b2 b3)) : jS)) rfl ?_
  refine jl_s (S' := ((151, [(4, .int (b1)), (3, .int 1), (2, .int 3), (0, .ref 64), (1, .int (xs 1))], [.int 1, .ref 64], (jzv267 b0 b1 b2 b3)) : jS)) rfl ?_
  refine jl_s (S' := ((154, [(4, .int (b1)), (3, .int 1), (2, .int 3), (0, .ref 64), (1, .int (xs 1))], [], (jzv268 b0 b1 b2 b3)) : jS)) rfl ?_
  refine jl_s (S' := ((157, [(3, .int 2), (4, .int (b1)), (2, .int 3), (0, .ref 64), (1, .int (xs 1))], [], (jzv268 b0 b1 b2 b3)) : jS)) rfl ?_
  refine jl_s (S' := ((100, [(3, .int 2), (4, .int (b1)), (2, .int 3), (0, .ref 64), (1, .int (xs 1))], [], (jzv268 b0 b1 b2 b3)) : jS)) rfl ?_
  exact hq
set_option maxHeartbeats 4000000 in
set_option maxRecDepth 100000 in
theorem jzq371 (xs : Nat → Int32) (b0 b1 b2 b3 : Int32) (e : ((Int32.toUInt32 (xs 1) >>> (Int32.toUInt32 16 &&& Int32.toUInt32 31)).toInt32) &&& 255 = b2) (h : jbn b2) {f : Nat} {q : jO × jH} (hq : jLoop (jRun ((4, xs) : jX) 2000 37) ((4, xs) : jX) jm20 f ((100, [(3, .int 3), (4, .int (b2)), (2, .int 3), (0, .ref 64), (1, .int (xs 1))], [], (jzv272 b0 b1 b2 b3)) : jS) = some q) : jLoop (jRun ((4, xs) : jX) 2000 37) ((4, xs) : jX) jm20 (f + 32) ((100, [(3, .int 2), (4, .int (b1)), (2, .int 3), (0, .ref 64), (1, .int (xs 1))], [], (jzv268 b0 b1 b2 b3)) : jS) = some q := by
  refine jl_s (S' := ((101, [(3, .int 2), (4, .int (b1)), (2, .int 3), (0, .ref 64), (1, .int (xs 1))], [.int 2], (jzv268 b0 b1 b2 b3)) : jS)) rfl ?_
  refine jl_s (S' := ((102, [(3, .int 2), (4, .int (b1)), (2, .int 3), (0, .ref 64), (1, .int (xs 1))], [.int 4, .int 2], (jzv268 b0 b1 b2 b3)) : jS)) rfl ?_
  refine jl_s (S' := ((105, [(3, .int 2), (4, .int (b1)), (2, .int 3), (0, .ref 64), (1, .int (xs 1))], [], (jzv268 b0 b1 b2 b3)) : jS)) rfl ?_
  refine jl_s (S' := ((106, [(3, .int 2), (4, .int (b1)), (2, .int 3), (0, .ref 64), (1, .int (xs 1))], [.int (xs 1)], (jzv268 b0 b1 b2 b3)) : jS)) rfl ?_
  refine jl_s (S' := ((108, [(3, .int 2), (4, .int (b1)), (2, .int 3), (0, .ref 64), (1, .int (xs 1))], [.int 8, .int (xs 1)], (jzv268 b0 b1 b2 b3)) : jS)) rfl ?_
  refine jl_s (S' := ((109, [(3, .int 2), (4, .int (b1)), (2, .int 3), (0, .ref 64), (1, .int (xs 1))], [.int 2, .int 8, .int (xs 1)], (jzv268 b0 b1 b2 b3)) : jS)) rfl ?_
  refine jl_s (S' := ((110, [(3, .int 2), (4, .int (b1)), (2, .int 3), (0, .ref 64), (1, .int (xs 1))], [.int 16, .int (xs 1)], (jzv268 b0 b1 b2 b3)) : jS)) rfl ?_
  refine jl_s (S' := ((111, [(3, .int 2), (4, .int (b1)), (2, .int 3), (0, .ref 64), (1, .int (xs 1))], [.int ((Int32.toUInt32 (xs 1) >>> (Int32.toUInt32 16 &&& Int32.toUInt32 31)).toInt32)], (jzv268 b0 b1 b2 b3)) : jS)) rfl ?_
  refine jl_s (S' := ((114, [(3, .int 2), (4, .int (b1)), (2, .int 3), (0, .ref 64), (1, .int (xs 1))], [.int 255, .int ((Int32.toUInt32 (xs 1) >>> (Int32.toUInt32 16 &&& Int32.toUInt32 31)).toInt32)], (jzv268 b0 b1 b2 b3)) : jS)) rfl ?_
  refine jl_s (S' := ((115, [(3, .int 2), (4, .int (b1)), (2, .int 3), (0, .ref 64), (1, .int (xs 1))], [.int (((Int32.toUInt32 (xs 1) >>> (Int32.toUInt32 16 &&& Int32.toUInt32 31)).toInt32) &&& 255)], (jzv268 b0 b1 b2 b3)) : jS)) rfl ?_
  rw [e]
  refine jl_s (S' := ((117, [(4, .int (b2)), (3, .int 2), (2, .int 3), (0, .ref 64), (1, .int (xs 1))], [], (jzv268 b0 b1 b2 b3)) : jS)) rfl ?_
  refine jl_s (S' := ((119, [(4, .int (b2)), (3, .int 2), (2, .int 3), (0, .ref 64), (1, .int (xs 1))], [.int (b2)], (jzv268 b0 b1 b2 b3)) : jS)) rfl ?_
  refine jl_iff (e := jm20) (o := 35) rfl (h.1) ?_
  refine jl_s (S' := ((123, [(4, .int (b2)), (3, .int 2), (2, .int 3), (0, .ref 64), (1, .int (xs 1))], [.ref 64], (jzv268 b0 b1 b2 b3)) : jS)) rfl ?_
  refine jl_s (S' := ((126, [(4, .int (b2)), (3, .int 2), (2, .int 3), (0, .ref 64), (1, .int (xs 1))], [.int 1], (jzv268 b0 b1 b2 b3)) : jS)) rfl ?_
  refine jl_s (S' := ((129, [(4, .int (b2)), (3, .int 2), (2, .int 3), (0, .ref 64), (1, .int (xs 1))], [.int 3000, .int 1], (jzv268 b0 b1 b2 b3)) : jS)) rfl ?_
  refine jl_s (S' := ((132, [(4, .int (b2)), (3, .int 2), (2, .int 3), (0, .ref 64), (1, .int (xs 1))], [], (jzv268 b0 b1 b2 b3)) : jS)) rfl ?_
  refine jl_s (S' := ((133, [(4, .int (b2)), (3, .int 2), (2, .int 3), (0, .ref 64), (1, .int (xs 1))], [.ref 64], (jzv268 b0 b1 b2 b3)) : jS)) rfl ?_
  refine jl_s (S' := ((136, [(4, .int (b2)), (3, .int 2), (2, .int 3), (0, .ref 64), (1, .int (xs 1))], [.ref 65], (jzv268 b0 b1 b2 b3)) : jS)) rfl ?_
  refine jl_s (S' := ((137, [(4, .int (b2)), (3, .int 2), (2, .int 3), (0, .ref 64), (1, .int (xs 1))], [.ref 64, .ref 65], (jzv268 b0 b1 b2 b3)) : jS)) rfl ?_
  refine jl_s (S' := ((140, [(4, .int (b2)), (3, .int 2), (2, .int 3), (0, .ref 64), (1, .int (xs 1))], [.int 1, .ref 65], (jzv268 b0 b1 b2 b3)) : jS)) rfl ?_
  refine jl_s (S' := ((142, [(4, .int (b2)), (3, .int 2), (2, .int 3), (0, .ref 64), (1, .int (xs 1))], [.int (b2), .int 1, .ref 65], (jzv268 b0 b1 b2 b3)) : jS)) rfl ?_
  refine jl_s (S' := ((143, [(4, .int (b2)), (3, .int 2), (2, .int 3), (0, .ref 64), (1, .int (xs 1))], [.int ((b2).toInt8.toInt32), .int 1, .ref 65], (jzv268 b0 b1 b2 b3)) : jS)) rfl ?_
  refine jl_s (S' := ((144, [(4, .int (b2)), (3, .int 2), (2, .int 3), (0, .ref 64), (1, .int (xs 1))], [], (jzv271 b0 b1 b2 b3)) : jS)) rfl ?_
  refine jl_s (S' := ((145, [(4, .int (b2)), (3, .int 2), (2, .int 3), (0, .ref 64), (1, .int (xs 1))], [.ref 64], (jzv271 b0 b1 b2 b3)) : jS)) rfl ?_
  refine jl_s (S' := ((146, [(4, .int (b2)), (3, .int 2), (2, .int 3), (0, .ref 64), (1, .int (xs 1))], [.ref 64, .ref 64], (jzv271 b0 b1 b2 b3)) : jS)) rfl ?_
  refine jl_s (S' := ((149, [(4, .int (b2)), (3, .int 2), (2, .int 3), (0, .ref 64), (1, .int (xs 1))], [.int 1, .ref 64], (jzv271 b0 b1 b2 b3)) : jS)) rfl ?_
  refine jl_s (S' := ((150, [(4, .int (b2)), (3, .int 2), (2, .int 3), (0, .ref 64), (1, .int (xs 1))], [.int 1, .int 1, .ref 64], (jzv271 b0 b1 b2 b3)) : jS)) rfl ?_
  refine jl_s (S' := ((151, [(4, .int (b2)), (3, .int 2), (2, .int 3), (0, .ref 64), (1, .int (xs 1))], [.int 2, .ref 64], (jzv271 b0 b1 b2 b3)) : jS)) rfl ?_
  refine jl_s (S' := ((154, [(4, .int (b2)), (3, .int 2), (2, .int 3), (0, .ref 64), (1, .int (xs 1))], [], (jzv272 b0 b1 b2 b3)) : jS)) rfl ?_
  refine jl_s (S' := ((157, [(3, .int 3), (4, .int (b2)), (2, .int 3), (0, .ref 64), (1, .int (xs 1))], [], (jzv272 b0 b1 b2 b3)) : jS)) rfl ?_
  refine jl_s (S' := ((100, [(3, .int 3), (4, .int (b2)), (2, .int 3), (0, .ref 64), (1, .int (xs 1))], [], (jzv272 b0 b1 b2 b3)) : jS)) rfl ?_
  exact hq
def jzc189 (b0 b1 b2 b3 : Int32) : jC := .inl (0, 3000, .inl (upd (upd (upd (fun _ => 0) 0 (vp_nar .byte ((b1).toInt8.toInt32))) 1 (vp_nar .byte ((b2).toInt8.toInt32))) 2 (vp_nar .byte ((b3).toInt8.toInt32))))
def jzv273 (b0 b1 b2 b3 : Int32) : jH := [jzc185, (jzc189 b0 b1 b2 b3), jzc117, jzc7, jzc9, jzc9, jzc9, jzc9, jzc9, jzc17, jzc19, jzc19, jzc19, jzc19, jzc19, jzc19, jzc19, jzc19, jzc28, jzc28, jzc28, jzc28, jzc28, jzc28, jzc28, jzc28, jzc28, jzc28, jzc28, jzc28, jzc28, jzc28, jzc43, jzc43, jzc43, jzc43, jzc43, jzc49, jzc49, jzc52, jzc52, jzc52, jzc56, jzc56, jzc59, jzc56, jzc62, jzc28, jzc28, jzc28, jzc28, jzc28, jzc69, jzc71, jzc73, jzc43, jzc76, jzc52, jzc52, jzc80, jzc80, jzc80, jzc84, jzc52, jzc52, jzc52, jzc52, jzc52, jzc52, jzc52, jzc93, jzc93, jzc52, jzc52, jzc98, jzc100, jzc93, jzc52, jzc52, jzc52, jzc52, jzc107, jzc109, jzc111, jzc100, jzc100, jzc100, jzc111, jzc111, jzc118]
def jzc190 : jC := .inr (0, [.ref 65, .int 3, .int 0, .int (-1), .int (-1), .null, .null])
def jzv274 (b0 b1 b2 b3 : Int32) : jH := [jzc190, (jzc189 b0 b1 b2 b3), jzc117, jzc7, jzc9, jzc9, jzc9, jzc9, jzc9, jzc17, jzc19, jzc19, jzc19, jzc19, jzc19, jzc19, jzc19, jzc19, jzc28, jzc28, jzc28, jzc28, jzc28, jzc28, jzc28, jzc28, jzc28, jzc28, jzc28, jzc28, jzc28, jzc28, jzc43, jzc43, jzc43, jzc43, jzc43, jzc49, jzc49, jzc52, jzc52, jzc52, jzc56, jzc56, jzc59, jzc56, jzc62, jzc28, jzc28, jzc28, jzc28, jzc28, jzc69, jzc71, jzc73, jzc43, jzc76, jzc52, jzc52, jzc80, jzc80, jzc80, jzc84, jzc52, jzc52, jzc52, jzc52, jzc52, jzc52, jzc52, jzc93, jzc93, jzc52, jzc52, jzc98, jzc100, jzc93, jzc52, jzc52, jzc52, jzc52, jzc107, jzc109, jzc111, jzc100, jzc100, jzc100, jzc111, jzc111, jzc118]
set_option maxHeartbeats 4000000 in
set_option maxRecDepth 100000 in
theorem jzq373 (xs : Nat → Int32) (b0 b1 b2 b3 : Int32) (e : ((Int32.toUInt32 (xs 1) >>> (Int32.toUInt32 24 &&& Int32.toUInt32 31)).toInt32) &&& 255 = b3) (h : jbn b3) {f : Nat} {q : jO × jH} (hq : jLoop (jRun ((4, xs) : jX) 2000 37) ((4, xs) : jX) jm20 f ((100, [(3, .int 4), (4, .int (b3)), (2, .int 3), (0, .ref 64), (1, .int (xs 1))], [], (jzv274 b0 b1 b2 b3)) : jS) = some q) : jLoop (jRun ((4, xs) : jX) 2000 37) ((4, xs) : jX) jm20 (f + 32) ((100, [(3, .int 3), (4, .int (b2)), (2, .int 3), (0, .ref 64), (1, .int (xs 1))], [], (jzv272 b0 b1 b2 b3)) : jS) = some q := by
  refine jl_s (S' := ((101, [(3, .int 3), (4, .int (b2)), (2, .int 3), (0, .ref 64), (1, .int (xs 1))], [.int 3], (jzv272 b0 b1 b2 b3)) : jS)) rfl ?_
  refine jl_s (S' := ((102, [(3, .int 3), (4, .int (b2)), (2, .int 3), (0, .ref 64), (1, .int (xs 1))], [.int 4, .int 3], (jzv272 b0 b1 b2 b3)) : jS)) rfl ?_
  refine jl_s (S' := ((105, [(3, .int 3), (4, .int (b2)), (2, .int 3), (0, .ref 64), (1, .int (xs 1))], [], (jzv272 b0 b1 b2 b3)) : jS)) rfl ?_
  refine jl_s (S' := ((106, [(3, .int 3), (4, .int (b2)), (2, .int 3), (0, .ref 64), (1, .int (xs 1))], [.int (xs 1)], (jzv272 b0 b1 b2 b3)) : jS)) rfl ?_
  refine jl_s (S' := ((108, [(3, .int 3), (4, .int (b2)), (2, .int 3), (0, .ref 64), (1, .int (xs 1))], [.int 8, .int (xs 1)], (jzv272 b0 b1 b2 b3)) : jS)) rfl ?_
  refine jl_s (S' := ((109, [(3, .int 3), (4, .int (b2)), (2, .int 3), (0, .ref 64), (1, .int (xs 1))], [.int 3, .int 8, .int (xs 1)], (jzv272 b0 b1 b2 b3)) : jS)) rfl ?_
  refine jl_s (S' := ((110, [(3, .int 3), (4, .int (b2)), (2, .int 3), (0, .ref 64), (1, .int (xs 1))], [.int 24, .int (xs 1)], (jzv272 b0 b1 b2 b3)) : jS)) rfl ?_
  refine jl_s (S' := ((111, [(3, .int 3), (4, .int (b2)), (2, .int 3), (0, .ref 64), (1, .int (xs 1))], [.int ((Int32.toUInt32 (xs 1) >>> (Int32.toUInt32 24 &&& Int32.toUInt32 31)).toInt32)], (jzv272 b0 b1 b2 b3)) : jS)) rfl ?_
  refine jl_s (S' := ((114, [(3, .int 3), (4, .int (b2)), (2, .int 3), (0, .ref 64), (1, .int (xs 1))], [.int 255, .int ((Int32.toUInt32 (xs 1) >>> (Int32.toUInt32 24 &&& Int32.toUInt32 31)).toInt32)], (jzv272 b0 b1 b2 b3)) : jS)) rfl ?_
  refine jl_s (S' := ((115, [(3, .int 3), (4, .int (b2)), (2, .int 3), (0, .ref 64), (1, .int (xs 1))], [.int (((Int32.toUInt32 (xs 1) >>> (Int32.toUInt32 24 &&& Int32.toUInt32 31)).toInt32) &&& 255)], (jzv272 b0 b1 b2 b3)) : jS)) rfl ?_
  rw [e]
  refine jl_s (S' := ((117, [(4, .int (b3)), (3, .int 3), (2, .int 3), (0, .ref 64), (1, .int (xs 1))], [], (jzv272 b0 b1 b2 b3)) : jS)) rfl ?_
  refine jl_s (S' := ((119, [(4, .int (b3)), (3, .int 3), (2, .int 3), (0, .ref 64), (1, .int (xs 1))], [.int (b3)], (jzv272 b0 b1 b2 b3)) : jS)) rfl ?_
  refine jl_iff (e := jm20) (o := 35) rfl (h.1) ?_
  refine jl_s (S' := ((123, [(4, .int (b3)), (3, .int 3), (2, .int 3), (0, .ref 64), (1, .int (xs 1))], [.ref 64], (jzv272 b0 b1 b2 b3)) : jS)) rfl ?_
  refine jl_s (S' := ((126, [(4, .int (b3)), (3, .int 3), (2, .int 3), (0, .ref 64), (1, .int (xs 1))], [.int 2], (jzv272 b0 b1 b2 b3)) : jS)) rfl ?_
  refine jl_s (S' := ((129, [(4, .int (b3)), (3, .int 3), (2, .int 3), (0, .ref 64), (1, .int (xs 1))], [.int 3000, .int 2], (jzv272 b0 b1 b2 b3)) : jS)) rfl ?_
  refine jl_s (S' := ((132, [(4, .int (b3)), (3, .int 3), (2, .int 3), (0, .ref 64), (1, .int (xs 1))], [], (jzv272 b0 b1 b2 b3)) : jS)) rfl ?_
  refine jl_s (S' := ((133, [(4, .int (b3)), (3, .int 3), (2, .int 3), (0, .ref 64), (1, .int (xs 1))], [.ref 64], (jzv272 b0 b1 b2 b3)) : jS)) rfl ?_
  refine jl_s (S' := ((136, [(4, .int (b3)), (3, .int 3), (2, .int 3), (0, .ref 64), (1, .int (xs 1))], [.ref 65], (jzv272 b0 b1 b2 b3)) : jS)) rfl ?_
  refine jl_s (S' := ((137, [(4, .int (b3)), (3, .int 3), (2, .int 3), (0, .ref 64), (1, .int (xs 1))], [.ref 64, .ref 65], (jzv272 b0 b1 b2 b3)) : jS)) rfl ?_
  refine jl_s (S' := ((140, [(4, .int (b3)), (3, .int 3), (2, .int 3), (0, .ref 64), (1, .int (xs 1))], [.int 2, .ref 65], (jzv272 b0 b1 b2 b3)) : jS)) rfl ?_
  refine jl_s (S' := ((142, [(4, .int (b3)), (3, .int 3), (2, .int 3), (0, .ref 64), (1, .int (xs 1))], [.int (b3), .int 2, .ref 65], (jzv272 b0 b1 b2 b3)) : jS)) rfl ?_
  refine jl_s (S' := ((143, [(4, .int (b3)), (3, .int 3), (2, .int 3), (0, .ref 64), (1, .int (xs 1))], [.int ((b3).toInt8.toInt32), .int 2, .ref 65], (jzv272 b0 b1 b2 b3)) : jS)) rfl ?_
  refine jl_s (S' := ((144, [(4, .int (b3)), (3, .int 3), (2, .int 3), (0, .ref 64), (1, .int (xs 1))], [], (jzv273 b0 b1 b2 b3)) : jS)) rfl ?_
  refine jl_s (S' := ((145, [(4, .int (b3)), (3, .int 3), (2, .int 3), (0, .ref 64), (1, .int (xs 1))], [.ref 64], (jzv273 b0 b1 b2 b3)) : jS)) rfl ?_
  refine jl_s (S' := ((146, [(4, .int (b3)), (3, .int 3), (2, .int 3), (0, .ref 64), (1, .int (xs 1))], [.ref 64, .ref 64], (jzv273 b0 b1 b2 b3)) : jS)) rfl ?_
  refine jl_s (S' := ((149, [(4, .int (b3)), (3, .int 3), (2, .int 3), (0, .ref 64), (1, .int (xs 1))], [.int 2, .ref 64], (jzv273 b0 b1 b2 b3)) : jS)) rfl ?_
  refine jl_s (S' := ((150, [(4, .int (b3)), (3, .int 3), (2, .int 3), (0, .ref 64), (1, .int (xs 1))], [.int 1, .int 2, .ref 64], (jzv273 b0 b1 b2 b3)) : jS)) rfl ?_
  refine jl_s (S' := ((151, [(4, .int (b3)), (3, .int 3), (2, .int 3), (0, .ref 64), (1, .int (xs 1))], [.int 3, .ref 64], (jzv273 b0 b1 b2 b3)) : jS)) rfl ?_
  refine jl_s (S' := ((154, [(4, .int (b3)), (3, .int 3), (2, .int 3), (0, .ref 64), (1, .int (xs 1))], [], (jzv274 b0 b1 b2 b3)) : jS)) rfl ?_
  refine jl_s (S' := ((157, [(3, .int 4), (4, .int (b3)), (2, .int 3), (0, .ref 64), (1, .int (xs 1))], [], (jzv274 b0 b1 b2 b3)) : jS)) rfl ?_
  refine jl_s (S' := ((100, [(3, .int 4), (4, .int (b3)), (2, .int 3), (0, .ref 64), (1, .int (xs 1))], [], (jzv274 b0 b1 b2 b3)) : jS)) rfl ?_
  exact hq
set_option maxHeartbeats 4000000 in
set_option maxRecDepth 100000 in
theorem jzq375 (xs : Nat → Int32) (b0 b1 b2 b3 : Int32) {f : Nat} : jLoop (jRun ((4, xs) : jX) 2000 37) ((4, xs) : jX) jm20 (f + 6) ((100, [(3, .int 4), (4, .int (b3)), (2, .int 3), (0, .ref 64), (1, .int (xs 1))], [], (jzv274 b0 b1 b2 b3)) : jS) = some (.inl (some (.int 3)), (jzv274 b0 b1 b2 b3)) := by
  refine jl_s (S' := ((101, [(3, .int 4), (4, .int (b3)), (2, .int 3), (0, .ref 64), (1, .int (xs 1))], [.int 4], (jzv274 b0 b1 b2 b3)) : jS)) rfl ?_
  refine jl_s (S' := ((102, [(3, .int 4), (4, .int (b3)), (2, .int 3), (0, .ref 64), (1, .int (xs 1))], [.int 4, .int 4], (jzv274 b0 b1 b2 b3)) : jS)) rfl ?_
  refine jl_s (S' := ((160, [(3, .int 4), (4, .int (b3)), (2, .int 3), (0, .ref 64), (1, .int (xs 1))], [], (jzv274 b0 b1 b2 b3)) : jS)) rfl ?_
  refine jl_s (S' := ((161, [(3, .int 4), (4, .int (b3)), (2, .int 3), (0, .ref 64), (1, .int (xs 1))], [.ref 64], (jzv274 b0 b1 b2 b3)) : jS)) rfl ?_
  refine jl_s (S' := ((164, [(3, .int 4), (4, .int (b3)), (2, .int 3), (0, .ref 64), (1, .int (xs 1))], [.int 3], (jzv274 b0 b1 b2 b3)) : jS)) rfl ?_
  exact jl_r (r := (.inl (some (.int 3)), (jzv274 b0 b1 b2 b3))) rfl
set_option maxHeartbeats 4000000 in
set_option maxRecDepth 100000 in
theorem jzcp_ZVVV (xs : Nat → Int32) (b0 b1 b2 b3 : Int32) (e0 : ((Int32.toUInt32 (xs 1) >>> (Int32.toUInt32 0 &&& Int32.toUInt32 31)).toInt32) &&& 255 = b0) (e1 : ((Int32.toUInt32 (xs 1) >>> (Int32.toUInt32 8 &&& Int32.toUInt32 31)).toInt32) &&& 255 = b1) (e2 : ((Int32.toUInt32 (xs 1) >>> (Int32.toUInt32 16 &&& Int32.toUInt32 31)).toInt32) &&& 255 = b2) (e3 : ((Int32.toUInt32 (xs 1) >>> (Int32.toUInt32 24 &&& Int32.toUInt32 31)).toInt32) &&& 255 = b3) (h0 : jbz b0) (h1 : jbv b1) (h2 : jbv b2) (h3 : jbv b3) : jRun ((4, xs) : jX) 2000 38 20 [.ref 64, .int (xs 1)] jzv181 = some (.inl (some (.int 3)), (jzv274 b0 b1 b2 b3)) := by
  refine jr_run (e := jm20) rfl (Nat.le_of_ble_eq_true rfl) ?_
  refine jzq267 xs b0 b1 b2 b3 ?_
  refine jzq269 xs b0 b1 b2 b3 e0 h0 ?_
  refine jzq331 xs b0 b1 b2 b3 e1 h1 ?_
  refine jzq352 xs b0 b1 b2 b3 e2 h2 ?_
  refine jzq363 xs b0 b1 b2 b3 e3 h3 ?_
  refine jzq365 xs b0 b1 b2 b3 ?_
  refine jzq367 xs b0 b1 b2 b3 e0 h0 ?_
  refine jzq369 xs b0 b1 b2 b3 e1 h1.1 ?_
  refine jzq371 xs b0 b1 b2 b3 e2 h2.1 ?_
  refine jzq373 xs b0 b1 b2 b3 e3 h3.1 ?_
  exact jzq375 xs b0 b1 b2 b3
set_option maxHeartbeats 4000000 in
set_option maxRecDepth 100000 in
theorem jzq378 (xs : Nat → Int32) (b0 b1 b2 b3 : Int32) (e : ((Int32.toUInt32 (xs 1) >>> (Int32.toUInt32 0 &&& Int32.toUInt32 31)).toInt32) &&& 255 = b0) (h : jbv b0) {f : Nat} {q : jO × jH} (hq : jLoop (jRun ((4, xs) : jX) 2000 37) ((4, xs) : jX) jm20 f ((4, [(3, .int 1), (2, .int 1), (4, .int (b0)), (0, .ref 64), (1, .int (xs 1))], [], jzv181) : jS) = some q) : jLoop (jRun ((4, xs) : jX) 2000 37) ((4, xs) : jX) jm20 (f + 30) ((4, [(3, .int 0), (2, .int 0), (0, .ref 64), (1, .int (xs 1))], [], jzv181) : jS) = some q := by
  rcases h.2 with h1 | ⟨h1, h2, h3, h4⟩
  · refine jl_s (S' := ((5, [(3, .int 0), (2, .int 0), (0, .ref 64), (1, .int (xs 1))], [.int 0], jzv181) : jS)) rfl ?_
    refine jl_s (S' := ((6, [(3, .int 0), (2, .int 0), (0, .ref 64), (1, .int (xs 1))], [.int 4, .int 0], jzv181) : jS)) rfl ?_
    refine jl_s (S' := ((9, [(3, .int 0), (2, .int 0), (0, .ref 64), (1, .int (xs 1))], [], jzv181) : jS)) rfl ?_
    refine jl_s (S' := ((10, [(3, .int 0), (2, .int 0), (0, .ref 64), (1, .int (xs 1))], [.int (xs 1)], jzv181) : jS)) rfl ?_
    refine jl_s (S' := ((12, [(3, .int 0), (2, .int 0), (0, .ref 64), (1, .int (xs 1))], [.int 8, .int (xs 1)], jzv181) : jS)) rfl ?_
    refine jl_s (S' := ((13, [(3, .int 0), (2, .int 0), (0, .ref 64), (1, .int (xs 1))], [.int 0, .int 8, .int (xs 1)], jzv181) : jS)) rfl ?_
    refine jl_s (S' := ((14, [(3, .int 0), (2, .int 0), (0, .ref 64), (1, .int (xs 1))], [.int 0, .int (xs 1)], jzv181) : jS)) rfl ?_
    refine jl_s (S' := ((15, [(3, .int 0), (2, .int 0), (0, .ref 64), (1, .int (xs 1))], [.int ((Int32.toUInt32 (xs 1) >>> (Int32.toUInt32 0 &&& Int32.toUInt32 31)).toInt32)], jzv181) : jS)) rfl ?_
    refine jl_s (S' := ((18, [(3, .int 0), (2, .int 0), (0, .ref 64), (1, .int (xs 1))], [.int 255, .int ((Int32.toUInt32 (xs 1) >>> (Int32.toUInt32 0 &&& Int32.toUInt32 31)).toInt32)], jzv181) : jS)) rfl ?_
    refine jl_s (S' := ((19, [(3, .int 0), (2, .int 0), (0, .ref 64), (1, .int (xs 1))], [.int (((Int32.toUInt32 (xs 1) >>> (Int32.toUInt32 0 &&& Int32.toUInt32 31)).toInt32) &&& 255)], jzv181) : jS)) rfl ?_
    rw [e]
    refine jl_s (S' := ((21, [(4, .int (b0)), (3, .int 0), (2, .int 0), (0, .ref 64), (1, .int (xs 1))], [], jzv181) : jS)) rfl ?_
    refine jl_s (S' := ((23, [(4, .int (b0)), (3, .int 0), (2, .int 0), (0, .ref 64), (1, .int (xs 1))], [.int (b0)], jzv181) : jS)) rfl ?_
    refine jl_iff (e := jm20) (o := 34) rfl (h.1.1) ?_
    refine jl_s (S' := ((28, [(4, .int (b0)), (3, .int 0), (2, .int 0), (0, .ref 64), (1, .int (xs 1))], [.int (b0)], jzv181) : jS)) rfl ?_
    refine jl_s (S' := ((30, [(4, .int (b0)), (3, .int 0), (2, .int 0), (0, .ref 64), (1, .int (xs 1))], [.int 10, .int (b0)], jzv181) : jS)) rfl ?_
    refine jl_ict (e := jm20) (o := 27) rfl (h1) (t := 57) rfl ?_
    refine jl_s (S' := ((58, [(4, .int (b0)), (3, .int 0), (2, .int 0), (0, .ref 64), (1, .int (xs 1))], [.int 0], jzv181) : jS)) rfl ?_
    refine jl_s (S' := ((60, [(4, .int (b0)), (3, .int 0), (2, .int 0), (0, .ref 64), (1, .int (xs 1))], [.int (b0), .int 0], jzv181) : jS)) rfl ?_
    refine jl_ift (e := jm20) (o := 7) rfl (h.1.2) (t := 67) rfl ?_
    refine jl_s (S' := ((68, [(4, .int (b0)), (3, .int 0), (2, .int 0), (0, .ref 64), (1, .int (xs 1))], [.int 1, .int 0], jzv181) : jS)) rfl ?_
    refine jl_s (S' := ((69, [(4, .int (b0)), (3, .int 0), (2, .int 0), (0, .ref 64), (1, .int (xs 1))], [.int 1], jzv181) : jS)) rfl ?_
    refine jl_s (S' := ((70, [(2, .int 1), (4, .int (b0)), (3, .int 0), (0, .ref 64), (1, .int (xs 1))], [], jzv181) : jS)) rfl ?_
    refine jl_s (S' := ((73, [(3, .int 1), (2, .int 1), (4, .int (b0)), (0, .ref 64), (1, .int (xs 1))], [], jzv181) : jS)) rfl ?_
    refine jl_s (S' := ((4, [(3, .int 1), (2, .int 1), (4, .int (b0)), (0, .ref 64), (1, .int (xs 1))], [], jzv181) : jS)) rfl ?_
    exact jl_more hq
  · refine jl_s (S' := ((5, [(3, .int 0), (2, .int 0), (0, .ref 64), (1, .int (xs 1))], [.int 0], jzv181) : jS)) rfl ?_
    refine jl_s (S' := ((6, [(3, .int 0), (2, .int 0), (0, .ref 64), (1, .int (xs 1))], [.int 4, .int 0], jzv181) : jS)) rfl ?_
    refine jl_s (S' := ((9, [(3, .int 0), (2, .int 0), (0, .ref 64), (1, .int (xs 1))], [], jzv181) : jS)) rfl ?_
    refine jl_s (S' := ((10, [(3, .int 0), (2, .int 0), (0, .ref 64), (1, .int (xs 1))], [.int (xs 1)], jzv181) : jS)) rfl ?_
    refine jl_s (S' := ((12, [(3, .int 0), (2, .int 0), (0, .ref 64), (1, .int (xs 1))], [.int 8, .int (xs 1)], jzv181) : jS)) rfl ?_
    refine jl_s (S' := ((13, [(3, .int 0), (2, .int 0), (0, .ref 64), (1, .int (xs 1))], [.int 0, .int 8, .int (xs 1)], jzv181) : jS)) rfl ?_
    refine jl_s (S' := ((14, [(3, .int 0), (2, .int 0), (0, .ref 64), (1, .int (xs 1))], [.int 0, .int (xs 1)], jzv181) : jS)) rfl ?_
    refine jl_s (S' := ((15, [(3, .int 0), (2, .int 0), (0, .ref 64), (1, .int (xs 1))], [.int ((Int32.toUInt32 (xs 1) >>> (Int32.toUInt32 0 &&& Int32.toUInt32 31)).toInt32)], jzv181) : jS)) rfl ?_
    refine jl_s (S' := ((18, [(3, .int 0), (2, .int 0), (0, .ref 64), (1, .int (xs 1))], [.int 255, .int ((Int32.toUInt32 (xs 1) >>> (Int32.toUInt32 0 &&& Int32.toUInt32 31)).toInt32)], jzv181) : jS)) rfl ?_
    refine jl_s (S' := ((19, [(3, .int 0), (2, .int 0), (0, .ref 64), (1, .int (xs 1))], [.int (((Int32.toUInt32 (xs 1) >>> (Int32.toUInt32 0 &&& Int32.toUInt32 31)).toInt32) &&& 255)], jzv181) : jS)) rfl ?_
    rw [e]
    refine jl_s (S' := ((21, [(4, .int (b0)), (3, .int 0), (2, .int 0), (0, .ref 64), (1, .int (xs 1))], [], jzv181) : jS)) rfl ?_
    refine jl_s (S' := ((23, [(4, .int (b0)), (3, .int 0), (2, .int 0), (0, .ref 64), (1, .int (xs 1))], [.int (b0)], jzv181) : jS)) rfl ?_
    refine jl_iff (e := jm20) (o := 34) rfl (h.1.1) ?_
    refine jl_s (S' := ((28, [(4, .int (b0)), (3, .int 0), (2, .int 0), (0, .ref 64), (1, .int (xs 1))], [.int (b0)], jzv181) : jS)) rfl ?_
    refine jl_s (S' := ((30, [(4, .int (b0)), (3, .int 0), (2, .int 0), (0, .ref 64), (1, .int (xs 1))], [.int 10, .int (b0)], jzv181) : jS)) rfl ?_
    refine jl_icf (e := jm20) (o := 27) rfl (h1) ?_
    refine jl_s (S' := ((35, [(4, .int (b0)), (3, .int 0), (2, .int 0), (0, .ref 64), (1, .int (xs 1))], [.int (b0)], jzv181) : jS)) rfl ?_
    refine jl_s (S' := ((37, [(4, .int (b0)), (3, .int 0), (2, .int 0), (0, .ref 64), (1, .int (xs 1))], [.int 32, .int (b0)], jzv181) : jS)) rfl ?_
    refine jl_icf (e := jm20) (o := 10) rfl (h2) ?_
    refine jl_s (S' := ((42, [(4, .int (b0)), (3, .int 0), (2, .int 0), (0, .ref 64), (1, .int (xs 1))], [.int (b0)], jzv181) : jS)) rfl ?_
    refine jl_s (S' := ((44, [(4, .int (b0)), (3, .int 0), (2, .int 0), (0, .ref 64), (1, .int (xs 1))], [.int 126, .int (b0)], jzv181) : jS)) rfl ?_
    refine jl_ict (e := jm20) (o := 13) rfl (h3) (t := 57) rfl ?_
    refine jl_s (S' := ((58, [(4, .int (b0)), (3, .int 0), (2, .int 0), (0, .ref 64), (1, .int (xs 1))], [.int 0], jzv181) : jS)) rfl ?_
    refine jl_s (S' := ((60, [(4, .int (b0)), (3, .int 0), (2, .int 0), (0, .ref 64), (1, .int (xs 1))], [.int (b0), .int 0], jzv181) : jS)) rfl ?_
    refine jl_ift (e := jm20) (o := 7) rfl (h.1.2) (t := 67) rfl ?_
    refine jl_s (S' := ((68, [(4, .int (b0)), (3, .int 0), (2, .int 0), (0, .ref 64), (1, .int (xs 1))], [.int 1, .int 0], jzv181) : jS)) rfl ?_
    refine jl_s (S' := ((69, [(4, .int (b0)), (3, .int 0), (2, .int 0), (0, .ref 64), (1, .int (xs 1))], [.int 1], jzv181) : jS)) rfl ?_
    refine jl_s (S' := ((70, [(2, .int 1), (4, .int (b0)), (3, .int 0), (0, .ref 64), (1, .int (xs 1))], [], jzv181) : jS)) rfl ?_
    refine jl_s (S' := ((73, [(3, .int 1), (2, .int 1), (4, .int (b0)), (0, .ref 64), (1, .int (xs 1))], [], jzv181) : jS)) rfl ?_
    refine jl_s (S' := ((4, [(3, .int 1), (2, .int 1), (4, .int (b0)), (0, .ref 64), (1, .int (xs 1))], [], jzv181) : jS)) rfl ?_
    exact hq
set_option maxHeartbeats 4000000 in
set_option maxRecDepth 100000 in
theorem jzq380 (xs : Nat → Int32) (b0 b1 b2 b3 : Int32) (e : ((Int32.toUInt32 (xs 1) >>> (Int32.toUInt32 8 &&& Int32.toUInt32 31)).toInt32) &&& 255 = b1) (h : jbz b1) {f : Nat} {q : jO × jH} (hq : jLoop (jRun ((4, xs) : jX) 2000 37) ((4, xs) : jX) jm20 f ((4, [(3, .int 2), (2, .int 1), (4, .int (b1)), (0, .ref 64), (1, .int (xs 1))], [], jzv181) : jS) = some q) : jLoop (jRun ((4, xs) : jX) 2000 37) ((4, xs) : jX) jm20 (f + 22) ((4, [(3, .int 1), (2, .int 1), (4, .int (b0)), (0, .ref 64), (1, .int (xs 1))], [], jzv181) : jS) = some q := by
  refine jl_s (S' := ((5, [(3, .int 1), (2, .int 1), (4, .int (b0)), (0, .ref 64), (1, .int (xs 1))], [.int 1], jzv181) : jS)) rfl ?_
  refine jl_s (S' := ((6, [(3, .int 1), (2, .int 1), (4, .int (b0)), (0, .ref 64), (1, .int (xs 1))], [.int 4, .int 1], jzv181) : jS)) rfl ?_
  refine jl_s (S' := ((9, [(3, .int 1), (2, .int 1), (4, .int (b0)), (0, .ref 64), (1, .int (xs 1))], [], jzv181) : jS)) rfl ?_
  refine jl_s (S' := ((10, [(3, .int 1), (2, .int 1), (4, .int (b0)), (0, .ref 64), (1, .int (xs 1))], [.int (xs 1)], jzv181) : jS)) rfl ?_
  refine jl_s (S' := ((12, [(3, .int 1), (2, .int 1), (4, .int (b0)), (0, .ref 64), (1, .int (xs 1))], [.int 8, .int (xs 1)], jzv181) : jS)) rfl ?_
  refine jl_s (S' := ((13, [(3, .int 1), (2, .int 1), (4, .int (b0)), (0, .ref 64), (1, .int (xs 1))], [.int 1, .int 8, .int (xs 1)], jzv181) : jS)) rfl ?_
  refine jl_s (S' := ((14, [(3, .int 1), (2, .int 1), (4, .int (b0)), (0, .ref 64), (1, .int (xs 1))], [.int 8, .int (xs 1)], jzv181) : jS)) rfl ?_
  refine jl_s (S' := ((15, [(3, .int 1), (2, .int 1), (4, .int (b0)), (0, .ref 64), (1, .int (xs 1))], [.int ((Int32.toUInt32 (xs 1) >>> (Int32.toUInt32 8 &&& Int32.toUInt32 31)).toInt32)], jzv181) : jS)) rfl ?_
  refine jl_s (S' := ((18, [(3, .int 1), (2, .int 1), (4, .int (b0)), (0, .ref 64), (1, .int (xs 1))], [.int 255, .int ((Int32.toUInt32 (xs 1) >>> (Int32.toUInt32 8 &&& Int32.toUInt32 31)).toInt32)], jzv181) : jS)) rfl ?_
  refine jl_s (S' := ((19, [(3, .int 1), (2, .int 1), (4, .int (b0)), (0, .ref 64), (1, .int (xs 1))], [.int (((Int32.toUInt32 (xs 1) >>> (Int32.toUInt32 8 &&& Int32.toUInt32 31)).toInt32) &&& 255)], jzv181) : jS)) rfl ?_
  rw [e]
  refine jl_s (S' := ((21, [(4, .int (b1)), (3, .int 1), (2, .int 1), (0, .ref 64), (1, .int (xs 1))], [], jzv181) : jS)) rfl ?_
  refine jl_s (S' := ((23, [(4, .int (b1)), (3, .int 1), (2, .int 1), (0, .ref 64), (1, .int (xs 1))], [.int (b1)], jzv181) : jS)) rfl ?_
  refine jl_ift (e := jm20) (o := 34) rfl (h.1) (t := 57) rfl ?_
  refine jl_s (S' := ((58, [(4, .int (b1)), (3, .int 1), (2, .int 1), (0, .ref 64), (1, .int (xs 1))], [.int 1], jzv181) : jS)) rfl ?_
  refine jl_s (S' := ((60, [(4, .int (b1)), (3, .int 1), (2, .int 1), (0, .ref 64), (1, .int (xs 1))], [.int (b1), .int 1], jzv181) : jS)) rfl ?_
  refine jl_iff (e := jm20) (o := 7) rfl (h.2) ?_
  refine jl_s (S' := ((64, [(4, .int (b1)), (3, .int 1), (2, .int 1), (0, .ref 64), (1, .int (xs 1))], [.int 0, .int 1], jzv181) : jS)) rfl ?_
  refine jl_s (S' := ((68, [(4, .int (b1)), (3, .int 1), (2, .int 1), (0, .ref 64), (1, .int (xs 1))], [.int 0, .int 1], jzv181) : jS)) rfl ?_
  refine jl_s (S' := ((69, [(4, .int (b1)), (3, .int 1), (2, .int 1), (0, .ref 64), (1, .int (xs 1))], [.int 1], jzv181) : jS)) rfl ?_
  refine jl_s (S' := ((70, [(2, .int 1), (4, .int (b1)), (3, .int 1), (0, .ref 64), (1, .int (xs 1))], [], jzv181) : jS)) rfl ?_
  refine jl_s (S' := ((73, [(3, .int 2), (2, .int 1), (4, .int (b1)), (0, .ref 64), (1, .int (xs 1))], [], jzv181) : jS)) rfl ?_
  refine jl_s (S' := ((4, [(3, .int 2), (2, .int 1), (4, .int (b1)), (0, .ref 64), (1, .int (xs 1))], [], jzv181) : jS)) rfl ?_
  exact hq
def jzc191 (b0 b1 b2 b3 : Int32) : jC := .inl (0, 3000, .inl (upd (fun _ => 0) 0 (vp_nar .byte ((b0).toInt8.toInt32))))
def jzv275 (b0 b1 b2 b3 : Int32) : jH := [jzc5, (jzc191 b0 b1 b2 b3), jzc117, jzc7, jzc9, jzc9, jzc9, jzc9, jzc9, jzc17, jzc19, jzc19, jzc19, jzc19, jzc19, jzc19, jzc19, jzc19, jzc28, jzc28, jzc28, jzc28, jzc28, jzc28, jzc28, jzc28, jzc28, jzc28, jzc28, jzc28, jzc28, jzc28, jzc43, jzc43, jzc43, jzc43, jzc43, jzc49, jzc49, jzc52, jzc52, jzc52, jzc56, jzc56, jzc59, jzc56, jzc62, jzc28, jzc28, jzc28, jzc28, jzc28, jzc69, jzc71, jzc73, jzc43, jzc76, jzc52, jzc52, jzc80, jzc80, jzc80, jzc84, jzc52, jzc52, jzc52, jzc52, jzc52, jzc52, jzc52, jzc93, jzc93, jzc52, jzc52, jzc98, jzc100, jzc93, jzc52, jzc52, jzc52, jzc52, jzc107, jzc109, jzc111, jzc100, jzc100, jzc100, jzc111, jzc111, jzc118]
def jzv276 (b0 b1 b2 b3 : Int32) : jH := [jzc182, (jzc191 b0 b1 b2 b3), jzc117, jzc7, jzc9, jzc9, jzc9, jzc9, jzc9, jzc17, jzc19, jzc19, jzc19, jzc19, jzc19, jzc19, jzc19, jzc19, jzc28, jzc28, jzc28, jzc28, jzc28, jzc28, jzc28, jzc28, jzc28, jzc28, jzc28, jzc28, jzc28, jzc28, jzc43, jzc43, jzc43, jzc43, jzc43, jzc49, jzc49, jzc52, jzc52, jzc52, jzc56, jzc56, jzc59, jzc56, jzc62, jzc28, jzc28, jzc28, jzc28, jzc28, jzc69, jzc71, jzc73, jzc43, jzc76, jzc52, jzc52, jzc80, jzc80, jzc80, jzc84, jzc52, jzc52, jzc52, jzc52, jzc52, jzc52, jzc52, jzc93, jzc93, jzc52, jzc52, jzc98, jzc100, jzc93, jzc52, jzc52, jzc52, jzc52, jzc107, jzc109, jzc111, jzc100, jzc100, jzc100, jzc111, jzc111, jzc118]
set_option maxHeartbeats 4000000 in
set_option maxRecDepth 100000 in
theorem jzq382 (xs : Nat → Int32) (b0 b1 b2 b3 : Int32) (e : ((Int32.toUInt32 (xs 1) >>> (Int32.toUInt32 0 &&& Int32.toUInt32 31)).toInt32) &&& 255 = b0) (h : jbn b0) {f : Nat} {q : jO × jH} (hq : jLoop (jRun ((4, xs) : jX) 2000 37) ((4, xs) : jX) jm20 f ((100, [(3, .int 1), (4, .int (b0)), (2, .int 1), (0, .ref 64), (1, .int (xs 1))], [], (jzv276 b0 b1 b2 b3)) : jS) = some q) : jLoop (jRun ((4, xs) : jX) 2000 37) ((4, xs) : jX) jm20 (f + 32) ((100, [(3, .int 0), (2, .int 1), (4, .int (b3)), (0, .ref 64), (1, .int (xs 1))], [], jzv181) : jS) = some q := by
  refine jl_s (S' := ((101, [(3, .int 0), (2, .int 1), (4, .int (b3)), (0, .ref 64), (1, .int (xs 1))], [.int 0], jzv181) : jS)) rfl ?_
  refine jl_s (S' := ((102, [(3, .int 0), (2, .int 1), (4, .int (b3)), (0, .ref 64), (1, .int (xs 1))], [.int 4, .int 0], jzv181) : jS)) rfl ?_
  refine jl_s (S' := ((105, [(3, .int 0), (2, .int 1), (4, .int (b3)), (0, .ref 64), (1, .int (xs 1))], [], jzv181) : jS)) rfl ?_
  refine jl_s (S' := ((106, [(3, .int 0), (2, .int 1), (4, .int (b3)), (0, .ref 64), (1, .int (xs 1))], [.int (xs 1)], jzv181) : jS)) rfl ?_
  refine jl_s (S' := ((108, [(3, .int 0), (2, .int 1), (4, .int (b3)), (0, .ref 64), (1, .int (xs 1))], [.int 8, .int (xs 1)], jzv181) : jS)) rfl ?_
  refine jl_s (S' := ((109, [(3, .int 0), (2, .int 1), (4, .int (b3)), (0, .ref 64), (1, .int (xs 1))], [.int 0, .int 8, .int (xs 1)], jzv181) : jS)) rfl ?_
  refine jl_s (S' := ((110, [(3, .int 0), (2, .int 1), (4, .int (b3)), (0, .ref 64), (1, .int (xs 1))], [.int 0, .int (xs 1)], jzv181) : jS)) rfl ?_
  refine jl_s (S' := ((111, [(3, .int 0), (2, .int 1), (4, .int (b3)), (0, .ref 64), (1, .int (xs 1))], [.int ((Int32.toUInt32 (xs 1) >>> (Int32.toUInt32 0 &&& Int32.toUInt32 31)).toInt32)], jzv181) : jS)) rfl ?_
  refine jl_s (S' := ((114, [(3, .int 0), (2, .int 1), (4, .int (b3)), (0, .ref 64), (1, .int (xs 1))], [.int 255, .int ((Int32.toUInt32 (xs 1) >>> (Int32.toUInt32 0 &&& Int32.toUInt32 31)).toInt32)], jzv181) : jS)) rfl ?_
  refine jl_s (S' := ((115, [(3, .int 0), (2, .int 1), (4, .int (b3)), (0, .ref 64), (1, .int (xs 1))], [.int (((Int32.toUInt32 (xs 1) >>> (Int32.toUInt32 0 &&& Int32.toUInt32 31)).toInt32) &&& 255)], jzv181) : jS)) rfl ?_
  rw [e]
  refine jl_s (S' := ((117, [(4, .int (b0)), (3, .int 0), (2, .int 1), (0, .ref 64), (1, .int (xs 1))], [], jzv181) : jS)) rfl ?_
  refine jl_s (S' := ((119, [(4, .int (b0)), (3, .int 0), (2, .int 1), (0, .ref 64), (1, .int (xs 1))], [.int (b0)], jzv181) : jS)) rfl ?_
  refine jl_iff (e := jm20) (o := 35) rfl (h.1) ?_
  refine jl_s (S' := ((123, [(4, .int (b0)), (3, .int 0), (2, .int 1), (0, .ref 64), (1, .int (xs 1))], [.ref 64], jzv181) : jS)) rfl ?_
  refine jl_s (S' := ((126, [(4, .int (b0)), (3, .int 0), (2, .int 1), (0, .ref 64), (1, .int (xs 1))], [.int 0], jzv181) : jS)) rfl ?_
  refine jl_s (S' := ((129, [(4, .int (b0)), (3, .int 0), (2, .int 1), (0, .ref 64), (1, .int (xs 1))], [.int 3000, .int 0], jzv181) : jS)) rfl ?_
  refine jl_s (S' := ((132, [(4, .int (b0)), (3, .int 0), (2, .int 1), (0, .ref 64), (1, .int (xs 1))], [], jzv181) : jS)) rfl ?_
  refine jl_s (S' := ((133, [(4, .int (b0)), (3, .int 0), (2, .int 1), (0, .ref 64), (1, .int (xs 1))], [.ref 64], jzv181) : jS)) rfl ?_
  refine jl_s (S' := ((136, [(4, .int (b0)), (3, .int 0), (2, .int 1), (0, .ref 64), (1, .int (xs 1))], [.ref 65], jzv181) : jS)) rfl ?_
  refine jl_s (S' := ((137, [(4, .int (b0)), (3, .int 0), (2, .int 1), (0, .ref 64), (1, .int (xs 1))], [.ref 64, .ref 65], jzv181) : jS)) rfl ?_
  refine jl_s (S' := ((140, [(4, .int (b0)), (3, .int 0), (2, .int 1), (0, .ref 64), (1, .int (xs 1))], [.int 0, .ref 65], jzv181) : jS)) rfl ?_
  refine jl_s (S' := ((142, [(4, .int (b0)), (3, .int 0), (2, .int 1), (0, .ref 64), (1, .int (xs 1))], [.int (b0), .int 0, .ref 65], jzv181) : jS)) rfl ?_
  refine jl_s (S' := ((143, [(4, .int (b0)), (3, .int 0), (2, .int 1), (0, .ref 64), (1, .int (xs 1))], [.int ((b0).toInt8.toInt32), .int 0, .ref 65], jzv181) : jS)) rfl ?_
  refine jl_s (S' := ((144, [(4, .int (b0)), (3, .int 0), (2, .int 1), (0, .ref 64), (1, .int (xs 1))], [], (jzv275 b0 b1 b2 b3)) : jS)) rfl ?_
  refine jl_s (S' := ((145, [(4, .int (b0)), (3, .int 0), (2, .int 1), (0, .ref 64), (1, .int (xs 1))], [.ref 64], (jzv275 b0 b1 b2 b3)) : jS)) rfl ?_
  refine jl_s (S' := ((146, [(4, .int (b0)), (3, .int 0), (2, .int 1), (0, .ref 64), (1, .int (xs 1))], [.ref 64, .ref 64], (jzv275 b0 b1 b2 b3)) : jS)) rfl ?_
  refine jl_s (S' := ((149, [(4, .int (b0)), (3, .int 0), (2, .int 1), (0, .ref 64), (1, .int (xs 1))], [.int 0, .ref 64], (jzv275 b0 b1 b2 b3)) : jS)) rfl ?_
  refine jl_s (S' := ((150, [(4, .int (b0)), (3, .int 0), (2, .int 1), (0, .ref 64), (1, .int (xs 1))], [.int 1, .int 0, .ref 64], (jzv275 b0 b1 b2 b3)) : jS)) rfl ?_
  refine jl_s (S' := ((151, [(4, .int (b0)), (3, .int 0), (2, .int 1), (0, .ref 64), (1, .int (xs 1))], [.int 1, .ref 64], (jzv275 b0 b1 b2 b3)) : jS)) rfl ?_
  refine jl_s (S' := ((154, [(4, .int (b0)), (3, .int 0), (2, .int 1), (0, .ref 64), (1, .int (xs 1))], [], (jzv276 b0 b1 b2 b3)) : jS)) rfl ?_
  refine jl_s (S' := ((157, [(3, .int 1), (4, .int (b0)), (2, .int 1), (0, .ref 64), (1, .int (xs 1))], [], (jzv276 b0 b1 b2 b3)) : jS)) rfl ?_
  refine jl_s (S' := ((100, [(3, .int 1), (4, .int (b0)), (2, .int 1), (0, .ref 64), (1, .int (xs 1))], [], (jzv276 b0 b1 b2 b3)) : jS)) rfl ?_
  exact hq
set_option maxHeartbeats 4000000 in
set_option maxRecDepth 100000 in
theorem jzq384 (xs : Nat → Int32) (b0 b1 b2 b3 : Int32) (e : ((Int32.toUInt32 (xs 1) >>> (Int32.toUInt32 8 &&& Int32.toUInt32 31)).toInt32) &&& 255 = b1) (h : jbz b1) {f : Nat} {q : jO × jH} (hq : jLoop (jRun ((4, xs) : jX) 2000 37) ((4, xs) : jX) jm20 f ((100, [(3, .int 2), (4, .int (b1)), (2, .int 1), (0, .ref 64), (1, .int (xs 1))], [], (jzv276 b0 b1 b2 b3)) : jS) = some q) : jLoop (jRun ((4, xs) : jX) 2000 37) ((4, xs) : jX) jm20 (f + 15) ((100, [(3, .int 1), (4, .int (b0)), (2, .int 1), (0, .ref 64), (1, .int (xs 1))], [], (jzv276 b0 b1 b2 b3)) : jS) = some q := by
  refine jl_s (S' := ((101, [(3, .int 1), (4, .int (b0)), (2, .int 1), (0, .ref 64), (1, .int (xs 1))], [.int 1], (jzv276 b0 b1 b2 b3)) : jS)) rfl ?_
  refine jl_s (S' := ((102, [(3, .int 1), (4, .int (b0)), (2, .int 1), (0, .ref 64), (1, .int (xs 1))], [.int 4, .int 1], (jzv276 b0 b1 b2 b3)) : jS)) rfl ?_
  refine jl_s (S' := ((105, [(3, .int 1), (4, .int (b0)), (2, .int 1), (0, .ref 64), (1, .int (xs 1))], [], (jzv276 b0 b1 b2 b3)) : jS)) rfl ?_
  refine jl_s (S' := ((106, [(3, .int 1), (4, .int (b0)), (2, .int 1), (0, .ref 64), (1, .int (xs 1))], [.int (xs 1)], (jzv276 b0 b1 b2 b3)) : jS)) rfl ?_
  refine jl_s (S' := ((108, [(3, .int 1), (4, .int (b0)), (2, .int 1), (0, .ref 64), (1, .int (xs 1))], [.int 8, .int (xs 1)], (jzv276 b0 b1 b2 b3)) : jS)) rfl ?_
  refine jl_s (S' := ((109, [(3, .int 1), (4, .int (b0)), (2, .int 1), (0, .ref 64), (1, .int (xs 1))], [.int 1, .int 8, .int (xs 1)], (jzv276 b0 b1 b2 b3)) : jS)) rfl ?_
  refine jl_s (S' := ((110, [(3, .int 1), (4, .int (b0)), (2, .int 1), (0, .ref 64), (1, .int (xs 1))], [.int 8, .int (xs 1)], (jzv276 b0 b1 b2 b3)) : jS)) rfl ?_
  refine jl_s (S' := ((111, [(3, .int 1), (4, .int (b0)), (2, .int 1), (0, .ref 64), (1, .int (xs 1))], [.int ((Int32.toUInt32 (xs 1) >>> (Int32.toUInt32 8 &&& Int32.toUInt32 31)).toInt32)], (jzv276 b0 b1 b2 b3)) : jS)) rfl ?_
  refine jl_s (S' := ((114, [(3, .int 1), (4, .int (b0)), (2, .int 1), (0, .ref 64), (1, .int (xs 1))], [.int 255, .int ((Int32.toUInt32 (xs 1) >>> (Int32.toUInt32 8 &&& Int32.toUInt32 31)).toInt32)], (jzv276 b0 b1 b2 b3)) : jS)) rfl ?_
  refine jl_s (S' := ((115, [(3, .int 1), (4, .int (b0)), (2, .int 1), (0, .ref 64), (1, .int (xs 1))], [.int (((Int32.toUInt32 (xs 1) >>> (Int32.toUInt32 8 &&& Int32.toUInt32 31)).toInt32) &&& 255)], (jzv276 b0 b1 b2 b3)) : jS)) rfl ?_
  rw [e]
  refine jl_s (S' := ((117, [(4, .int (b1)), (3, .int 1), (2, .int 1), (0, .ref 64), (1, .int (xs 1))], [], (jzv276 b0 b1 b2 b3)) : jS)) rfl ?_
  refine jl_s (S' := ((119, [(4, .int (b1)), (3, .int 1), (2, .int 1), (0, .ref 64), (1, .int (xs 1))], [.int (b1)], (jzv276 b0 b1 b2 b3)) : jS)) rfl ?_
  refine jl_ift (e := jm20) (o := 35) rfl (h.1) (t := 154) rfl ?_
  refine jl_s (S' := ((157, [(3, .int 2), (4, .int (b1)), (2, .int 1), (0, .ref 64), (1, .int (xs 1))], [], (jzv276 b0 b1 b2 b3)) : jS)) rfl ?_
  refine jl_s (S' := ((100, [(3, .int 2), (4, .int (b1)), (2, .int 1), (0, .ref 64), (1, .int (xs 1))], [], (jzv276 b0 b1 b2 b3)) : jS)) rfl ?_
  exact hq
set_option maxHeartbeats 4000000 in
set_option maxRecDepth 100000 in
theorem jzq386 (xs : Nat → Int32) (b0 b1 b2 b3 : Int32) (e : ((Int32.toUInt32 (xs 1) >>> (Int32.toUInt32 16 &&& Int32.toUInt32 31)).toInt32) &&& 255 = b2) (h : jbz b2) {f : Nat} {q : jO × jH} (hq : jLoop (jRun ((4, xs) : jX) 2000 37) ((4, xs) : jX) jm20 f ((100, [(3, .int 3), (4, .int (b2)), (2, .int 1), (0, .ref 64), (1, .int (xs 1))], [], (jzv276 b0 b1 b2 b3)) : jS) = some q) : jLoop (jRun ((4, xs) : jX) 2000 37) ((4, xs) : jX) jm20 (f + 15) ((100, [(3, .int 2), (4, .int (b1)), (2, .int 1), (0, .ref 64), (1, .int (xs 1))], [], (jzv276 b0 b1 b2 b3)) : jS) = some q := by
  refine jl_s (S' := ((101, [(3, .int 2), (4, .int (b1)), (2, .int 1), (0, .ref 64), (1, .int (xs 1))], [.int 2], (jzv276 b0 b1 b2 b3)) : jS)) rfl ?_
  refine jl_s (S' := ((102, [(3, .int 2), (4, .int (b1)), (2, .int 1), (0, .ref 64), (1, .int (xs 1))], [.int 4, .int 2], (jzv276 b0 b1 b2 b3)) : jS)) rfl ?_
  refine jl_s (S' := ((105, [(3, .int 2), (4, .int (b1)), (2, .int 1), (0, .ref 64), (1, .int (xs 1))], [], (jzv276 b0 b1 b2 b3)) : jS)) rfl ?_
  refine jl_s (S' := ((106, [(3, .int 2), (4, .int (b1)), (2, .int 1), (0, .ref 64), (1, .int (xs 1))], [.int (xs 1)], (jzv276 b0 b1 b2 b3)) : jS)) rfl ?_
  refine jl_s (S' := ((108, [(3, .int 2), (4, .int (b1)), (2, .int 1), (0, .ref 64), (1, .int (xs 1))], [.int 8, .int (xs 1)], (jzv276 b0 b1 b2 b3)) : jS)) rfl ?_
  refine jl_s (S' := ((109, [(3, .int 2), (4, .int (b1)), (2, .int 1), (0, .ref 64), (1, .int (xs 1))], [.int 2, .int 8, .int (xs 1)], (jzv276 b0 b1 b2 b3)) : jS)) rfl ?_
  refine jl_s (S' := ((110, [(3, .int 2), (4, .int (b1)), (2, .int 1), (0, .ref 64), (1, .int (xs 1))], [.int 16, .int (xs 1)], (jzv276 b0 b1 b2 b3)) : jS)) rfl ?_
  refine jl_s (S' := ((111, [(3, .int 2), (4, .int (b1)), (2, .int 1), (0, .ref 64), (1, .int (xs 1))], [.int ((Int32.toUInt32 (xs 1) >>> (Int32.toUInt32 16 &&& Int32.toUInt32 31)).toInt32)], (jzv276 b0 b1 b2 b3)) : jS)) rfl ?_
  refine jl_s (S' := ((114, [(3, .int 2), (4, .int (b1)), (2, .int 1), (0, .ref 64), (1, .int (xs 1))], [.int 255, .int ((Int32.toUInt32 (xs 1) >>> (Int32.toUInt32 16 &&& Int32.toUInt32 31)).toInt32)], (jzv276 b0 b1 b2 b3)) : jS)) rfl ?_
  refine jl_s (S' := ((115, [(3, .int 2), (4, .int (b1)), (2, .int 1), (0, .ref 64), (1, .int (xs 1))], [.int (((Int32.toUInt32 (xs 1) >>> (Int32.toUInt32 16 &&& Int32.toUInt32 31)).toInt32) &&& 255)], (jzv276 b0 b1 b2 b3)) : jS)) rfl ?_
  rw [e]
  refine jl_s (S' := ((117, [(4, .int (b2)), (3, .int 2), (2, .int 1), (0, .ref 64), (1, .int (xs 1))], [], (jzv276 b0 b1 b2 b3)) : jS)) rfl ?_
  refine jl_s (S' := ((119, [(4, .int (b2)), (3, .int 2), (2, .int 1), (0, .ref 64), (1, .int (xs 1))], [.int (b2)], (jzv276 b0 b1 b2 b3)) : jS)) rfl ?_
  refine jl_ift (e := jm20) (o := 35) rfl (h.1) (t := 154) rfl ?_
  refine jl_s (S' := ((157, [(3, .int 3), (4, .int (b2)), (2, .int 1), (0, .ref 64), (1, .int (xs 1))], [], (jzv276 b0 b1 b2 b3)) : jS)) rfl ?_
  refine jl_s (S' := ((100, [(3, .int 3), (4, .int (b2)), (2, .int 1), (0, .ref 64), (1, .int (xs 1))], [], (jzv276 b0 b1 b2 b3)) : jS)) rfl ?_
  exact hq
set_option maxHeartbeats 4000000 in
set_option maxRecDepth 100000 in
theorem jzq388 (xs : Nat → Int32) (b0 b1 b2 b3 : Int32) (e : ((Int32.toUInt32 (xs 1) >>> (Int32.toUInt32 24 &&& Int32.toUInt32 31)).toInt32) &&& 255 = b3) (h : jbz b3) {f : Nat} {q : jO × jH} (hq : jLoop (jRun ((4, xs) : jX) 2000 37) ((4, xs) : jX) jm20 f ((100, [(3, .int 4), (4, .int (b3)), (2, .int 1), (0, .ref 64), (1, .int (xs 1))], [], (jzv276 b0 b1 b2 b3)) : jS) = some q) : jLoop (jRun ((4, xs) : jX) 2000 37) ((4, xs) : jX) jm20 (f + 15) ((100, [(3, .int 3), (4, .int (b2)), (2, .int 1), (0, .ref 64), (1, .int (xs 1))], [], (jzv276 b0 b1 b2 b3)) : jS) = some q := by
  refine jl_s (S' := ((101, [(3, .int 3), (4, .int (b2)), (2, .int 1), (0, .ref 64), (1, .int (xs 1))], [.int 3], (jzv276 b0 b1 b2 b3)) : jS)) rfl ?_
  refine jl_s (S' := ((102, [(3, .int 3), (4, .int (b2)), (2, .int 1), (0, .ref 64), (1, .int (xs 1))], [.int 4, .int 3], (jzv276 b0 b1 b2 b3)) : jS)) rfl ?_
  refine jl_s (S' := ((105, [(3, .int 3), (4, .int (b2)), (2, .int 1), (0, .ref 64), (1, .int (xs 1))], [], (jzv276 b0 b1 b2 b3)) : jS)) rfl ?_
  refine jl_s (S' := ((106, [(3, .int 3), (4, .int (b2)), (2, .int 1), (0, .ref 64), (1, .int (xs 1))], [.int (xs 1)], (jzv276 b0 b1 b2 b3)) : jS)) rfl ?_
  refine jl_s (S' := ((108, [(3, .int 3), (4, .int (b2)), (2, .int 1), (0, .ref 64), (1, .int (xs 1))], [.int 8, .int (xs 1)], (jzv276 b0 b1 b2 b3)) : jS)) rfl ?_
  refine jl_s (S' := ((109, [(3, .int 3), (4, .int (b2)), (2, .int 1), (0, .ref 64), (1, .int (xs 1))], [.int 3, .int 8, .int (xs 1)], (jzv276 b0 b1 b2 b3)) : jS)) rfl ?_
  refine jl_s (S' := ((110, [(3, .int 3), (4, .int (b2)), (2, .int 1), (0, .ref 64), (1, .int (xs 1))], [.int 24, .int (xs 1)], (jzv276 b0 b1 b2 b3)) : jS)) rfl ?_
  refine jl_s (S' := ((111, [(3, .int 3), (4, .int (b2)), (2, .int 1), (0, .ref 64), (1, .int (xs 1))], [.int ((Int32.toUInt32 (xs 1) >>> (Int32.toUInt32 24 &&& Int32.toUInt32 31)).toInt32)], (jzv276 b0 b1 b2 b3)) : jS)) rfl ?_
  refine jl_s (S' := ((114, [(3, .int 3), (4, .int (b2)), (2, .int 1), (0, .ref 64), (1, .int (xs 1))], [.int 255, .int ((Int32.toUInt32 (xs 1) >>> (Int32.toUInt32 24 &&& Int32.toUInt32 31)).toInt32)], (jzv276 b0 b1 b2 b3)) : jS)) rfl ?_
  refine jl_s (S' := ((115, [(3, .int 3), (4, .int (b2)), (2, .int 1), (0, .ref 64), (1, .int (xs 1))], [.int (((Int32.toUInt32 (xs 1) >>> (Int32.toUInt32 24 &&& Int32.toUInt32 31)).toInt32) &&& 255)], (jzv276 b0 b1 b2 b3)) : jS)) rfl ?_
  rw [e]
  refine jl_s (S' := ((117, [(4, .int (b3)), (3, .int 3), (2, .int 1), (0, .ref 64), (1, .int (xs 1))], [], (jzv276 b0 b1 b2 b3)) : jS)) rfl ?_
  refine jl_s (S' := ((119, [(4, .int (b3)), (3, .int 3), (2, .int 1), (0, .ref 64), (1, .int (xs 1))], [.int (b3)], (jzv276 b0 b1 b2 b3)) : jS)) rfl ?_
  refine jl_ift (e := jm20) (o := 35) rfl (h.1) (t := 154) rfl ?_
  refine jl_s (S' := ((157, [(3, .int 4), (4, .int (b3)), (2, .int 1), (0, .ref 64), (1, .int (xs 1))], [], (jzv276 b0 b1 b2 b3)) : jS)) rfl ?_
  refine jl_s (S' := ((100, [(3, .int 4), (4, .int (b3)), (2, .int 1), (0, .ref 64), (1, .int (xs 1))], [], (jzv276 b0 b1 b2 b3)) : jS)) rfl ?_
  exact hq
set_option maxHeartbeats 4000000 in
set_option maxRecDepth 100000 in
theorem jzq390 (xs : Nat → Int32) (b0 b1 b2 b3 : Int32) {f : Nat} : jLoop (jRun ((4, xs) : jX) 2000 37) ((4, xs) : jX) jm20 (f + 6) ((100, [(3, .int 4), (4, .int (b3)), (2, .int 1), (0, .ref 64), (1, .int (xs 1))], [], (jzv276 b0 b1 b2 b3)) : jS) = some (.inl (some (.int 1)), (jzv276 b0 b1 b2 b3)) := by
  refine jl_s (S' := ((101, [(3, .int 4), (4, .int (b3)), (2, .int 1), (0, .ref 64), (1, .int (xs 1))], [.int 4], (jzv276 b0 b1 b2 b3)) : jS)) rfl ?_
  refine jl_s (S' := ((102, [(3, .int 4), (4, .int (b3)), (2, .int 1), (0, .ref 64), (1, .int (xs 1))], [.int 4, .int 4], (jzv276 b0 b1 b2 b3)) : jS)) rfl ?_
  refine jl_s (S' := ((160, [(3, .int 4), (4, .int (b3)), (2, .int 1), (0, .ref 64), (1, .int (xs 1))], [], (jzv276 b0 b1 b2 b3)) : jS)) rfl ?_
  refine jl_s (S' := ((161, [(3, .int 4), (4, .int (b3)), (2, .int 1), (0, .ref 64), (1, .int (xs 1))], [.ref 64], (jzv276 b0 b1 b2 b3)) : jS)) rfl ?_
  refine jl_s (S' := ((164, [(3, .int 4), (4, .int (b3)), (2, .int 1), (0, .ref 64), (1, .int (xs 1))], [.int 1], (jzv276 b0 b1 b2 b3)) : jS)) rfl ?_
  exact jl_r (r := (.inl (some (.int 1)), (jzv276 b0 b1 b2 b3))) rfl
set_option maxHeartbeats 4000000 in
set_option maxRecDepth 100000 in
theorem jzcp_VZZZ (xs : Nat → Int32) (b0 b1 b2 b3 : Int32) (e0 : ((Int32.toUInt32 (xs 1) >>> (Int32.toUInt32 0 &&& Int32.toUInt32 31)).toInt32) &&& 255 = b0) (e1 : ((Int32.toUInt32 (xs 1) >>> (Int32.toUInt32 8 &&& Int32.toUInt32 31)).toInt32) &&& 255 = b1) (e2 : ((Int32.toUInt32 (xs 1) >>> (Int32.toUInt32 16 &&& Int32.toUInt32 31)).toInt32) &&& 255 = b2) (e3 : ((Int32.toUInt32 (xs 1) >>> (Int32.toUInt32 24 &&& Int32.toUInt32 31)).toInt32) &&& 255 = b3) (h0 : jbv b0) (h1 : jbz b1) (h2 : jbz b2) (h3 : jbz b3) : jRun ((4, xs) : jX) 2000 38 20 [.ref 64, .int (xs 1)] jzv181 = some (.inl (some (.int 1)), (jzv276 b0 b1 b2 b3)) := by
  refine jr_run (e := jm20) rfl (Nat.le_of_ble_eq_true rfl) ?_
  refine jzq267 xs b0 b1 b2 b3 ?_
  refine jzq378 xs b0 b1 b2 b3 e0 h0 ?_
  refine jzq380 xs b0 b1 b2 b3 e1 h1 ?_
  refine jzq333 xs b0 b1 b2 b3 e2 h2 ?_
  refine jzq307 xs b0 b1 b2 b3 e3 h3 ?_
  refine jzq292 xs b0 b1 b2 b3 ?_
  refine jzq382 xs b0 b1 b2 b3 e0 h0.1 ?_
  refine jzq384 xs b0 b1 b2 b3 e1 h1 ?_
  refine jzq386 xs b0 b1 b2 b3 e2 h2 ?_
  refine jzq388 xs b0 b1 b2 b3 e3 h3 ?_
  exact jzq390 xs b0 b1 b2 b3
set_option maxHeartbeats 4000000 in
set_option maxRecDepth 100000 in
theorem jzq392 (xs : Nat → Int32) (b0 b1 b2 b3 : Int32) (e : ((Int32.toUInt32 (xs 1) >>> (Int32.toUInt32 0 &&& Int32.toUInt32 31)).toInt32) &&& 255 = b0) (h : jbn b0) {f : Nat} {q : jO × jH} (hq : jLoop (jRun ((4, xs) : jX) 2000 37) ((4, xs) : jX) jm20 f ((100, [(3, .int 1), (4, .int (b0)), (2, .int 2), (0, .ref 64), (1, .int (xs 1))], [], (jzv276 b0 b1 b2 b3)) : jS) = some q) : jLoop (jRun ((4, xs) : jX) 2000 37) ((4, xs) : jX) jm20 (f + 32) ((100, [(3, .int 0), (2, .int 2), (4, .int (b3)), (0, .ref 64), (1, .int (xs 1))], [], jzv181) : jS) = some q := by
  refine jl_s (S' := ((101, [(3, .int 0), (2, .int 2), (4, .int (b3)), (0, .ref 64), (1, .int (xs 1))], [.int 0], jzv181) : jS)) rfl ?_
  refine jl_s (S' := ((102, [(3, .int 0), (2, .int 2), (4, .int (b3)), (0, .ref 64), (1, .int (xs 1))], [.int 4, .int 0], jzv181) : jS)) rfl ?_
  refine jl_s (S' := ((105, [(3, .int 0), (2, .int 2), (4, .int (b3)), (0, .ref 64), (1, .int (xs 1))], [], jzv181) : jS)) rfl ?_
  refine jl_s (S' := ((106, [(3, .int 0), (2, .int 2), (4, .int (b3)), (0, .ref 64), (1, .int (xs 1))], [.int (xs 1)], jzv181) : jS)) rfl ?_
  refine jl_s (S' := ((108, [(3, .int 0), (2, .int 2), (4, .int (b3)), (0, .ref 64), (1, .int (xs 1))], [.int 8, .int (xs 1)], jzv181) : jS)) rfl ?_
  refine jl_s (S' := ((109, [(3, .int 0), (2, .int 2), (4, .int (b3)), (0, .ref 64), (1, .int (xs 1))], [.int 0, .int 8, .int (xs 1)], jzv181) : jS)) rfl ?_
  refine jl_s (S' := ((110, [(3, .int 0), (2, .int 2), (4, .int (b3)), (0, .ref 64), (1, .int (xs 1))], [.int 0, .int (xs 1)], jzv181) : jS)) rfl ?_
  refine jl_s (S' := ((111, [(3, .int 0), (2, .int 2), (4, .int (b3)), (0, .ref 64), (1, .int (xs 1))], [.int ((Int32.toUInt32 (xs 1) >>> (Int32.toUInt32 0 &&& Int32.toUInt32 31)).toInt32)], jzv181) : jS)) rfl ?_
  refine jl_s (S' := ((114, [(3, .int 0), (2, .int 2), (4, .int (b3)), (0, .ref 64), (1, .int (xs 1))], [.int 255, .int ((Int32.toUInt32 (xs 1) >>> (Int32.toUInt32 0 &&& Int32.toUInt32 31)).toInt32)], jzv181) : jS)) rfl ?_
  refine jl_s (S' := ((115, [(3, .int 0), (2, .int 2), (4, .int (b3)), (0, .ref 64), (1, .int (xs 1))], [.int (((Int32.toUInt32 (xs 1) >>> (Int32.toUInt32 0 &&& Int32.toUInt32 31)).toInt32) &&& 255)], jzv181) : jS)) rfl ?_
  rw [e]
  refine jl_s (S' := ((117, [(4, .int (b0)), (3, .int 0), (2, .int 2), (0, .ref 64), (1, .int (xs 1))], [], jzv181) : jS)) rfl ?_
  refine jl_s (S' := ((119, [(4, .int (b0)), (3, .int 0), (2, .int 2), (0, .ref 64), (1, .int (xs 1))], [.int (b0)], jzv181) : jS)) rfl ?_
  refine jl_iff (e := jm20) (o := 35) rfl (h.1) ?_
  refine jl_s (S' := ((123, [(4, .int (b0)), (3, .int 0), (2, .int 2), (0, .ref 64), (1, .int (xs 1))], [.ref 64], jzv181) : jS)) rfl ?_
  refine jl_s (S' := ((126, [(4, .int (b0)), (3, .int 0), (2, .int 2), (0, .ref 64), (1, .int (xs 1))], [.int 0], jzv181) : jS)) rfl ?_
  refine jl_s (S' := ((129, [(4, .int (b0)), (3, .int 0), (2, .int 2), (0, .ref 64), (1, .int (xs 1))], [.int 3000, .int 0], jzv181) : jS)) rfl ?_
  refine jl_s (S' := ((132, [(4, .int (b0)), (3, .int 0), (2, .int 2), (0, .ref 64), (1, .int (xs 1))], [], jzv181) : jS)) rfl ?_
  refine jl_s (S' := ((133, [(4, .int (b0)), (3, .int 0), (2, .int 2), (0, .ref 64), (1, .int (xs 1))], [.ref 64], jzv181) : jS)) rfl ?_
  refine jl_s (S' := ((136, [(4, .int (b0)), (3, .int 0), (2, .int 2), (0, .ref 64), (1, .int (xs 1))], [.ref 65], jzv181) : jS)) rfl ?_
  refine jl_s (S' := ((137, [(4, .int (b0)), (3, .int 0), (2, .int 2), (0, .ref 64), (1, .int (xs 1))], [.ref 64, .ref 65], jzv181) : jS)) rfl ?_
  refine jl_s (S' := ((140, [(4, .int (b0)), (3, .int 0), (2, .int 2), (0, .ref 64), (1, .int (xs 1))], [.int 0, .ref 65], jzv181) : jS)) rfl ?_
  refine jl_s (S' := ((142, [(4, .int (b0)), (3, .int 0), (2, .int 2), (0, .ref 64), (1, .int (xs 1))], [.int (b0), .int 0, .ref 65], jzv181) : jS)) rfl ?_
  refine jl_s (S' := ((143, [(4, .int (b0)), (3, .int 0), (2, .int 2), (0, .ref 64), (1, .int (xs 1))], [.int ((b0).toInt8.toInt32), .int 0, .ref 65], jzv181) : jS)) rfl ?_
  refine jl_s (S' := ((144, [(4, .int (b0)), (3, .int 0), (2, .int 2), (0, .ref 64), (1, .int (xs 1))], [], (jzv275 b0 b1 b2 b3)) : jS)) rfl ?_
  refine jl_s (S' := ((145, [(4, .int (b0)), (3, .int 0), (2, .int 2), (0, .ref 64), (1, .int (xs 1))], [.ref 64], (jzv275 b0 b1 b2 b3)) : jS)) rfl ?_
  refine jl_s (S' := ((146, [(4, .int (b0)), (3, .int 0), (2, .int 2), (0, .ref 64), (1, .int (xs 1))], [.ref 64, .ref 64], (jzv275 b0 b1 b2 b3)) : jS)) rfl ?_
  refine jl_s (S' := ((149, [(4, .int (b0)), (3, .int 0), (2, .int 2), (0, .ref 64), (1, .int (xs 1))], [.int 0, .ref 64], (jzv275 b0 b1 b2 b3)) : jS)) rfl ?_
  refine jl_s (S' := ((150, [(4, .int (b0)), (3, .int 0), (2, .int 2), (0, .ref 64), (1, .int (xs 1))], [.int 1, .int 0, .ref 64], (jzv275 b0 b1 b2 b3)) : jS)) rfl ?_
  refine jl_s (S' := ((151, [(4, .int (b0)), (3, .int 0), (2, .int 2), (0, .ref 64), (1, .int (xs 1))], [.int 1, .ref 64], (jzv275 b0 b1 b2 b3)) : jS)) rfl ?_
  refine jl_s (S' := ((154, [(4, .int (b0)), (3, .int 0), (2, .int 2), (0, .ref 64), (1, .int (xs 1))], [], (jzv276 b0 b1 b2 b3)) : jS)) rfl ?_
  refine jl_s (S' := ((157, [(3, .int 1), (4, .int (b0)), (2, .int 2), (0, .ref 64), (1, .int (xs 1))], [], (jzv276 b0 b1 b2 b3)) : jS)) rfl ?_
  refine jl_s (S' := ((100, [(3, .int 1), (4, .int (b0)), (2, .int 2), (0, .ref 64), (1, .int (xs 1))], [], (jzv276 b0 b1 b2 b3)) : jS)) rfl ?_
  exact hq
set_option maxHeartbeats 4000000 in
set_option maxRecDepth 100000 in
theorem jzq394 (xs : Nat → Int32) (b0 b1 b2 b3 : Int32) (e : ((Int32.toUInt32 (xs 1) >>> (Int32.toUInt32 8 &&& Int32.toUInt32 31)).toInt32) &&& 255 = b1) (h : jbz b1) {f : Nat} {q : jO × jH} (hq : jLoop (jRun ((4, xs) : jX) 2000 37) ((4, xs) : jX) jm20 f ((100, [(3, .int 2), (4, .int (b1)), (2, .int 2), (0, .ref 64), (1, .int (xs 1))], [], (jzv276 b0 b1 b2 b3)) : jS) = some q) : jLoop (jRun ((4, xs) : jX) 2000 37) ((4, xs) : jX) jm20 (f + 15) ((100, [(3, .int 1), (4, .int (b0)), (2, .int 2), (0, .ref 64), (1, .int (xs 1))], [], (jzv276 b0 b1 b2 b3)) : jS) = some q := by
  refine jl_s (S' := ((101, [(3, .int 1), (4, .int (b0)), (2, .int 2), (0, .ref 64), (1, .int (xs 1))], [.int 1], (jzv276 b0 b1 b2 b3)) : jS)) rfl ?_
  refine jl_s (S' := ((102, [(3, .int 1), (4, .int (b0)), (2, .int 2), (0, .ref 64), (1, .int (xs 1))], [.int 4, .int 1], (jzv276 b0 b1 b2 b3)) : jS)) rfl ?_
  refine jl_s (S' := ((105, [(3, .int 1), (4, .int (b0)), (2, .int 2), (0, .ref 64), (1, .int (xs 1))], [], (jzv276 b0 b1 b2 b3)) : jS)) rfl ?_
  refine jl_s (S' := ((106, [(3, .int 1), (4, .int (b0)), (2, .int 2), (0, .ref 64), (1, .int (xs 1))], [.int (xs 1)], (jzv276 b0 b1 b2 b3)) : jS)) rfl ?_
  refine jl_s (S' := ((108, [(3, .int 1), (4, .int (b0)), (2, .int 2), (0, .ref 64), (1, .int (xs 1))], [.int 8, .int (xs 1)], (jzv276 b0 b1 b2 b3)) : jS)) rfl ?_
  refine jl_s (S' := ((109, [(3, .int 1), (4, .int (b0)), (2, .int 2), (0, .ref 64), (1, .int (xs 1))], [.int 1, .int 8, .int (xs 1)], (jzv276 b0 b1 b2 b3)) : jS)) rfl ?_
  refine jl_s (S' := ((110, [(3, .int 1), (4, .int (b0)), (2, .int 2), (0, .ref 64), (1, .int (xs 1))], [.int 8, .int (xs 1)], (jzv276 b0 b1 b2 b3)) : jS)) rfl ?_
  refine jl_s (S' := ((111, [(3, .int 1), (4, .int (b0)), (2, .int 2), (0, .ref 64), (1, .int (xs 1))], [.int ((Int32.toUInt32 (xs 1) >>> (Int32.toUInt32 8 &&& Int32.toUInt32 31)).toInt32)], (jzv276 b0 b1 b2 b3)) : jS)) rfl ?_
  refine jl_s (S' := ((114, [(3, .int 1), (4, .int (b0)), (2, .int 2), (0, .ref 64), (1, .int (xs 1))], [.int 255, .int ((Int32.toUInt32 (xs 1) >>> (Int32.toUInt32 8 &&& Int32.toUInt32 31)).toInt32)], (jzv276 b0 b1 b2 b3)) : jS)) rfl ?_
  refine jl_s (S' := ((115, [(3, .int 1), (4, .int (b0)), (2, .int 2), (0, .ref 64), (1, .int (xs 1))], [.int (((Int32.toUInt32 (xs 1) >>> (Int32.toUInt32 8 &&& Int32.toUInt32 31)).toInt32) &&& 255)], (jzv276 b0 b1 b2 b3)) : jS)) rfl ?_
  rw [e]
  refine jl_s (S' := ((117, [(4, .int (b1)), (3, .int 1), (2, .int 2), (0, .ref 64), (1, .int (xs 1))], [], (jzv276 b0 b1 b2 b3)) : jS)) rfl ?_
  refine jl_s (S' := ((119, [(4, .int (b1)), (3, .int 1), (2, .int 2), (0, .ref 64), (1, .int (xs 1))], [.int (b1)], (jzv276 b0 b1 b2 b3)) : jS)) rfl ?_
  refine jl_ift (e := jm20) (o := 35) rfl (h.1) (t := 154) rfl ?_
  refine jl_s (S' := ((157, [(3, .int 2), (4, .int (b1)), (2, .int 2), (0, .ref 64), (1, .int (xs 1))], [], (jzv276 b0 b1 b2 b3)) : jS)) rfl ?_
  refine jl_s (S' := ((100, [(3, .int 2), (4, .int (b1)), (2, .int 2), (0, .ref 64), (1, .int (xs 1))], [], (jzv276 b0 b1 b2 b3)) : jS)) rfl ?_
  exact hq
set_option maxHeartbeats 4000000 in
set_option maxRecDepth 100000 in
theorem jzq396 (xs : Nat → Int32) (b0 b1 b2 b3 : Int32) (e : ((Int32.toUInt32 (xs 1) >>> (Int32.toUInt32 16 &&& Int32.toUInt32 31)).toInt32) &&& 255 = b2) (h : jbz b2) {f : Nat} {q : jO × jH} (hq : jLoop (jRun ((4, xs) : jX) 2000 37) ((4, xs) : jX) jm20 f ((100, [(3, .int 3), (4, .int (b2)), (2, .int 2), (0, .ref 64), (1, .int (xs 1))], [], (jzv276 b0 b1 b2 b3)) : jS) = some q) : jLoop (jRun ((4, xs) : jX) 2000 37) ((4, xs) : jX) jm20 (f + 15) ((100, [(3, .int 2), (4, .int (b1)), (2, .int 2), (0, .ref 64), (1, .int (xs 1))], [], (jzv276 b0 b1 b2 b3)) : jS) = some q := by
  refine jl_s (S' := ((101, [(3, .int 2), (4, .int (b1)), (2, .int 2), (0, .ref 64), (1, .int (xs 1))], [.int 2], (jzv276 b0 b1 b2 b3)) : jS)) rfl ?_
  refine jl_s (S' := ((102, [(3, .int 2), (4, .int (b1)), (2, .int 2), (0, .ref 64), (1, .int (xs 1))], [.int 4, .int 2], (jzv276 b0 b1 b2 b3)) : jS)) rfl ?_
  refine jl_s (S' := ((105, [(3, .int 2), (4, .int (b1)), (2, .int 2), (0, .ref 64), (1, .int (xs 1))], [], (jzv276 b0 b1 b2 b3)) : jS)) rfl ?_
  refine jl_s (S' := ((106, [(3, .int 2), (4, .int (b1)), (2, .int 2), (0, .ref 64), (1, .int (xs 1))], [.int (xs 1)], (jzv276 b0 b1 b2 b3)) : jS)) rfl ?_
  refine jl_s (S' := ((108, [(3, .int 2), (4, .int (b1)), (2, .int 2), (0, .ref 64), (1, .int (xs 1))], [.int 8, .int (xs 1)], (jzv276 b0 b1 b2 b3)) : jS)) rfl ?_
  refine jl_s (S' := ((109, [(3, .int 2), (4, .int (b1)), (2, .int 2), (0, .ref 64), (1, .int (xs 1))], [.int 2, .int 8, .int (xs 1)], (jzv276 b0 b1 b2 b3)) : jS)) rfl ?_
  refine jl_s (S' := ((110, [(3, .int 2), (4, .int (b1)), (2, .int 2), (0, .ref 64), (1, .int (xs 1))], [.int 16, .int (xs 1)], (jzv276 b0 b1 b2 b3)) : jS)) rfl ?_
  refine jl_s (S' := ((111, [(3, .int 2), (4, .int (b1)), (2, .int 2), (0, .ref 64), (1, .int (xs 1))], [.int ((Int32.toUInt32 (xs 1) >>> (Int32.toUInt32 16 &&& Int32.toUInt32 31)).toInt32)], (jzv276 b0 b1 b2 b3)) : jS)) rfl ?_
  refine jl_s (S' := ((114, [(3, .int 2), (4, .int (b1)), (2, .int 2), (0, .ref 64), (1, .int (xs 1))], [.int 255, .int ((Int32.toUInt32 (xs 1) >>> (Int32.toUInt32 16 &&& Int32.toUInt32 31)).toInt32)], (jzv276 b0 b1 b2 b3)) : jS)) rfl ?_
  refine jl_s (S' := ((115, [(3, .int 2), (4, .int (b1)), (2, .int 2), (0, .ref 64), (1, .int (xs 1))], [.int (((Int32.toUInt32 (xs 1) >>> (Int32.toUInt32 16 &&& Int32.toUInt32 31)).toInt32) &&& 255)], (jzv276 b0 b1 b2 b3)) : jS)) rfl ?_
  rw [e]
  refine jl_s (S' := ((117, [(4, .int (b2)), (3, .int 2), (2, .int 2), (0, .ref 64), (1, .int (xs 1))], [], (jzv276 b0 b1 b2 b3)) : jS)) rfl ?_
  refine jl_s (S' := ((119, [(4, .int (b2)), (3, .int 2), (2, .int 2), (0, .ref 64), (1, .int (xs 1))], [.int (b2)], (jzv276 b0 b1 b2 b3)) : jS)) rfl ?_
  refine jl_ift (e := jm20) (o := 35) rfl (h.1) (t := 154) rfl ?_
  refine jl_s (S' := ((157, [(3, .int 3), (4, .int (b2)), (2, .int 2), (0, .ref 64), (1, .int (xs 1))], [], (jzv276 b0 b1 b2 b3)) : jS)) rfl ?_
  refine jl_s (S' := ((100, [(3, .int 3), (4, .int (b2)), (2, .int 2), (0, .ref 64), (1, .int (xs 1))], [], (jzv276 b0 b1 b2 b3)) : jS)) rfl ?_
  exact hq
def jzc192 (b0 b1 b2 b3 : Int32) : jC := .inl (0, 3000, .inl (upd (upd (fun _ => 0) 0 (vp_nar .byte ((b0).toInt8.toInt32))) 1 (vp_nar .byte ((b3).toInt8.toInt32))))
def jzv277 (b0 b1 b2 b3 : Int32) : jH := [jzc182, (jzc192 b0 b1 b2 b3), jzc117, jzc7, jzc9, jzc9, jzc9, jzc9, jzc9, jzc17, jzc19, jzc19, jzc19, jzc19, jzc19, jzc19, jzc19, jzc19, jzc28, jzc28, jzc28, jzc28, jzc28, jzc28, jzc28, jzc28, jzc28, jzc28, jzc28, jzc28, jzc28, jzc28, jzc43, jzc43, jzc43, jzc43, jzc43, jzc49, jzc49, jzc52, jzc52, jzc52, jzc56, jzc56, jzc59, jzc56, jzc62, jzc28, jzc28, jzc28, jzc28, jzc28, jzc69, jzc71, jzc73, jzc43, jzc76, jzc52, jzc52, jzc80, jzc80, jzc80, jzc84, jzc52, jzc52, jzc52, jzc52, jzc52, jzc52, jzc52, jzc93, jzc93, jzc52, jzc52, jzc98, jzc100, jzc93, jzc52, jzc52, jzc52, jzc52, jzc107, jzc109, jzc111, jzc100, jzc100, jzc100, jzc111, jzc111, jzc118]
def jzv278 (b0 b1 b2 b3 : Int32) : jH := [jzc185, (jzc192 b0 b1 b2 b3), jzc117, jzc7, jzc9, jzc9, jzc9, jzc9, jzc9, jzc17, jzc19, jzc19, jzc19, jzc19, jzc19, jzc19, jzc19, jzc19, jzc28, jzc28, jzc28, jzc28, jzc28, jzc28, jzc28, jzc28, jzc28, jzc28, jzc28, jzc28, jzc28, jzc28, jzc43, jzc43, jzc43, jzc43, jzc43, jzc49, jzc49, jzc52, jzc52, jzc52, jzc56, jzc56, jzc59, jzc56, jzc62, jzc28, jzc28, jzc28, jzc28, jzc28, jzc69, jzc71, jzc73, jzc43, jzc76, jzc52, jzc52, jzc80, jzc80, jzc80, jzc84, jzc52, jzc52, jzc52, jzc52, jzc52, jzc52, jzc52, jzc93, jzc93, jzc52, jzc52, jzc98, jzc100, jzc93, jzc52, jzc52, jzc52, jzc52, jzc107, jzc109, jzc111, jzc100, jzc100, jzc100, jzc111, jzc111, jzc118]
set_option maxHeartbeats 4000000 in
set_option maxRecDepth 100000 in
theorem jzq398 (xs : Nat → Int32) (b0 b1 b2 b3 : Int32) (e : ((Int32.toUInt32 (xs 1) >>> (Int32.toUInt32 24 &&& Int32.toUInt32 31)).toInt32) &&& 255 = b3) (h : jbn b3) {f : Nat} {q : jO × jH} (hq : jLoop (jRun ((4, xs) : jX) 2000 37) ((4, xs) : jX) jm20 f ((100, [(3, .int 4), (4, .int (b3)), (2, .int 2), (0, .ref 64), (1, .int (xs 1))], [], (jzv278 b0 b1 b2 b3)) : jS) = some q) : jLoop (jRun ((4, xs) : jX) 2000 37) ((4, xs) : jX) jm20 (f + 32) ((100, [(3, .int 3), (4, .int (b2)), (2, .int 2), (0, .ref 64), (1, .int (xs 1))], [], (jzv276 b0 b1 b2 b3)) : jS) = some q := by
  refine jl_s (S' := ((101, [(3, .int 3), (4, .int (b2)), (2, .int 2), (0, .ref 64), (1, .int (xs 1))], [.int 3], (jzv276 b0 b1 b2 b3)) : jS)) rfl ?_
  refine jl_s (S' := ((102, [(3, .int 3), (4, .int (b2)), (2, .int 2), (0, .ref 64), (1, .int (xs 1))], [.int 4, .int 3], (jzv276 b0 b1 b2 b3)) : jS)) rfl ?_
  refine jl_s (S' := ((105, [(3, .int 3), (4, .int (b2)), (2, .int 2), (0, .ref 64), (1, .int (xs 1))], [], (jzv276 b0 b1 b2 b3)) : jS)) rfl ?_
  refine jl_s (S' := ((106, [(3, .int 3), (4, .int (b2)), (2, .int 2), (0, .ref 64), (1, .int (xs 1))], [.int (xs 1)], (jzv276 b0 b1 b2 b3)) : jS)) rfl ?_
  refine jl_s (S' := ((108, [(3, .int 3), (4, .int (b2)), (2, .int 2), (0, .ref 64), (1, .int (xs 1))], [.int 8, .int (xs 1)], (jzv276 b0 b1 b2 b3)) : jS)) rfl ?_
  refine jl_s (S' := ((109, [(3, .int 3), (4, .int (b2)), (2, .int 2), (0, .ref 64), (1, .int (xs 1))], [.int 3, .int 8, .int (xs 1)], (jzv276 b0 b1 b2 b3)) : jS)) rfl ?_
  refine jl_s (S' := ((110, [(3, .int 3), (4, .int (b2)), (2, .int 2), (0, .ref 64), (1, .int (xs 1))], [.int 24, .int (xs 1)], (jzv276 b0 b1 b2 b3)) : jS)) rfl ?_
  refine jl_s (S' := ((111, [(3, .int 3), (4, .int (b2)), (2, .int 2), (0, .ref 64), (1, .int (xs 1))], [.int ((Int32.toUInt32 (xs 1) >>> (Int32.toUInt32 24 &&& Int32.toUInt32 31)).toInt32)], (jzv276 b0 b1 b2 b3)) : jS)) rfl ?_
  refine jl_s (S' := ((114, [(3, .int 3), (4, .int (b2)), (2, .int 2), (0, .ref 64), (1, .int (xs 1))], [.int 255, .int ((Int32.toUInt32 (xs 1) >>> (Int32.toUInt32 24 &&& Int32.toUInt32 31)).toInt32)], (jzv276 b0 b1 b2 b3)) : jS)) rfl ?_
  refine jl_s (S' := ((115, [(3, .int 3), (4, .int (b2)), (2, .int 2), (0, .ref 64), (1, .int (xs 1))], [.int (((Int32.toUInt32 (xs 1) >>> (Int32.toUInt32 24 &&& Int32.toUInt32 31)).toInt32) &&& 255)], (jzv276 b0 b1 b2 b3)) : jS)) rfl ?_
  rw [e]
  refine jl_s (S' := ((117, [(4, .int (b3)), (3, .int 3), (2, .int 2), (0, .ref 64), (1, .int (xs 1))], [], (jzv276 b0 b1 b2 b3)) : jS)) rfl ?_
  refine jl_s (S' := ((119, [(4, .int (b3)), (3, .int 3), (2, .int 2), (0, .ref 64), (1, .int (xs 1))], [.int (b3)], (jzv276 b0 b1 b2 b3)) : jS)) rfl ?_
  refine jl_iff (e := jm20) (o := 35) rfl (h.1) ?_
  refine jl_s (S' := ((123, [(4, .int (b3)), (3, .int 3), (2, .int 2), (0, .ref 64), (1, .int (xs 1))], [.ref 64], (jzv276 b0 b1 b2 b3)) : jS)) rfl ?_
  refine jl_s (S' := ((126, [(4, .int (b3)), (3, .int 3), (2, .int 2), (0, .ref 64), (1, .int (xs 1))], [.int 1], (jzv276 b0 b1 b2 b3)) : jS)) rfl ?_
  refine jl_s (S' := ((129, [(4, .int (b3)), (3, .int 3), (2, .int 2), (0, .ref 64), (1, .int (xs 1))], [.int 3000, .int 1], (jzv276 b0 b1 b2 b3)) : jS)) rfl ?_
  refine jl_s (S' := ((132, [(4, .int (b3)), (3, .int 3), (2, .int 2), (0, .ref 64), (1, .int (xs 1))], [], (jzv276 b0 b1 b2 b3)) : jS)) rfl ?_
  refine jl_s (S' := ((133, [(4, .int (b3)), (3, .int 3), (2, .int 2), (0, .ref 64), (1, .int (xs 1))], [.ref 64], (jzv276 b0 b1 b2 b3)) : jS)) rfl ?_
  refine jl_s (S' := ((136, [(4, .int (b3)), (3, .int 3), (2, .int 2), (0, .ref 64), (1, .int (xs 1))], [.ref 65], (jzv276 b0 b1 b2 b3)) : jS)) rfl ?_
  refine jl_s (S' := ((137, [(4, .int (b3)), (3, .int 3), (2, .int 2), (0, .ref 64), (1, .int (xs 1))], [.ref 64, .ref 65], (jzv276 b0 b1 b2 b3)) : jS)) rfl ?_
  refine jl_s (S' := ((140, [(4, .int (b3)), (3, .int 3), (2, .int 2), (0, .ref 64), (1, .int (xs 1))], [.int 1, .ref 65], (jzv276 b0 b1 b2 b3)) : jS)) rfl ?_
  refine jl_s (S' := ((142, [(4, .int (b3)), (3, .int 3), (2, .int 2), (0, .ref 64), (1, .int (xs 1))], [.int (b3), .int 1, .ref 65], (jzv276 b0 b1 b2 b3)) : jS)) rfl ?_
  refine jl_s (S' := ((143, [(4, .int (b3)), (3, .int 3), (2, .int 2), (0, .ref 64), (1, .int (xs 1))], [.int ((b3).toInt8.toInt32), .int 1, .ref 65], (jzv276 b0 b1 b2 b3)) : jS)) rfl ?_
  refine jl_s (S' := ((144, [(4, .int (b3)), (3, .int 3), (2, .int 2), (0, .ref 64), (1, .int (xs 1))], [], (jzv277 b0 b1 b2 b3)) : jS)) rfl ?_
  refine jl_s (S' := ((145, [(4, .int (b3)), (3, .int 3), (2, .int 2), (0, .ref 64), (1, .int (xs 1))], [.ref 64], (jzv277 b0 b1 b2 b3)) : jS)) rfl ?_
  refine jl_s (S' := ((146, [(4, .int (b3)), (3, .int 3), (2, .int 2), (0, .ref 64), (1, .int (xs 1))], [.ref 64, .ref 64], (jzv277 b0 b1 b2 b3)) : jS)) rfl ?_
  refine jl_s (S' := ((149, [(4, .int (b3)), (3, .int 3), (2, .int 2), (0, .ref 64), (1, .int (xs 1))], [.int 1, .ref 64], (jzv277 b0 b1 b2 b3)) : jS)) rfl ?_
  refine jl_s (S' := ((150, [(4, .int (b3)), (3, .int 3), (2, .int 2), (0, .ref 64), (1, .int (xs 1))], [.int 1, .int 1, .ref 64], (jzv277 b0 b1 b2 b3)) : jS)) rfl ?_
  refine jl_s (S' := ((151, [(4, .int (b3)), (3, .int 3), (2, .int 2), (0, .ref 64), (1, .int (xs 1))], [.int 2, .ref 64], (jzv277 b0 b1 b2 b3)) : jS)) rfl ?_
  refine jl_s (S' := ((154, [(4, .int (b3)), (3, .int 3), (2, .int 2), (0, .ref 64), (1, .int (xs 1))], [], (jzv278 b0 b1 b2 b3)) : jS)) rfl ?_
  refine jl_s (S' := ((157, [(3, .int 4), (4, .int (b3)), (2, .int 2), (0, .ref 64), (1, .int (xs 1))], [], (jzv278 b0 b1 b2 b3)) : jS)) rfl ?_
  refine jl_s (S' := ((100, [(3, .int 4), (4, .int (b3)), (2, .int 2), (0, .ref 64), (1, .int (xs 1))], [], (jzv278 b0 b1 b2 b3)) : jS)) rfl ?_
  exact hq
set_option maxHeartbeats 4000000 in
set_option maxRecDepth 100000 in
theorem jzq400 (xs : Nat → Int32) (b0 b1 b2 b3 : Int32) {f : Nat} : jLoop (jRun ((4, xs) : jX) 2000 37) ((4, xs) : jX) jm20 (f + 6) ((100, [(3, .int 4), (4, .int (b3)), (2, .int 2), (0, .ref 64), (1, .int (xs 1))], [], (jzv278 b0 b1 b2 b3)) : jS) = some (.inl (some (.int 2)), (jzv278 b0 b1 b2 b3)) := by
  refine jl_s (S' := ((101, [(3, .int 4), (4, .int (b3)), (2, .int 2), (0, .ref 64), (1, .int (xs 1))], [.int 4], (jzv278 b0 b1 b2 b3)) : jS)) rfl ?_
  refine jl_s (S' := ((102, [(3, .int 4), (4, .int (b3)), (2, .int 2), (0, .ref 64), (1, .int (xs 1))], [.int 4, .int 4], (jzv278 b0 b1 b2 b3)) : jS)) rfl ?_
  refine jl_s (S' := ((160, [(3, .int 4), (4, .int (b3)), (2, .int 2), (0, .ref 64), (1, .int (xs 1))], [], (jzv278 b0 b1 b2 b3)) : jS)) rfl ?_
  refine jl_s (S' := ((161, [(3, .int 4), (4, .int (b3)), (2, .int 2), (0, .ref 64), (1, .int (xs 1))], [.ref 64], (jzv278 b0 b1 b2 b3)) : jS)) rfl ?_
  refine jl_s (S' := ((164, [(3, .int 4), (4, .int (b3)), (2, .int 2), (0, .ref 64), (1, .int (xs 1))], [.int 2], (jzv278 b0 b1 b2 b3)) : jS)) rfl ?_
  exact jl_r (r := (.inl (some (.int 2)), (jzv278 b0 b1 b2 b3))) rfl
set_option maxHeartbeats 4000000 in
set_option maxRecDepth 100000 in
theorem jzcp_VZZV (xs : Nat → Int32) (b0 b1 b2 b3 : Int32) (e0 : ((Int32.toUInt32 (xs 1) >>> (Int32.toUInt32 0 &&& Int32.toUInt32 31)).toInt32) &&& 255 = b0) (e1 : ((Int32.toUInt32 (xs 1) >>> (Int32.toUInt32 8 &&& Int32.toUInt32 31)).toInt32) &&& 255 = b1) (e2 : ((Int32.toUInt32 (xs 1) >>> (Int32.toUInt32 16 &&& Int32.toUInt32 31)).toInt32) &&& 255 = b2) (e3 : ((Int32.toUInt32 (xs 1) >>> (Int32.toUInt32 24 &&& Int32.toUInt32 31)).toInt32) &&& 255 = b3) (h0 : jbv b0) (h1 : jbz b1) (h2 : jbz b2) (h3 : jbv b3) : jRun ((4, xs) : jX) 2000 38 20 [.ref 64, .int (xs 1)] jzv181 = some (.inl (some (.int 2)), (jzv278 b0 b1 b2 b3)) := by
  refine jr_run (e := jm20) rfl (Nat.le_of_ble_eq_true rfl) ?_
  refine jzq267 xs b0 b1 b2 b3 ?_
  refine jzq378 xs b0 b1 b2 b3 e0 h0 ?_
  refine jzq380 xs b0 b1 b2 b3 e1 h1 ?_
  refine jzq333 xs b0 b1 b2 b3 e2 h2 ?_
  refine jzq316 xs b0 b1 b2 b3 e3 h3 ?_
  refine jzq318 xs b0 b1 b2 b3 ?_
  refine jzq392 xs b0 b1 b2 b3 e0 h0.1 ?_
  refine jzq394 xs b0 b1 b2 b3 e1 h1 ?_
  refine jzq396 xs b0 b1 b2 b3 e2 h2 ?_
  refine jzq398 xs b0 b1 b2 b3 e3 h3.1 ?_
  exact jzq400 xs b0 b1 b2 b3
def jzc193 (b0 b1 b2 b3 : Int32) : jC := .inl (0, 3000, .inl (upd (upd (fun _ => 0) 0 (vp_nar .byte ((b0).toInt8.toInt32))) 1 (vp_nar .byte ((b2).toInt8.toInt32))))
def jzv279 (b0 b1 b2 b3 : Int32) : jH := [jzc182, (jzc193 b0 b1 b2 b3), jzc117, jzc7, jzc9, jzc9, jzc9, jzc9, jzc9, jzc17, jzc19, jzc19, jzc19, jzc19, jzc19, jzc19, jzc19, jzc19, jzc28, jzc28, jzc28, jzc28, jzc28, jzc28, jzc28, jzc28, jzc28, jzc28, jzc28, jzc28, jzc28, jzc28, jzc43, jzc43, jzc43, jzc43, jzc43, jzc49, jzc49, jzc52, jzc52, jzc52, jzc56, jzc56, jzc59, jzc56, jzc62, jzc28, jzc28, jzc28, jzc28, jzc28, jzc69, jzc71, jzc73, jzc43, jzc76, jzc52, jzc52, jzc80, jzc80, jzc80, jzc84, jzc52, jzc52, jzc52, jzc52, jzc52, jzc52, jzc52, jzc93, jzc93, jzc52, jzc52, jzc98, jzc100, jzc93, jzc52, jzc52, jzc52, jzc52, jzc107, jzc109, jzc111, jzc100, jzc100, jzc100, jzc111, jzc111, jzc118]
def jzv280 (b0 b1 b2 b3 : Int32) : jH := [jzc185, (jzc193 b0 b1 b2 b3), jzc117, jzc7, jzc9, jzc9, jzc9, jzc9, jzc9, jzc17, jzc19, jzc19, jzc19, jzc19, jzc19, jzc19, jzc19, jzc19, jzc28, jzc28, jzc28, jzc28, jzc28, jzc28, jzc28, jzc28, jzc28, jzc28, jzc28, jzc28, jzc28, jzc28, jzc43, jzc43, jzc43, jzc43, jzc43, jzc49, jzc49, jzc52, jzc52, jzc52, jzc56, jzc56, jzc59, jzc56, jzc62, jzc28, jzc28, jzc28, jzc28, jzc28, jzc69, jzc71, jzc73, jzc43, jzc76, jzc52, jzc52, jzc80, jzc80, jzc80, jzc84, jzc52, jzc52, jzc52, jzc52, jzc52, jzc52, jzc52, jzc93, jzc93, jzc52, jzc52, jzc98, jzc100, jzc93, jzc52, jzc52, jzc52, jzc52, jzc107, jzc109, jzc111, jzc100, jzc100, jzc100, jzc111, jzc111, jzc118]
set_option maxHeartbeats 4000000 in
set_option maxRecDepth 100000 in
theorem jzq402 (xs : Nat → Int32) (b0 b1 b2 b3 : Int32) (e : ((Int32.toUInt32 (xs 1) >>> (Int32.toUInt32 16 &&& Int32.toUInt32 31)).toInt32) &&& 255 = b2) (h : jbn b2) {f : Nat} {q : jO × jH} (hq : jLoop (jRun ((4, xs) : jX) 2000 37) ((4, xs) : jX) jm20 f ((100, [(3, .int 3), (4, .int (b2)), (2, .int 2), (0, .ref 64), (1, .int (xs 1))], [], (jzv280 b0 b1 b2 b3)) : jS) = some q) : jLoop (jRun ((4, xs) : jX) 2000 37) ((4, xs) : jX) jm20 (f + 32) ((100, [(3, .int 2), (4, .int (b1)), (2, .int 2), (0, .ref 64), (1, .int (xs 1))], [], (jzv276 b0 b1 b2 b3)) : jS) = some q := by
  refine jl_s (S' := ((101, [(3, .int 2), (4, .int (b1)), (2, .int 2), (0, .ref 64), (1, .int (xs 1))], [.int 2], (jzv276 b0 b1 b2 b3)) : jS)) rfl ?_
  refine jl_s (S' := ((102, [(3, .int 2), (4, .int (b1)), (2, .int 2), (0, .ref 64), (1, .int (xs 1))], [.int 4, .int 2], (jzv276 b0 b1 b2 b3)) : jS)) rfl ?_
  refine jl_s (S' := ((105, [(3, .int 2), (4, .int (b1)), (2, .int 2), (0, .ref 64), (1, .int (xs 1))], [], (jzv276 b0 b1 b2 b3)) : jS)) rfl ?_
  refine jl_s (S' := ((106, [(3, .int 2), (4, .int (b1)), (2, .int 2), (0, .ref 64), (1, .int (xs 1))], [.int (xs 1)], (jzv276 b0 b1 b2 b3)) : jS)) rfl ?_
  refine jl_s (S' := ((108, [(3, .int 2), (4, .int (b1)), (2, .int 2), (0, .ref 64), (1, .int (xs 1))], [.int 8, .int (xs 1)], (jzv276 b0 b1 b2 b3)) : jS)) rfl ?_
  refine jl_s (S' := ((109, [(3, .int 2), (4, .int (b1)), (2, .int 2), (0, .ref 64), (1, .int (xs 1))], [.int 2, .int 8, .int (xs 1)], (jzv276 b0 b1 b2 b3)) : jS)) rfl ?_
  refine jl_s (S' := ((110, [(3, .int 2), (4, .int (b1)), (2, .int 2), (0, .ref 64), (1, .int (xs 1))], [.int 16, .int (xs 1)], (jzv276 b0 b1 b2 b3)) : jS)) rfl ?_
  refine jl_s (S' := ((111, [(3, .int 2), (4, .int (b1)), (2, .int 2), (0, .ref 64), (1, .int (xs 1))], [.int ((Int32.toUInt32 (xs 1) >>> (Int32.toUInt32 16 &&& Int32.toUInt32 31)).toInt32)], (jzv276 b0 b1 b2 b3)) : jS)) rfl ?_
  refine jl_s (S' := ((114, [(3, .int 2), (4, .int (b1)), (2, .int 2), (0, .ref 64), (1, .int (xs 1))], [.int 255, .int ((Int32.toUInt32 (xs 1) >>> (Int32.toUInt32 16 &&& Int32.toUInt32 31)).toInt32)], (jzv276 b0 b1 b2 b3)) : jS)) rfl ?_
  refine jl_s (S' := ((115, [(3, .int 2), (4, .int (b1)), (2, .int 2), (0, .ref 64), (1, .int (xs 1))], [.int (((Int32.toUInt32 (xs 1) >>> (Int32.toUInt32 16 &&& Int32.toUInt32 31)).toInt32) &&& 255)], (jzv276 b0 b1 b2 b3)) : jS)) rfl ?_
  rw [e]
  refine jl_s (S' := ((117, [(4, .int (b2)), (3, .int 2), (2, .int 2), (0, .ref 64), (1, .int (xs 1))], [], (jzv276 b0 b1 b2 b3)) : jS)) rfl ?_
  refine jl_s (S' := ((119, [(4, .int (b2)), (3, .int 2), (2, .int 2), (0, .ref 64), (1, .int (xs 1))], [.int (b2)], (jzv276 b0 b1 b2 b3)) : jS)) rfl ?_
  refine jl_iff (e := jm20) (o := 35) rfl (h.1) ?_
  refine jl_s (S' := ((123, [(4, .int (b2)), (3, .int 2), (2, .int 2), (0, .ref 64), (1, .int (xs 1))], [.ref 64], (jzv276 b0 b1 b2 b3)) : jS)) rfl ?_
  refine jl_s (S' := ((126, [(4, .int (b2)), (3, .int 2), (2, .int 2), (0, .ref 64), (1, .int (xs 1))], [.int 1], (jzv276 b0 b1 b2 b3)) : jS)) rfl ?_
  refine jl_s (S' := ((129, [(4, .int (b2)), (3, .int 2), (2, .int 2), (0, .ref 64), (1, .int (xs 1))], [.int 3000, .int 1], (jzv276 b0 b1 b2 b3)) : jS)) rfl ?_
  refine jl_s (S' := ((132, [(4, .int (b2)), (3, .int 2), (2, .int 2), (0, .ref 64), (1, .int (xs 1))], [], (jzv276 b0 b1 b2 b3)) : jS)) rfl ?_
  refine jl_s (S' := ((133, [(4, .int (b2)), (3, .int 2), (2, .int 2), (0, .ref 64), (1, .int (xs 1))], [.ref 64], (jzv276 b0 b1 b2 b3)) : jS)) rfl ?_
  refine jl_s (S' := ((136, [(4, .int (b2)), (3, .int 2), (2, .int 2), (0, .ref 64), (1, .int (xs 1))], [.ref 65], (jzv276 b0 b1 b2 b3)) : jS)) rfl ?_
  refine jl_s (S' := ((137, [(4, .int (b2)), (3, .int 2), (2, .int 2), (0, .ref 64), (1, .int (xs 1))], [.ref 64, .ref 65], (jzv276 b0 b1 b2 b3)) : jS)) rfl ?_
  refine jl_s (S' := ((140, [(4, .int (b2)), (3, .int 2), (2, .int 2), (0, .ref 64), (1, .int (xs 1))], [.int 1, .ref 65], (jzv276 b0 b1 b2 b3)) : jS)) rfl ?_
  refine jl_s (S' := ((142, [(4, .int (b2)), (3, .int 2), (2, .int 2), (0, .ref 64), (1, .int (xs 1))], [.int (b2), .int 1, .ref 65], (jzv276 b0 b1 b2 b3)) : jS)) rfl ?_
  refine jl_s (S' := ((143, [(4, .int (b2)), (3, .int 2), (2, .int 2), (0, .ref 64), (1, .int (xs 1))], [.int ((b2).toInt8.toInt32), .int 1, .ref 65], (jzv276 b0 b1 b2 b3)) : jS)) rfl ?_
  refine jl_s (S' := ((144, [(4, .int (b2)), (3, .int 2), (2, .int 2), (0, .ref 64), (1, .int (xs 1))], [], (jzv279 b0 b1 b2 b3)) : jS)) rfl ?_
  refine jl_s (S' := ((145, [(4, .int (b2)), (3, .int 2), (2, .int 2), (0, .ref 64), (1, .int (xs 1))], [.ref 64], (jzv279 b0 b1 b2 b3)) : jS)) rfl ?_
  refine jl_s (S' := ((146, [(4, .int (b2)), (3, .int 2), (2, .int 2), (0, .ref 64), (1, .int (xs 1))], [.ref 64, .ref 64], (jzv279 b0 b1 b2 b3)) : jS)) rfl ?_
  refine jl_s (S' := ((149, [(4, .int (b2)), (3, .int 2), (2, .int 2), (0, .ref 64), (1, .int (xs 1))], [.int 1, .ref 64], (jzv279 b0 b1 b2 b3)) : jS)) rfl ?_
  refine jl_s (S' := ((150, [(4, .int (b2)), (3, .int 2), (2, .int 2), (0, .ref 64), (1, .int (xs 1))], [.int 1, .int 1, .ref 64], (jzv279 b0 b1 b2 b3)) : jS)) rfl ?_
  refine jl_s (S' := ((151, [(4, .int (b2)), (3, .int 2), (2, .int 2), (0, .ref 64), (1, .int (xs 1))], [.int 2, .ref 64], (jzv279 b0 b1 b2 b3)) : jS)) rfl ?_
  refine jl_s (S' := ((154, [(4, .int (b2)), (3, .int 2), (2, .int 2), (0, .ref 64), (1, .int (xs 1))], [], (jzv280 b0 b1 b2 b3)) : jS)) rfl ?_
  refine jl_s (S' := ((157, [(3, .int 3), (4, .int (b2)), (2, .int 2), (0, .ref 64), (1, .int (xs 1))], [], (jzv280 b0 b1 b2 b3)) : jS)) rfl ?_
  refine jl_s (S' := ((100, [(3, .int 3), (4, .int (b2)), (2, .int 2), (0, .ref 64), (1, .int (xs 1))], [], (jzv280 b0 b1 b2 b3)) : jS)) rfl ?_
  exact hq
set_option maxHeartbeats 4000000 in
set_option maxRecDepth 100000 in
theorem jzq404 (xs : Nat → Int32) (b0 b1 b2 b3 : Int32) (e : ((Int32.toUInt32 (xs 1) >>> (Int32.toUInt32 24 &&& Int32.toUInt32 31)).toInt32) &&& 255 = b3) (h : jbz b3) {f : Nat} {q : jO × jH} (hq : jLoop (jRun ((4, xs) : jX) 2000 37) ((4, xs) : jX) jm20 f ((100, [(3, .int 4), (4, .int (b3)), (2, .int 2), (0, .ref 64), (1, .int (xs 1))], [], (jzv280 b0 b1 b2 b3)) : jS) = some q) : jLoop (jRun ((4, xs) : jX) 2000 37) ((4, xs) : jX) jm20 (f + 15) ((100, [(3, .int 3), (4, .int (b2)), (2, .int 2), (0, .ref 64), (1, .int (xs 1))], [], (jzv280 b0 b1 b2 b3)) : jS) = some q := by
  refine jl_s (S' := ((101, [(3, .int 3), (4, .int (b2)), (2, .int 2), (0, .ref 64), (1, .int (xs 1))], [.int 3], (jzv280 b0 b1 b2 b3)) : jS)) rfl ?_
  refine jl_s (S' := ((102, [(3, .int 3), (4, .int (b2)), (2, .int 2), (0, .ref 64), (1, .int (xs 1))], [.int 4, .int 3], (jzv280 b0 b1 b2 b3)) : jS)) rfl ?_
  refine jl_s (S' := ((105, [(3, .int 3), (4, .int (b2)), (2, .int 2), (0, .ref 64), (1, .int (xs 1))], [], (jzv280 b0 b1 b2 b3)) : jS)) rfl ?_
  refine jl_s (S' := ((106, [(3, .int 3), (4, .int (b2)), (2, .int 2), (0, .ref 64), (1, .int (xs 1))], [.int (xs 1)], (jzv280 b0 b1 b2 b3)) : jS)) rfl ?_
  refine jl_s (S' := ((108, [(3, .int 3), (4, .int (b2)), (2, .int 2), (0, .ref 64), (1, .int (xs 1))], [.int 8, .int (xs 1)], (jzv280 b0 b1 b2 b3)) : jS)) rfl ?_
  refine jl_s (S' := ((109, [(3, .int 3), (4, .int (b2)), (2, .int 2), (0, .ref 64), (1, .int (xs 1))], [.int 3, .int 8, .int (xs 1)], (jzv280 b0 b1 b2 b3)) : jS)) rfl ?_
  refine jl_s (S' := ((110, [(3, .int 3), (4, .int (b2)), (2, .int 2), (0, .ref 64), (1, .int (xs 1))], [.int 24, .int (xs 1)], (jzv280 b0 b1 b2 b3)) : jS)) rfl ?_
  refine jl_s (S' := ((111, [(3, .int 3), (4, .int (b2)), (2, .int 2), (0, .ref 64), (1, .int (xs 1))], [.int ((Int32.toUInt32 (xs 1) >>> (Int32.toUInt32 24 &&& Int32.toUInt32 31)).toInt32)], (jzv280 b0 b1 b2 b3)) : jS)) rfl ?_
  refine jl_s (S' := ((114, [(3, .int 3), (4, .int (b2)), (2, .int 2), (0, .ref 64), (1, .int (xs 1))], [.int 255, .int ((Int32.toUInt32 (xs 1) >>> (Int32.toUInt32 24 &&& Int32.toUInt32 31)).toInt32)], (jzv280 b0 b1 b2 b3)) : jS)) rfl ?_
  refine jl_s (S' := ((115, [(3, .int 3), (4, .int (b2)), (2, .int 2), (0, .ref 64), (1, .int (xs 1))], [.int (((Int32.toUInt32 (xs 1) >>> (Int32.toUInt32 24 &&& Int32.toUInt32 31)).toInt32) &&& 255)], (jzv280 b0 b1 b2 b3)) : jS)) rfl ?_
  rw [e]
  refine jl_s (S' := ((117, [(4, .int (b3)), (3, .int 3), (2, .int 2), (0, .ref 64), (1, .int (xs 1))], [], (jzv280 b0 b1 b2 b3)) : jS)) rfl ?_
  refine jl_s (S' := ((119, [(4, .int (b3)), (3, .int 3), (2, .int 2), (0, .ref 64), (1, .int (xs 1))], [.int (b3)], (jzv280 b0 b1 b2 b3)) : jS)) rfl ?_
  refine jl_ift (e := jm20) (o := 35) rfl (h.1) (t := 154) rfl ?_
  refine jl_s (S' := ((157, [(3, .int 4), (4, .int (b3)), (2, .int 2), (0, .ref 64), (1, .int (xs 1))], [], (jzv280 b0 b1 b2 b3)) : jS)) rfl ?_
  refine jl_s (S' := ((100, [(3, .int 4), (4, .int (b3)), (2, .int 2), (0, .ref 64), (1, .int (xs 1))], [], (jzv280 b0 b1 b2 b3)) : jS)) rfl ?_
  exact hq
set_option maxHeartbeats 4000000 in
set_option maxRecDepth 100000 in
theorem jzq406 (xs : Nat → Int32) (b0 b1 b2 b3 : Int32) {f : Nat} : jLoop (jRun ((4, xs) : jX) 2000 37) ((4, xs) : jX) jm20 (f + 6) ((100, [(3, .int 4), (4, .int (b3)), (2, .int 2), (0, .ref 64), (1, .int (xs 1))], [], (jzv280 b0 b1 b2 b3)) : jS) = some (.inl (some (.int 2)), (jzv280 b0 b1 b2 b3)) := by
  refine jl_s (S' := ((101, [(3, .int 4), (4, .int (b3)), (2, .int 2), (0, .ref 64), (1, .int (xs 1))], [.int 4], (jzv280 b0 b1 b2 b3)) : jS)) rfl ?_
  refine jl_s (S' := ((102, [(3, .int 4), (4, .int (b3)), (2, .int 2), (0, .ref 64), (1, .int (xs 1))], [.int 4, .int 4], (jzv280 b0 b1 b2 b3)) : jS)) rfl ?_
  refine jl_s (S' := ((160, [(3, .int 4), (4, .int (b3)), (2, .int 2), (0, .ref 64), (1, .int (xs 1))], [], (jzv280 b0 b1 b2 b3)) : jS)) rfl ?_
  refine jl_s (S' := ((161, [(3, .int 4), (4, .int (b3)), (2, .int 2), (0, .ref 64), (1, .int (xs 1))], [.ref 64], (jzv280 b0 b1 b2 b3)) : jS)) rfl ?_
  refine jl_s (S' := ((164, [(3, .int 4), (4, .int (b3)), (2, .int 2), (0, .ref 64), (1, .int (xs 1))], [.int 2], (jzv280 b0 b1 b2 b3)) : jS)) rfl ?_
  exact jl_r (r := (.inl (some (.int 2)), (jzv280 b0 b1 b2 b3))) rfl
set_option maxHeartbeats 4000000 in
set_option maxRecDepth 100000 in
theorem jzcp_VZVZ (xs : Nat → Int32) (b0 b1 b2 b3 : Int32) (e0 : ((Int32.toUInt32 (xs 1) >>> (Int32.toUInt32 0 &&& Int32.toUInt32 31)).toInt32) &&& 255 = b0) (e1 : ((Int32.toUInt32 (xs 1) >>> (Int32.toUInt32 8 &&& Int32.toUInt32 31)).toInt32) &&& 255 = b1) (e2 : ((Int32.toUInt32 (xs 1) >>> (Int32.toUInt32 16 &&& Int32.toUInt32 31)).toInt32) &&& 255 = b2) (e3 : ((Int32.toUInt32 (xs 1) >>> (Int32.toUInt32 24 &&& Int32.toUInt32 31)).toInt32) &&& 255 = b3) (h0 : jbv b0) (h1 : jbz b1) (h2 : jbv b2) (h3 : jbz b3) : jRun ((4, xs) : jX) 2000 38 20 [.ref 64, .int (xs 1)] jzv181 = some (.inl (some (.int 2)), (jzv280 b0 b1 b2 b3)) := by
  refine jr_run (e := jm20) rfl (Nat.le_of_ble_eq_true rfl) ?_
  refine jzq267 xs b0 b1 b2 b3 ?_
  refine jzq378 xs b0 b1 b2 b3 e0 h0 ?_
  refine jzq380 xs b0 b1 b2 b3 e1 h1 ?_
  refine jzq352 xs b0 b1 b2 b3 e2 h2 ?_
  refine jzq354 xs b0 b1 b2 b3 e3 h3 ?_
  refine jzq318 xs b0 b1 b2 b3 ?_
  refine jzq392 xs b0 b1 b2 b3 e0 h0.1 ?_
  refine jzq394 xs b0 b1 b2 b3 e1 h1 ?_
  refine jzq402 xs b0 b1 b2 b3 e2 h2.1 ?_
  refine jzq404 xs b0 b1 b2 b3 e3 h3 ?_
  exact jzq406 xs b0 b1 b2 b3
set_option maxHeartbeats 4000000 in
set_option maxRecDepth 100000 in
theorem jzq408 (xs : Nat → Int32) (b0 b1 b2 b3 : Int32) (e : ((Int32.toUInt32 (xs 1) >>> (Int32.toUInt32 0 &&& Int32.toUInt32 31)).toInt32) &&& 255 = b0) (h : jbn b0) {f : Nat} {q : jO × jH} (hq : jLoop (jRun ((4, xs) : jX) 2000 37) ((4, xs) : jX) jm20 f ((100, [(3, .int 1), (4, .int (b0)), (2, .int 3), (0, .ref 64), (1, .int (xs 1))], [], (jzv276 b0 b1 b2 b3)) : jS) = some q) : jLoop (jRun ((4, xs) : jX) 2000 37) ((4, xs) : jX) jm20 (f + 32) ((100, [(3, .int 0), (2, .int 3), (4, .int (b3)), (0, .ref 64), (1, .int (xs 1))], [], jzv181) : jS) = some q := by
  refine jl_s (S' := ((101, [(3, .int 0), (2, .int 3), (4, .int (b3)), (0, .ref 64), (1, .int (xs 1))], [.int 0], jzv181) : jS)) rfl ?_
  refine jl_s (S' := ((102, [(3, .int 0), (2, .int 3), (4, .int (b3)), (0, .ref 64), (1, .int (xs 1))], [.int 4, .int 0], jzv181) : jS)) rfl ?_
  refine jl_s (S' := ((105, [(3, .int 0), (2, .int 3), (4, .int (b3)), (0, .ref 64), (1, .int (xs 1))], [], jzv181) : jS)) rfl ?_
  refine jl_s (S' := ((106, [(3, .int 0), (2, .int 3), (4, .int (b3)), (0, .ref 64), (1, .int (xs 1))], [.int (xs 1)], jzv181) : jS)) rfl ?_
  refine jl_s (S' := ((108, [(3, .int 0), (2, .int 3), (4, .int (b3)), (0, .ref 64), (1, .int (xs 1))], [.int 8, .int (xs 1)], jzv181) : jS)) rfl ?_
  refine jl_s (S' := ((109, [(3, .int 0), (2, .int 3), (4, .int (b3)), (0, .ref 64), (1, .int (xs 1))], [.int 0, .int 8, .int (xs 1)], jzv181) : jS)) rfl ?_
  refine jl_s (S' := ((110, [(3, .int 0), (2, .int 3), (4, .int (b3)), (0, .ref 64), (1, .int (xs 1))], [.int 0, .int (xs 1)], jzv181) : jS)) rfl ?_
  refine jl_s (S' := ((111, [(3, .int 0), (2, .int 3), (4, .int (b3)), (0, .ref 64), (1, .int (xs 1))], [.int ((Int32.toUInt32 (xs 1) >>> (Int32.toUInt32 0 &&& Int32.toUInt32 31)).toInt32)], jzv181) : jS)) rfl ?_
  refine jl_s (S' := ((114, [(3, .int 0), (2, .int 3), (4, .int (b3)), (0, .ref 64), (1, .int (xs 1))], [.int 255, .int ((Int32.toUInt32 (xs 1) >>> (Int32.toUInt32 0 &&& Int32.toUInt32 31)).toInt32)], jzv181) : jS)) rfl ?_
  refine jl_s (S' := ((115, [(3, .int 0), (2, .int 3), (4, .int (b3)), (0, .ref 64), (1, .int (xs 1))], [.int (((Int32.toUInt32 (xs 1) >>> (Int32.toUInt32 0 &&& Int32.toUInt32 31)).toInt32) &&& 255)], jzv181) : jS)) rfl ?_
  rw [e]
  refine jl_s (S' := ((117, [(4, .int (b0)), (3, .int 0), (2, .int 3), (0, .ref 64), (1, .int (xs 1))], [], jzv181) : jS)) rfl ?_
  refine jl_s (S' := ((119, [(4, .int (b0)), (3, .int 0), (2, .int 3), (0, .ref 64), (1, .int (xs 1))], [.int (b0)], jzv181) : jS)) rfl ?_
  refine jl_iff (e := jm20) (o := 35) rfl (h.1) ?_
  refine jl_s (S' := ((123, [(4, .int (b0)), (3, .int 0), (2, .int 3), (0, .ref 64), (1, .int (xs 1))], [.ref 64], jzv181) : jS)) rfl ?_
  refine jl_s (S' := ((126, [(4, .int (b0)), (3, .int 0), (2, .int 3), (0, .ref 64), (1, .int (xs 1))], [.int 0], jzv181) : jS)) rfl ?_
  refine jl_s (S' := ((129, [(4, .int (b0)), (3, .int 0), (2, .int 3), (0, .ref 64), (1, .int (xs 1))], [.int 3000, .int 0], jzv181) : jS)) rfl ?_
  refine jl_s (S' := ((132, [(4, .int (b0)), (3, .int 0), (2, .int 3), (0, .ref 64), (1, .int (xs 1))], [], jzv181) : jS)) rfl ?_
  refine jl_s (S' := ((133, [(4, .int (b0)), (3, .int 0), (2, .int 3), (0, .ref 64), (1, .int (xs 1))], [.ref 64], jzv181) : jS)) rfl ?_
  refine jl_s (S' := ((136, [(4, .int (b0)), (3, .int 0), (2, .int 3), (0, .ref 64), (1, .int (xs 1))], [.ref 65], jzv181) : jS)) rfl ?_
  refine jl_s (S' := ((137, [(4, .int (b0)), (3, .int 0), (2, .int 3), (0, .ref 64), (1, .int (xs 1))], [.ref 64, .ref 65], jzv181) : jS)) rfl ?_
  refine jl_s (S' := ((140, [(4, .int (b0)), (3, .int 0), (2, .int 3), (0, .ref 64), (1, .int (xs 1))], [.int 0, .ref 65], jzv181) : jS)) rfl ?_
  refine jl_s (S' := ((142, [(4, .int (b0)), (3, .int 0), (2, .int 3), (0, .ref 64), (1, .int (xs 1))], [.int (b0), .int 0, .ref 65], jzv181) : jS)) rfl ?_
  refine jl_s (S' := ((143, [(4, .int (b0)), (3, .int 0), (2, .int 3), (0, .ref 64), (1, .int (xs 1))], [.int ((b0).toInt8.toInt32), .int 0, .ref 65], jzv181) : jS)) rfl ?_
  refine jl_s (S' := ((144, [(4, .int (b0)), (3, .int 0), (2, .int 3), (0, .ref 64), (1, .int (xs 1))], [], (jzv275 b0 b1 b2 b3)) : jS)) rfl ?_
  refine jl_s (S' := ((145, [(4, .int (b0)), (3, .int 0), (2, .int 3), (0, .ref 64), (1, .int (xs 1))], [.ref 64], (jzv275 b0 b1 b2 b3)) : jS)) rfl ?_
  refine jl_s (S' := ((146, [(4, .int (b0)), (3, .int 0), (2, .int 3), (0, .ref 64), (1, .int (xs 1))], [.ref 64, .ref 64], (jzv275 b0 b1 b2 b3)) : jS)) rfl ?_
  refine jl_s (S' := ((149, [(4, .int (b0)), (3, .int 0), (2, .int 3), (0, .ref 64), (1, .int (xs 1))], [.int 0, .ref 64], (jzv275 b0 b1 b2 b3)) : jS)) rfl ?_
  refine jl_s (S' := ((150, [(4, .int (b0)), (3, .int 0), (2, .int 3), (0, .ref 64), (1, .int (xs 1))], [.int 1, .int 0, .ref 64], (jzv275 b0 b1 b2 b3)) : jS)) rfl ?_
  refine jl_s (S' := ((151, [(4, .int (b0)), (3, .int 0), (2, .int 3), (0, .ref 64), (1, .int (xs 1))], [.int 1, .ref 64], (jzv275 b0 b1 b2 b3)) : jS)) rfl ?_
  refine jl_s (S' := ((154, [(4, .int (b0)), (3, .int 0), (2, .int 3), (0, .ref 64), (1, .int (xs 1))], [], (jzv276 b0 b1 b2 b3)) : jS)) rfl ?_
  refine jl_s (S' := ((157, [(3, .int 1), (4, .int (b0)), (2, .int 3), (0, .ref 64), (1, .int (xs 1))], [], (jzv276 b0 b1 b2 b3)) : jS)) rfl ?_
  refine jl_s (S' := ((100, [(3, .int 1), (4, .int (b0)), (2, .int 3), (0, .ref 64), (1, .int (xs 1))], [], (jzv276 b0 b1 b2 b3)) : jS)) rfl ?_
  exact hq
set_option maxHeartbeats 4000000 in
set_option maxRecDepth 100000 in
theorem jzq410 (xs : Nat → Int32) (b0 b1 b2 b3 : Int32) (e : ((Int32.toUInt32 (xs 1) >>> (Int32.toUInt32 8 &&& Int32.toUInt32 31)).toInt32) &&& 255 = b1) (h : jbz b1) {f : Nat} {q : jO × jH} (hq : jLoop (jRun ((4, xs) : jX) 2000 37) ((4, xs) : jX) jm20 f ((100, [(3, .int 2), (4, .int (b1)), (2, .int 3), (0, .ref 64), (1, .int (xs 1))], [], (jzv276 b0 b1 b2 b3)) : jS) = some q) : jLoop (jRun ((4, xs) : jX) 2000 37) ((4, xs) : jX) jm20 (f + 15) ((100, [(3, .int 1), (4, .int (b0)), (2, .int 3), (0, .ref 64), (1, .int (xs 1))], [], (jzv276 b0 b1 b2 b3)) : jS) = some q := by
  refine jl_s (S' := ((101, [(3, .int 1), (4, .int (b0)), (2, .int 3), (0, .ref 64), (1, .int (xs 1))], [.int 1], (jzv276 b0 b1 b2 b3)) : jS)) rfl ?_
  refine jl_s (S' := ((102, [(3, .int 1), (4, .int (b0)), (2, .int 3), (0, .ref 64), (1, .int (xs 1))], [.int 4, .int 1], (jzv276 b0 b1 b2 b3)) : jS)) rfl ?_
  refine jl_s (S' := ((105, [(3, .int 1), (4, .int (b0)), (2, .int 3), (0, .ref 64), (1, .int (xs 1))], [], (jzv276 b0 b1 b2 b3)) : jS)) rfl ?_
  refine jl_s (S' := ((106, [(3, .int 1), (4, .int (b0)), (2, .int 3), (0, .ref 64), (1, .int (xs 1))], [.int (xs 1)], (jzv276 b0 b1 b2 b3)) : jS)) rfl ?_
  refine jl_s (S' := ((108, [(3, .int 1), (4, .int (b0)), (2, .int 3), (0, .ref 64), (1, .int (xs 1))], [.int 8, .int (xs 1)], (jzv276 b0 b1 b2 b3)) : jS)) rfl ?_
  refine jl_s (S' := ((109, [(3, .int 1), (4, .int (b0)), (2, .int 3), (0, .ref 64), (1, .int (xs 1))], [.int 1, .int 8, .int (xs 1)], (jzv276 b0 b1 b2 b3)) : jS)) rfl ?_
  refine jl_s (S' := ((110, [(3, .int 1), (4, .int (b0)), (2, .int 3), (0, .ref 64), (1, .int (xs 1))], [.int 8, .int (xs 1)], (jzv276 b0 b1 b2 b3)) : jS)) rfl ?_
  refine jl_s (S' := ((111, [(3, .int 1), (4, .int (b0)), (2, .int 3), (0, .ref 64), (1, .int (xs 1))], [.int ((Int32.toUInt32 (xs 1) >>> (Int32.toUInt32 8 &&& Int32.toUInt32 31)).toInt32)], (jzv276 b0 b1 b2 b3)) : jS)) rfl ?_
  refine jl_s (S' := ((114, [(3, .int 1), (4, .int (b0)), (2, .int 3), (0, .ref 64), (1, .int (xs 1))], [.int 255, .int ((Int32.toUInt32 (xs 1) >>> (Int32.toUInt32 8 &&& Int32.toUInt32 31)).toInt32)], (jzv276 b0 b1 b2 b3)) : jS)) rfl ?_
  refine jl_s (S' := ((115, [(3, .int 1), (4, .int (b0)), (2, .int 3), (0, .ref 64), (1, .int (xs 1))], [.int (((Int32.toUInt32 (xs 1) >>> (Int32.toUInt32 8 &&& Int32.toUInt32 31)).toInt32) &&& 255)], (jzv276 b0 b1 b2 b3)) : jS)) rfl ?_
  rw [e]
  refine jl_s (S' := ((117, [(4, .int (b1)), (3, .int 1), (2, .int 3), (0, .ref 64), (1, .int (xs 1))], [], (jzv276 b0 b1 b2 b3)) : jS)) rfl ?_
  refine jl_s (S' := ((119, [(4, .int (b1)), (3, .int 1), (2, .int 3), (0, .ref 64), (1, .int (xs 1))], [.int (b1)], (jzv276 b0 b1 b2 b3)) : jS)) rfl ?_
  refine jl_ift (e := jm20) (o := 35) rfl (h.1) (t := 154) rfl ?_
  refine jl_s (S' := ((157, [(3, .int 2), (4, .int (b1)), (2, .int 3), (0, .ref 64), (1, .int (xs 1))], [], (jzv276 b0 b1 b2 b3)) : jS)) rfl ?_
  refine jl_s (S' := ((100, [(3, .int 2), (4, .int (b1)), (2, .int 3), (0, .ref 64), (1, .int (xs 1))], [], (jzv276 b0 b1 b2 b3)) : jS)) rfl ?_
  exact hq
set_option maxHeartbeats 4000000 in
set_option maxRecDepth 100000 in
theorem jzq412 (xs : Nat → Int32) (b0 b1 b2 b3 : Int32) (e : ((Int32.toUInt32 (xs 1) >>> (Int32.toUInt32 16 &&& Int32.toUInt32 31)).toInt32) &&& 255 = b2) (h : jbn b2) {f : Nat} {q : jO × jH} (hq : jLoop (jRun ((4, xs) : jX) 2000 37) ((4, xs) : jX) jm20 f ((100, [(3, .int 3), (4, .int (b2)), (2, .int 3), (0, .ref 64), (1, .int (xs 1))], [], (jzv280 b0 b1 b2 b3)) : jS) = some q) : jLoop (jRun ((4, xs) : jX) 2000 37) ((4, xs) : jX) jm20 (f + 32) ((100, [(3, .int 2), (4, .int (b1)), (2, .int 3), (0, .ref 64), (1, .int (xs 1))], [], (jzv276 b0 b1 b2 b3)) : jS) = some q := by
  refine jl_s (S' := ((101, [(3, .int 2), (4, .int (b1)), (2, .int 3), (0, .ref 64), (1, .int (xs 1))], [.int 2], (jzv276 b0 b1 b2 b3)) : jS)) rfl ?_
  refine jl_s (S' := ((102, [(3, .int 2), (4, .int (b1)), (2, .int 3), (0, .ref 64), (1, .int (xs 1))], [.int 4, .int 2], (jzv276 b0 b1 b2 b3)) : jS)) rfl ?_
  refine jl_s (S' := ((105, [(3, .int 2), (4, .int (b1)), (2, .int 3), (0, .ref 64), (1, .int (xs 1))], [], (jzv276 b0 b1 b2 b3)) : jS)) rfl ?_
  refine jl_s (S' := ((106, [(3, .int 2), (4, .int (b1)), (2, .int 3), (0, .ref 64), (1, .int (xs 1))], [.int (xs 1)], (jzv276 b0 b1 b2 b3)) : jS)) rfl ?_
  refine jl_s (S' := ((108, [(3, .int 2), (4, .int (b1)), (2, .int 3), (0, .ref 64), (1, .int (xs 1))], [.int 8, .int (xs 1)], (jzv276 b0 b1 b2 b3)) : jS)) rfl ?_
  refine jl_s (S' := ((109, [(3, .int 2), (4, .int (b1)), (2, .int 3), (0, .ref 64), (1, .int (xs 1))], [.int 2, .int 8, .int (xs 1)], (jzv276 b0 b1 b2 b3)) : jS)) rfl ?_
  refine jl_s (S' := ((110, [(3, .int 2), (4, .int (b1)), (2, .int 3), (0, .ref 64), (1, .int (xs 1))], [.int 16, .int (xs 1)], (jzv276 b0 b1 b2 b3)) : jS)) rfl ?_
  refine jl_s (S' := ((111, [(3, .int 2), (4, .int (b1)), (2, .int 3), (0, .ref 64), (1, .int (xs 1))], [.int ((Int32.toUInt32 (xs 1) >>> (Int32.toUInt32 16 &&& Int32.toUInt32 31)).toInt32)], (jzv276 b0 b1 b2 b3)) : jS)) rfl ?_
  refine jl_s (S' := ((114, [(3, .int 2), (4, .int (b1)), (2, .int 3), (0, .ref 64), (1, .int (xs 1))], [.int 255, .int ((Int32.toUInt32 (xs 1) >>> (Int32.toUInt32 16 &&& Int32.toUInt32 31)).toInt32)], (jzv276 b0 b1 b2 b3)) : jS)) rfl ?_
  refine jl_s (S' := ((115, [(3, .int 2), (4, .int (b1)), (2, .int 3), (0, .ref 64), (1, .int (xs 1))], [.int (((Int32.toUInt32 (xs 1) >>> (Int32.toUInt32 16 &&& Int32.toUInt32 31)).toInt32) &&& 255)], (jzv276 b0 b1 b2 b3)) : jS)) rfl ?_
  rw [e]
  refine jl_s (S' := ((117, [(4, .int (b2)), (3, .int 2), (2, .int 3), (0, .ref 64), (1, .int (xs 1))], [], (jzv276 b0 b1 b2 b3)) : jS)) rfl ?_
  refine jl_s (S' := ((119, [(4, .int (b2)), (3, .int 2), (2, .int 3), (0, .ref 64), (1, .int (xs 1))], [.int (b2)], (jzv276 b0 b1 b2 b3)) : jS)) rfl ?_
  refine jl_iff (e := jm20) (o := 35) rfl (h.1) ?_
  refine jl_s (S' := ((123, [(4, .int (b2)), (3, .int 2), (2, .int 3), (0, .ref 64), (1, .int (xs 1))], [.ref 64], (jzv276 b0 b1 b2 b3)) : jS)) rfl ?_
  refine jl_s (S' := ((126, [(4, .int (b2)), (3, .int 2), (2, .int 3), (0, .ref 64), (1, .int (xs 1))], [.int 1], (jzv276 b0 b1 b2 b3)) : jS)) rfl ?_
  refine jl_s (S' := ((129, [(4, .int (b2)), (3, .int 2), (2, .int 3), (0, .ref 64), (1, .int (xs 1))], [.int 3000, .int 1], (jzv276 b0 b1 b2 b3)) : jS)) rfl ?_
  refine jl_s (S' := ((132, [(4, .int (b2)), (3, .int 2), (2, .int 3), (0, .ref 64), (1, .int (xs 1))], [], (jzv276 b0 b1 b2 b3)) : jS)) rfl ?_
  refine jl_s (S' := ((133, [(4, .int (b2)), (3, .int 2), (2, .int 3), (0, .ref 64), (1, .int (xs 1))], [.ref 64], (jzv276 b0 b1 b2 b3)) : jS)) rfl ?_
  refine jl_s (S' := ((136, [(4, .int (b2)), (3, .int 2), (2, .int 3), (0, .ref 64), (1, .int (xs 1))], [.ref 65], (jzv276 b0 b1 b2 b3)) : jS)) rfl ?_
  refine jl_s (S' := ((137, [(4, .int (b2)), (3, .int 2), (2, .int 3), (0, .ref 64), (1, .int (xs 1))], [.ref 64, .ref 65], (jzv276 b0 b1 b2 b3)) : jS)) rfl ?_
  refine jl_s (S' := ((140, [(4, .int (b2)), (3, .int 2), (2, .int 3), (0, .ref 64), (1, .int (xs 1))], [.int 1, .ref 65], (jzv276 b0 b1 b2 b3)) : jS)) rfl ?_
  refine jl_s (S' := ((142, [(4, .int (b2)), (3, .int 2), (2, .int 3), (0, .ref 64), (1, .int (xs 1))], [.int (b2), .int 1, .ref 65], (jzv276 b0 b1 b2 b3)) : jS)) rfl ?_
  refine jl_s (S' := ((143, [(4, .int (b2)), (3, .int 2), (2, .int 3), (0, .ref 64), (1, .int (xs 1))], [.int ((b2).toInt8.toInt32), .int 1, .ref 65], (jzv276 b0 b1 b2 b3)) : jS)) rfl ?_
  refine jl_s (S' := ((144, [(4, .int (b2)), (3, .int 2), (2, .int 3), (0, .ref 64), (1, .int (xs 1))], [], (jzv279 b0 b1 b2 b3)) : jS)) rfl ?_
  refine jl_s (S' := ((145, [(4, .int (b2)), (3, .int 2), (2, .int 3), (0, .ref 64), (1, .int (xs 1))], [.ref 64], (jzv279 b0 b1 b2 b3)) : jS)) rfl ?_
  refine jl_s (S' := ((146, [(4, .int (b2)), (3, .int 2), (2, .int 3), (0, .ref 64), (1, .int (xs 1))], [.ref 64, .ref 64], (jzv279 b0 b1 b2 b3)) : jS)) rfl ?_
  refine jl_s (S' := ((149, [(4, .int (b2)), (3, .int 2), (2, .int 3), (0, .ref 64), (1, .int (xs 1))], [.int 1, .ref 64], (jzv279 b0 b1 b2 b3)) : jS)) rfl ?_
  refine jl_s (S' := ((150, [(4, .int (b2)), (3, .int 2), (2, .int 3), (0, .ref 64), (1, .int (xs 1))], [.int 1, .int 1, .ref 64], (jzv279 b0 b1 b2 b3)) : jS)) rfl ?_
  refine jl_s (S' := ((151, [(4, .int (b2)), (3, .int 2), (2, .int 3), (0, .ref 64), (1, .int (xs 1))], [.int 2, .ref 64], (jzv279 b0 b1 b2 b3)) : jS)) rfl ?_
  refine jl_s (S' := ((154, [(4, .int (b2)), (3, .int 2), (2, .int 3), (0, .ref 64), (1, .int (xs 1))], [], (jzv280 b0 b1 b2 b3)) : jS)) rfl ?_
  refine jl_s (S' := ((157, [(3, .int 3), (4, .int (b2)), (2, .int 3), (0, .ref 64), (1, .int (xs 1))], [], (jzv280 b0 b1 b2 b3)) : jS)) rfl ?_
  refine jl_s (S' := ((100, [(3, .int 3), (4, .int (b2)), (2, .int 3), (0, .ref 64), (1, .int (xs 1))], [], (jzv280 b0 b1 b2 b3)) : jS)) rfl ?_
  exact hq
def jzc194 (b0 b1 b2 b3 : Int32) : jC := .inl (0, 3000, .inl (upd (upd (upd (fun _ => 0) 0 (vp_nar .byte ((b0).toInt8.toInt32))) 1 (vp_nar .byte ((b2).toInt8.toInt32))) 2 (vp_nar .byte ((b3).toInt8.toInt32))))
def jzv281 (b0 b1 b2 b3 : Int32) : jH := [jzc185, (jzc194 b0 b1 b2 b3), jzc117, jzc7, jzc9, jzc9, jzc9, jzc9, jzc9, jzc17, jzc19, jzc19, jzc19, jzc19, jzc19, jzc19, jzc19, jzc19, jzc28, jzc28, jzc28, jzc28, jzc28, jzc28, jzc28, jzc28, jzc28, jzc28, jzc28, jzc28, jzc28, jzc28, jzc43, jzc43, jzc43, jzc43, jzc43, jzc49, jzc49, jzc52, jzc52, jzc52, jzc56, jzc56, jzc59, jzc56, jzc62, jzc28, jzc28, jzc28, jzc28, jzc28, jzc69, jzc71, jzc73, jzc43, jzc76, jzc52, jzc52, jzc80, jzc80, jzc80, jzc84, jzc52, jzc52, jzc52, jzc52, jzc52, jzc52, jzc52, jzc93, jzc93, jzc52, jzc52, jzc98, jzc100, jzc93, jzc52, jzc52, jzc52, jzc52, jzc107, jzc109, jzc111, jzc100, jzc100, jzc100, jzc111, jzc111, jzc118]
def jzv282 (b0 b1 b2 b3 : Int32) : jH := [jzc190, (jzc194 b0 b1 b2 b3), jzc117, jzc7, jzc9, jzc9, jzc9, jzc9, jzc9, jzc17, jzc19, jzc19, jzc19, jzc19, jzc19, jzc19, jzc19, jzc19, jzc28, jzc28, jzc28, jzc28, jzc28, jzc28, jzc28, jzc28, jzc28, jzc28, jzc28, jzc28, jzc28, jzc28, jzc43, jzc43, jzc43, jzc43, jzc43, jzc49, jzc49, jzc52, jzc52, jzc52, jzc56, jzc56, jzc59, jzc56, jzc62, jzc28, jzc28, jzc28, jzc28, jzc28, jzc69, jzc71, jzc73, jzc43, jzc76, jzc52, jzc52, jzc80, jzc80, jzc80, jzc84, jzc52, jzc52, jzc52, jzc52, jzc52, jzc52, jzc52, jzc93, jzc93, jzc52, jzc52, jzc98, jzc100, jzc93, jzc52, jzc52, jzc52, jzc52, jzc107, jzc109, jzc111, jzc100, jzc100, jzc100, jzc111, jzc111, jzc118]
set_option maxHeartbeats 4000000 in
set_option maxRecDepth 100000 in
theorem jzq414 (xs : Nat → Int32) (b0 b1 b2 b3 : Int32) (e : ((Int32.toUInt32 (xs 1) >>> (Int32.toUInt32 24 &&& Int32.toUInt32 31)).toInt32) &&& 255 = b3) (h : jbn b3) {f : Nat} {q : jO × jH} (hq : jLoop (jRun ((4, xs) : jX) 2000 37) ((4, xs) : jX) jm20 f ((100, [(3, .int 4), (4, .int (b3)), (2, .int 3), (0, .ref 64), (1, .int (xs 1))], [], (jzv282 b0 b1 b2 b3)) : jS) = some q) : jLoop (jRun ((4, xs) : jX) 2000 37) ((4, xs) : jX) jm20 (f + 32) ((100, [(3, .int 3), (4, .int (b2)), (2, .int 3), (0, .ref 64), (1, .int (xs 1))], [], (jzv280 b0 b1 b2 b3)) : jS) = some q := by
  refine jl_s (S' := ((101, [(3, .int 3), (4, .int (b2)), (2, .int 3), (0, .ref 64), (1, .int (xs 1))], [.int 3], (jzv280 b0 b1 b2 b3)) : jS)) rfl ?_
  refine jl_s (S' := ((102, [(3, .int 3), (4, .int (b2)), (2, .int 3), (0, .ref 64), (1, .int (xs 1))], [.int 4, .int 3], (jzv280 b0 b1 b2 b3)) : jS)) rfl ?_
  refine jl_s (S' := ((105, [(3, .int 3), (4, .int (b2)), (2, .int 3), (0, .ref 64), (1, .int (xs 1))], [], (jzv280 b0 b1 b2 b3)) : jS)) rfl ?_
  refine jl_s (S' := ((106, [(3, .int 3), (4, .int (b2)), (2, .int 3), (0, .ref 64), (1, .int (xs 1))], [.int (xs 1)], (jzv280 b0 b1 b2 b3)) : jS)) rfl ?_
  refine jl_s (S' := ((108, [(3, .int 3), (4, .int (b2)), (2, .int 3), (0, .ref 64), (1, .int (xs 1))], [.int 8, .int (xs 1)], (jzv280 b0 b1 b2 b3)) : jS)) rfl ?_
  refine jl_s (S' := ((109, [(3, .int 3), (4, .int (b2)), (2, .int 3), (0, .ref 64), (1, .int (xs 1))], [.int 3, .int 8, .int (xs 1)], (jzv280 b0 b1 b2 b3)) : jS)) rfl ?_
  refine jl_s (S' := ((110, [(3, .int 3), (4, .int (b2)), (2, .int 3), (0, .ref 64), (1, .int (xs 1))], [.int 24, .int (xs 1)], (jzv280 b0 b1 b2 b3)) : jS)) rfl ?_
  refine jl_s (S' := ((111, [(3, .int 3), (4, .int (b2)), (2, .int 3), (0, .ref 64), (1, .int (xs 1))], [.int ((Int32.toUInt32 (xs 1) >>> (Int32.toUInt32 24 &&& Int32.toUInt32 31)).toInt32)], (jzv280 b0 b1 b2 b3)) : jS)) rfl ?_
  refine jl_s (S' := ((114, [(3, .int 3), (4, .int (b2)), (2, .int 3), (0, .ref 64), (1, .int (xs 1))], [.int 255, .int ((Int32.toUInt32 (xs 1) >>> (Int32.toUInt32 24 &&& Int32.toUInt32 31)).toInt32)], (jzv280 b0 b1 b2 b3)) : jS)) rfl ?_
  refine jl_s (S' := ((115, [(3, .int 3), (4, .int (b2)), (2, .int 3), (0, .ref 64), (1, .int (xs 1))], [.int (((Int32.toUInt32 (xs 1) >>> (Int32.toUInt32 24 &&& Int32.toUInt32 31)).toInt32) &&& 255)], (jzv280 b0 b1 b2 b3)) : jS)) rfl ?_
  rw [e]
  refine jl_s (S' := ((117, [(4, .int (b3)), (3, .int 3), (2, .int 3), (0, .ref 64), (1, .int (xs 1))], [], (jzv280 b0 b1 b2 b3)) : jS)) rfl ?_
  refine jl_s (S' := ((119, [(4, .int (b3)), (3, .int 3), (2, .int 3), (0, .ref 64), (1, .int (xs 1))], [.int (b3)], (jzv280 b0 b1 b2 b3)) : jS)) rfl ?_
  refine jl_iff (e := jm20) (o := 35) rfl (h.1) ?_
  refine jl_s (S' := ((123, [(4, .int (b3)), (3, .int 3), (2, .int 3), (0, .ref 64), (1, .int (xs 1))], [.ref 64], (jzv280 b0 b1 b2 b3)) : jS)) rfl ?_
  refine jl_s (S' := ((126, [(4, .int (b3)), (3, .int 3), (2, .int 3), (0, .ref 64), (1, .int (xs 1))], [.int 2], (jzv280 b0 b1 b2 b3)) : jS)) rfl ?_
  refine jl_s (S' := ((129, [(4, .int (b3)), (3, .int 3), (2, .int 3), (0, .ref 64), (1, .int (xs 1))], [.int 3000, .int 2], (jzv280 b0 b1 b2 b3)) : jS)) rfl ?_
  refine jl_s (S' := ((132, [(4, .int (b3)), (3, .int 3), (2, .int 3), (0, .ref 64), (1, .int (xs 1))], [], (jzv280 b0 b1 b2 b3)) : jS)) rfl ?_
  refine jl_s (S' := ((133, [(4, .int (b3)), (3, .int 3), (2, .int 3), (0, .ref 64), (1, .int (xs 1))], [.ref 64], (jzv280 b0 b1 b2 b3)) : jS)) rfl ?_
  refine jl_s (S' := ((136, [(4, .int (b3)), (3, .int 3), (2, .int 3), (0, .ref 64), (1, .int (xs 1))], [.ref 65], (jzv280 b0 b1 b2 b3)) : jS)) rfl ?_
  refine jl_s (S' := ((137, [(4, .int (b3)), (3, .int 3), (2, .int 3), (0, .ref 64), (1, .int (xs 1))], [.ref 64, .ref 65], (jzv280 b0 b1 b2 b3)) : jS)) rfl ?_
  refine jl_s (S' := ((140, [(4, .int (b3)), (3, .int 3), (2, .int 3), (0, .ref 64), (1, .int (xs 1))], [.int 2, .ref 65], (jzv280 b0 b1 b2 b3)) : jS)) rfl ?_
  refine jl_s (S' := ((142, [(4, .int (b3)), (3, .int 3), (2, .int 3), (0, .ref 64), (1, .int (xs 1))], [.int (b3), .int 2, .ref 65], (jzv280 b0 b1 b2 b3)) : jS)) rfl ?_
  refine jl_s (S' := ((143, [(4, .int (b3)), (3, .int 3), (2, .int 3), (0, .ref 64), (1, .int (xs 1))], [.int ((b3).toInt8.toInt32), .int 2, .ref 65], (jzv280 b0 b1 b2 b3)) : jS)) rfl ?_
  refine jl_s (S' := ((144, [(4, .int (b3)), (3, .int 3), (2, .int 3), (0, .ref 64), (1, .int (xs 1))], [], (jzv281 b0 b1 b2 b3)) : jS)) rfl ?_
  refine jl_s (S' := ((145, [(4, .int (b3)), (3, .int 3), (2, .int 3), (0, .ref 64), (1, .int (xs 1))], [.ref 64], (jzv281 b0 b1 b2 b3)) : jS)) rfl ?_
  refine jl_s (S' := ((146, [(4, .int (b3)), (3, .int 3), (2, .int 3), (0, .ref 64), (1, .int (xs 1))], [.ref 64, .ref 64], (jzv281 b0 b1 b2 b3)) : jS)) rfl ?_
  refine jl_s (S' := ((149, [(4, .int (b3)), (3, .int 3), (2, .int 3), (0, .ref 64), (1, .int (xs 1))], [.int 2, .ref 64], (jzv281 b0 b1 b2 b3)) : jS)) rfl ?_
  refine jl_s (S' := ((150, [(4, .int (b3)), (3, .int 3), (2, .int 3), (0, .ref 64), (1, .int (xs 1))], [.int 1, .int 2, .ref 64], (jzv281 b0 b1 b2 b3)) : jS)) rfl ?_
  refine jl_s (S' := ((151, [(4, .int (b3)), (3, .int 3), (2, .int 3), (0, .ref 64), (1, .int (xs 1))], [.int 3, .ref 64], (jzv281 b0 b1 b2 b3)) : jS)) rfl ?_
  refine jl_s (S' := ((154, [(4, .int (b3)), (3, .int 3), (2, .int 3), (0, .ref 64), (1, .int (xs 1))], [], (jzv282 b0 b1 b2 b3)) : jS)) rfl ?_
  refine jl_s (S' := ((157, [(3, .int 4), (4, .int (b3)), (2, .int 3), (0, .ref 64), (1, .int (xs 1))], [], (jzv282 b0 b1 b2 b3)) : jS)) rfl ?_
  refine jl_s (S' := ((100, [(3, .int 4), (4, .int (b3)), (2, .int 3), (0, .ref 64), (1, .int (xs 1))], [], (jzv282 b0 b1 b2 b3)) : jS)) rfl ?_
  exact hq
set_option maxHeartbeats 4000000 in
set_option maxRecDepth 100000 in
theorem jzq416 (xs : Nat → Int32) (b0 b1 b2 b3 : Int32) {f : Nat} : jLoop (jRun ((4, xs) : jX) 2000 37) ((4, xs) : jX) jm20 (f + 6) ((100, [(3, .int 4), (4, .int (b3)), (2, .int 3), (0, .ref 64), (1, .int (xs 1))], [], (jzv282 b0 b1 b2 b3)) : jS) = some (.inl (some (.int 3)), (jzv282 b0 b1 b2 b3)) := by
  refine jl_s (S' := ((101, [(3, .int 4), (4, .int (b3)), (2, .int 3), (0, .ref 64), (1, .int (xs 1))], [.int 4], (jzv282 b0 b1 b2 b3)) : jS)) rfl ?_
  refine jl_s (S' := ((102, [(3, .int 4), (4, .int (b3)), (2, .int 3), (0, .ref 64), (1, .int (xs 1))], [.int 4, .int 4], (jzv282 b0 b1 b2 b3)) : jS)) rfl ?_
  refine jl_s (S' := ((160, [(3, .int 4), (4, .int (b3)), (2, .int 3), (0, .ref 64), (1, .int (xs 1))], [], (jzv282 b0 b1 b2 b3)) : jS)) rfl ?_
  refine jl_s (S' := ((161, [(3, .int 4), (4, .int (b3)), (2, .int 3), (0, .ref 64), (1, .int (xs 1))], [.ref 64], (jzv282 b0 b1 b2 b3)) : jS)) rfl ?_
  refine jl_s (S' := ((164, [(3, .int 4), (4, .int (b3)), (2, .int 3), (0, .ref 64), (1, .int (xs 1))], [.int 3], (jzv282 b0 b1 b2 b3)) : jS)) rfl ?_
  exact jl_r (r := (.inl (some (.int 3)), (jzv282 b0 b1 b2 b3))) rfl
set_option maxHeartbeats 4000000 in
set_option maxRecDepth 100000 in
theorem jzcp_VZVV (xs : Nat → Int32) (b0 b1 b2 b3 : Int32) (e0 : ((Int32.toUInt32 (xs 1) >>> (Int32.toUInt32 0 &&& Int32.toUInt32 31)).toInt32) &&& 255 = b0) (e1 : ((Int32.toUInt32 (xs 1) >>> (Int32.toUInt32 8 &&& Int32.toUInt32 31)).toInt32) &&& 255 = b1) (e2 : ((Int32.toUInt32 (xs 1) >>> (Int32.toUInt32 16 &&& Int32.toUInt32 31)).toInt32) &&& 255 = b2) (e3 : ((Int32.toUInt32 (xs 1) >>> (Int32.toUInt32 24 &&& Int32.toUInt32 31)).toInt32) &&& 255 = b3) (h0 : jbv b0) (h1 : jbz b1) (h2 : jbv b2) (h3 : jbv b3) : jRun ((4, xs) : jX) 2000 38 20 [.ref 64, .int (xs 1)] jzv181 = some (.inl (some (.int 3)), (jzv282 b0 b1 b2 b3)) := by
  refine jr_run (e := jm20) rfl (Nat.le_of_ble_eq_true rfl) ?_
  refine jzq267 xs b0 b1 b2 b3 ?_
  refine jzq378 xs b0 b1 b2 b3 e0 h0 ?_
  refine jzq380 xs b0 b1 b2 b3 e1 h1 ?_
  refine jzq352 xs b0 b1 b2 b3 e2 h2 ?_
  refine jzq363 xs b0 b1 b2 b3 e3 h3 ?_
  refine jzq365 xs b0 b1 b2 b3 ?_
  refine jzq408 xs b0 b1 b2 b3 e0 h0.1 ?_
  refine jzq410 xs b0 b1 b2 b3 e1 h1 ?_
  refine jzq412 xs b0 b1 b2 b3 e2 h2.1 ?_
  refine jzq414 xs b0 b1 b2 b3 e3 h3.1 ?_
  exact jzq416 xs b0 b1 b2 b3
set_option maxHeartbeats 4000000 in
set_option maxRecDepth 100000 in
theorem jzq419 (xs : Nat → Int32) (b0 b1 b2 b3 : Int32) (e : ((Int32.toUInt32 (xs 1) >>> (Int32.toUInt32 8 &&& Int32.toUInt32 31)).toInt32) &&& 255 = b1) (h : jbv b1) {f : Nat} {q : jO × jH} (hq : jLoop (jRun ((4, xs) : jX) 2000 37) ((4, xs) : jX) jm20 f ((4, [(3, .int 2), (2, .int 2), (4, .int (b1)), (0, .ref 64), (1, .int (xs 1))], [], jzv181) : jS) = some q) : jLoop (jRun ((4, xs) : jX) 2000 37) ((4, xs) : jX) jm20 (f + 30) ((4, [(3, .int 1), (2, .int 1), (4, .int (b0)), (0, .ref 64), (1, .int (xs 1))], [], jzv181) : jS) = some q := by
  rcases h.2 with h1 | ⟨h1, h2, h3, h4⟩
  · refine jl_s (S' := ((5, [(3, .int 1), (2, .int 1), (4, .int (b0)), (0, .ref 64), (1, .int (xs 1))], [.int 1], jzv181) : jS)) rfl ?_
    refine jl_s (S' := ((6, [(3, .int 1), (2, .int 1), (4, .int (b0)), (0, .ref 64), (1, .int (xs 1))], [.int 4, .int 1], jzv181) : jS)) rfl ?_
    refine jl_s (S' := ((9, [(3, .int 1), (2, .int 1), (4, .int (b0)), (0, .ref 64), (1, .int (xs 1))], [], jzv181) : jS)) rfl ?_
    refine jl_s (S' := ((10, [(3, .int 1), (2, .int 1), (4, .int (b0)), (0, .ref 64), (1, .int (xs 1))], [.int (xs 1)], jzv181) : jS)) rfl ?_
    refine jl_s (S' := ((12, [(3, .int 1), (2, .int 1), (4, .int (b0)), (0, .ref 64), (1, .int (xs 1))], [.int 8, .int (xs 1)], jzv181) : jS)) rfl ?_
    refine jl_s (S' := ((13, [(3, .int 1), (2, .int 1), (4, .int (b0)), (0, .ref 64), (1, .int (xs 1))], [.int 1, .int 8, .int (xs 1)], jzv181) : jS)) rfl ?_
    refine jl_s (S' := ((14, [(3, .int 1), (2, .int 1), (4, .int (b0)), (0, .ref 64), (1, .int (xs 1))], [.int 8, .int (xs 1)], jzv181) : jS)) rfl ?_
    refine jl_s (S' := ((15, [(3, .int 1), (2, .int 1), (4, .int (b0)), (0, .ref 64), (1, .int (xs 1))], [.int ((Int32.toUInt32 (xs 1) >>> (Int32.toUInt32 8 &&& Int32.toUInt32 31)).toInt32)], jzv181) : jS)) rfl ?_
    refine jl_s (S' := ((18, [(3, .int 1), (2, .int 1), (4, .int (b0)), (0, .ref 64), (1, .int (xs 1))], [.int 255, .int ((Int32.toUInt32 (xs 1) >>> (Int32.toUInt32 8 &&& Int32.toUInt32 31)).toInt32)], jzv181) : jS)) rfl ?_
    refine jl_s (S' := ((19, [(3, .int 1), (2, .int 1), (4, .int (b0)), (0, .ref 64), (1, .int (xs 1))], [.int (((Int32.toUInt32 (xs 1) >>> (Int32.toUInt32 8 &&& Int32.toUInt32 31)).toInt32) &&& 255)], jzv181) : jS)) rfl ?_
    rw [e]
    refine jl_s (S' := ((21, [(4, .int (b1)), (3, .int 1), (2, .int 1), (0, .ref 64), (1, .int (xs 1))], [], jzv181) : jS)) rfl ?_
    refine jl_s (S' := ((23, [(4, .int (b1)), (3, .int 1), (2, .int 1), (0, .ref 64), (1, .int (xs 1))], [.int (b1)], jzv181) : jS)) rfl ?_
    refine jl_iff (e := jm20) (o := 34) rfl (h.1.1) ?_
    refine jl_s (S' := ((28, [(4, .int (b1)), (3, .int 1), (2, .int 1), (0, .ref 64), (1, .int (xs 1))], [.int (b1)], jzv181) : jS)) rfl ?_
    refine jl_s (S' := ((30, [(4, .int (b1)), (3, .int 1), (2, .int 1), (0, .ref 64), (1, .int (xs 1))], [.int 10, .int (b1)], jzv181) : jS)) rfl ?_
    refine jl_ict (e := jm20) (o := 27) rfl (h1) (t := 57) rfl ?_
    refine jl_s (S' := ((58, [(4, .int (b1)), (3, .int 1), (2, .int 1), (0, .ref 64), (1, .int (xs 1))], [.int 1], jzv181) : jS)) rfl ?_
    refine jl_s (S' := ((60, [(4, .int (b1)), (3, .int 1), (2, .int 1), (0, .ref 64), (1, .int (xs 1))], [.int (b1), .int 1], jzv181) : jS)) rfl ?_
    refine jl_ift (e := jm20) (o := 7) rfl (h.1.2) (t := 67) rfl ?_
    refine jl_s (S' := ((68, [(4, .int (b1)), (3, .int 1), (2, .int 1), (0, .ref 64), (1, .int (xs 1))], [.int 1, .int 1], jzv181) : jS)) rfl ?_
    refine jl_s (S' := ((69, [(4, .int (b1)), (3, .int 1), (2, .int 1), (0, .ref 64), (1, .int (xs 1))], [.int 2], jzv181) : jS)) rfl ?_
    refine jl_s (S' := ((70, [(2, .int 2), (4, .int (b1)), (3, .int 1), (0, .ref 64), (1, .int (xs 1))], [], jzv181) : jS)) rfl ?_
    refine jl_s (S' := ((73, [(3, .int 2), (2, .int 2), (4, .int (b1)), (0, .ref 64), (1, .int (xs 1))], [], jzv181) : jS)) rfl ?_
    refine jl_s (S' := ((4, [(3, .int 2), (2, .int 2), (4, .int (b1)), (0, .ref 64), (1, .int (xs 1))], [], jzv181) : jS)) rfl ?_
    exact jl_more hq
  · refine jl_s (S' := ((5, [(3, .int 1), (2, .int 1), (4, .int (b0)), (0, .ref 64), (1, .int (xs 1))], [.int 1], jzv181) : jS)) rfl ?_
    refine jl_s (S' := ((6, [(3, .int 1), (2, .int 1), (4, .int (b0)), (0, .ref 64), (1, .int (xs 1))], [.int 4, .int 1], jzv181) : jS)) rfl ?_
    refine jl_s (S' := ((9, [(3, .int 1), (2, .int 1), (4, .int (b0)), (0, .ref 64), (1, .int (xs 1))], [], jzv181) : jS)) rfl ?_
    refine jl_s (S' := ((10, [(3, .int 1), (2, .int 1), (4, .int (b0)), (0, .ref 64), (1, .int (xs 1))], [.int (xs 1)], jzv181) : jS)) rfl ?_
    refine jl_s (S' := ((12, [(3, .int 1), (2, .int 1), (4, .int (b0)), (0, .ref 64), (1, .int (xs 1))], [.int 8, .int (xs 1)], jzv181) : jS)) rfl ?_
    refine jl_s (S' := ((13, [(3, .int 1), (2, .int 1), (4, .int (b0)), (0, .ref 64), (1, .int (xs 1))], [.int 1, .int 8, .int (xs 1)], jzv181) : jS)) rfl ?_
    refine jl_s (S' := ((14, [(3, .int 1), (2, .int 1), (4, .int (b0)), (0, .ref 64), (1, .int (xs 1))], [.int 8, .int (xs 1)], jzv181) : jS)) rfl ?_
    refine jl_s (S' := ((15, [(3, .int 1), (2, .int 1), (4, .int (b0)), (0, .ref 64), (1, .int (xs 1))], [.int ((Int32.toUInt32 (xs 1) >>> (Int32.toUInt32 8 &&& Int32.toUInt32 31)).toInt32)], jzv181) : jS)) rfl ?_
    refine jl_s (S' := ((18, [(3, .int 1), (2, .int 1), (4, .int (b0)), (0, .ref 64), (1, .int (xs 1))], [.int 255, .int ((Int32.toUInt32 (xs 1) >>> (Int32.toUInt32 8 &&& Int32.toUInt32 31)).toInt32)], jzv181) : jS)) rfl ?_
    refine jl_s (S' := ((19, [(3, .int 1), (2, .int 1), (4, .int (b0)), (0, .ref 64), (1, .int (xs 1))], [.int (((Int32.toUInt32 (xs 1) >>> (Int32.toUInt32 8 &&& Int32.toUInt32 31)).toInt32) &&& 255)], jzv181) : jS)) rfl ?_
    rw [e]
    refine jl_s (S' := ((21, [(4, .int (b1)), (3, .int 1), (2, .int 1), (0, .ref 64), (1, .int (xs 1))], [], jzv181) : jS)) rfl ?_
    refine jl_s (S' := ((23, [(4, .int (b1)), (3, .int 1), (2, .int 1), (0, .ref 64), (1, .int (xs 1))], [.int (b1)], jzv181) : jS)) rfl ?_
    refine jl_iff (e := jm20) (o := 34) rfl (h.1.1) ?_
    refine jl_s (S' := ((28, [(4, .int (b1)), (3, .int 1), (2, .int 1), (0, .ref 64), (1, .int (xs 1))], [.int (b1)], jzv181) : jS)) rfl ?_
    refine jl_s (S' := ((30, [(4, .int (b1)), (3, .int 1), (2, .int 1), (0, .ref 64), (1, .int (xs 1))], [.int 10, .int (b1)], jzv181) : jS)) rfl ?_
    refine jl_icf (e := jm20) (o := 27) rfl (h1) ?_
    refine jl_s (S' := ((35, [(4, .int (b1)), (3, .int 1), (2, .int 1), (0, .ref 64), (1, .int (xs 1))], [.int (b1)], jzv181) : jS)) rfl ?_
    refine jl_s (S' := ((37, [(4, .int (b1)), (3, .int 1), (2, .int 1), (0, .ref 64), (1, .int (xs 1))], [.int 32, .int (b1)], jzv181) : jS)) rfl ?_
    refine jl_icf (e := jm20) (o := 10) rfl (h2) ?_
    refine jl_s (S' := ((42, [(4, .int (b1)), (3, .int 1), (2, .int 1), (0, .ref 64), (1, .int (xs 1))], [.int (b1)], jzv181) : jS)) rfl ?_
    refine jl_s (S' := ((44, [(4, .int (b1)), (3, .int 1), (2, .int 1), (0, .ref 64), (1, .int (xs 1))], [.int 126, .int (b1)], jzv181) : jS)) rfl ?_
    refine jl_ict (e := jm20) (o := 13) rfl (h3) (t := 57) rfl ?_
    refine jl_s (S' := ((58, [(4, .int (b1)), (3, .int 1), (2, .int 1), (0, .ref 64), (1, .int (xs 1))], [.int 1], jzv181) : jS)) rfl ?_
    refine jl_s (S' := ((60, [(4, .int (b1)), (3, .int 1), (2, .int 1), (0, .ref 64), (1, .int (xs 1))], [.int (b1), .int 1], jzv181) : jS)) rfl ?_
    refine jl_ift (e := jm20) (o := 7) rfl (h.1.2) (t := 67) rfl ?_
    refine jl_s (S' := ((68, [(4, .int (b1)), (3, .int 1), (2, .int 1), (0, .ref 64), (1, .int (xs 1))], [.int 1, .int 1], jzv181) : jS)) rfl ?_
    refine jl_s (S' := ((69, [(4, .int (b1)), (3, .int 1), (2, .int 1), (0, .ref 64), (1, .int (xs 1))], [.int 2], jzv181) : jS)) rfl ?_
    refine jl_s (S' := ((70, [(2, .int 2), (4, .int (b1)), (3, .int 1), (0, .ref 64), (1, .int (xs 1))], [], jzv181) : jS)) rfl ?_
    refine jl_s (S' := ((73, [(3, .int 2), (2, .int 2), (4, .int (b1)), (0, .ref 64), (1, .int (xs 1))], [], jzv181) : jS)) rfl ?_
    refine jl_s (S' := ((4, [(3, .int 2), (2, .int 2), (4, .int (b1)), (0, .ref 64), (1, .int (xs 1))], [], jzv181) : jS)) rfl ?_
    exact hq
set_option maxHeartbeats 4000000 in
set_option maxRecDepth 100000 in
theorem jzq421 (xs : Nat → Int32) (b0 b1 b2 b3 : Int32) (e : ((Int32.toUInt32 (xs 1) >>> (Int32.toUInt32 16 &&& Int32.toUInt32 31)).toInt32) &&& 255 = b2) (h : jbz b2) {f : Nat} {q : jO × jH} (hq : jLoop (jRun ((4, xs) : jX) 2000 37) ((4, xs) : jX) jm20 f ((4, [(3, .int 3), (2, .int 2), (4, .int (b2)), (0, .ref 64), (1, .int (xs 1))], [], jzv181) : jS) = some q) : jLoop (jRun ((4, xs) : jX) 2000 37) ((4, xs) : jX) jm20 (f + 22) ((4, [(3, .int 2), (2, .int 2), (4, .int (b1)), (0, .ref 64), (1, .int (xs 1))], [], jzv181) : jS) = some q := by
  refine jl_s (S' := ((5, [(3, .int 2), (2, .int 2), (4, .int (b1)), (0, .ref 64), (1, .int (xs 1))], [.int 2], jzv181) : jS)) rfl ?_
  refine jl_s (S' := ((6, [(3, .int 2), (2, .int 2), (4, .int (b1)), (0, .ref 64), (1, .int (xs 1))], [.int 4, .int 2], jzv181) : jS)) rfl ?_
  refine jl_s (S' := ((9, [(3, .int 2), (2, .int 2), (4, .int (b1)), (0, .ref 64), (1, .int (xs 1))], [], jzv181) : jS)) rfl ?_
  refine jl_s (S' := ((10, [(3, .int 2), (2, .int 2), (4, .int (b1)), (0, .ref 64), (1, .int (xs 1))], [.int (xs 1)], jzv181) : jS)) rfl ?_
  refine jl_s (S' := ((12, [(3, .int 2), (2, .int 2), (4, .int (b1)), (0, .ref 64), (1, .int (xs 1))], [.int 8, .int (xs 1)], jzv181) : jS)) rfl ?_
  refine jl_s (S' := ((13, [(3, .int 2), (2, .int 2), (4, .int (b1)), (0, .ref 64), (1, .int (xs 1))], [.int 2, .int 8, .int (xs 1)], jzv181) : jS)) rfl ?_
  refine jl_s (S' := ((14, [(3, .int 2), (2, .int 2), (4, .int (b1)), (0, .ref 64), (1, .int (xs 1))], [.int 16, .int (xs 1)], jzv181) : jS)) rfl ?_
  refine jl_s (S' := ((15, [(3, .int 2), (2, .int 2), (4, .int (b1)), (0, .ref 64), (1, .int (xs 1))], [.int ((Int32.toUInt32 (xs 1) >>> (Int32.toUInt32 16 &&& Int32.toUInt32 31)).toInt32)], jzv181) : jS)) rfl ?_
  refine jl_s (S' := ((18, [(3, .int 2), (2, .int 2), (4, .int (b1)), (0, .ref 64), (1, .int (xs 1))], [.int 255, .int ((Int32.toUInt32 (xs 1) >>> (Int32.toUInt32 16 &&& Int32.toUInt32 31)).toInt32)], jzv181) : jS)) rfl ?_
  refine jl_s (S' := ((19, [(3, .int 2), (2, .int 2), (4, .int (b1)), (0, .ref 64), (1, .int (xs 1))], [.int (((Int32.toUInt32 (xs 1) >>> (Int32.toUInt32 16 &&& Int32.toUInt32 31)).toInt32) &&& 255)], jzv181) : jS)) rfl ?_
  rw [e]
  refine jl_s (S' := ((21, [(4, .int (b2)), (3, .int 2), (2, .int 2), (0, .ref 64), (1, .int (xs 1))], [], jzv181) : jS)) rfl ?_
  refine jl_s (S' := ((23, [(4, .int (b2)), (3, .int 2), (2, .int 2), (0, .ref 64), (1, .int (xs 1))], [.int (b2)], jzv181) : jS)) rfl ?_
  refine jl_ift (e := jm20) (o := 34) rfl (h.1) (t := 57) rfl ?_
  refine jl_s (S' := ((58, [(4, .int (b2)), (3, .int 2), (2, .int 2), (0, .ref 64), (1, .int (xs 1))], [.int 2], jzv181) : jS)) rfl ?_
  refine jl_s (S' := ((60, [(4, .int (b2)), (3, .int 2), (2, .int 2), (0, .ref 64), (1, .int (xs 1))], [.int (b2), .int 2], jzv181) : jS)) rfl ?_
  refine jl_iff (e := jm20) (o := 7) rfl (h.2) ?_
  refine jl_s (S' := ((64, [(4, .int (b2)), (3, .int 2), (2, .int 2), (0, .ref 64), (1, .int (xs 1))], [.int 0, .int 2], jzv181) : jS)) rfl ?_
  refine jl_s (S' := ((68, [(4, .int (b2)), (3, .int 2), (2, .int 2), (0, .ref 64), (1, .int (xs 1))], [.int 0, .int 2], jzv181) : jS)) rfl ?_
  refine jl_s (S' := ((69, [(4, .int (b2)), (3, .int 2), (2, .int 2), (0, .ref 64), (1, .int (xs 1))], [.int 2], jzv181) : jS)) rfl ?_
  refine jl_s (S' := ((70, [(2, .int 2), (4, .int (b2)), (3, .int 2), (0, .ref 64), (1, .int (xs 1))], [], jzv181) : jS)) rfl ?_
  refine jl_s (S' := ((73, [(3, .int 3), (2, .int 2), (4, .int (b2)), (0, .ref 64), (1, .int (xs 1))], [], jzv181) : jS)) rfl ?_
  refine jl_s (S' := ((4, [(3, .int 3), (2, .int 2), (4, .int (b2)), (0, .ref 64), (1, .int (xs 1))], [], jzv181) : jS)) rfl ?_
  exact hq
def jzc195 (b0 b1 b2 b3 : Int32) : jC := .inl (0, 3000, .inl (upd (upd (fun _ => 0) 0 (vp_nar .byte ((b0).toInt8.toInt32))) 1 (vp_nar .byte ((b1).toInt8.toInt32))))
def jzv283 (b0 b1 b2 b3 : Int32) : jH := [jzc182, (jzc195 b0 b1 b2 b3), jzc117, jzc7, jzc9, jzc9, jzc9, jzc9, jzc9, jzc17, jzc19, jzc19, jzc19, jzc19, jzc19, jzc19, jzc19, jzc19, jzc28, jzc28, jzc28, jzc28, jzc28, jzc28, jzc28, jzc28, jzc28, jzc28, jzc28, jzc28, jzc28, jzc28, jzc43, jzc43, jzc43, jzc43, jzc43, jzc49, jzc49, jzc52, jzc52, jzc52, jzc56, jzc56, jzc59, jzc56, jzc62, jzc28, jzc28, jzc28, jzc28, jzc28, jzc69, jzc71, jzc73, jzc43, jzc76, jzc52, jzc52, jzc80, jzc80, jzc80, jzc84, jzc52, jzc52, jzc52, jzc52, jzc52, jzc52, jzc52, jzc93, jzc93, jzc52, jzc52, jzc98, jzc100, jzc93, jzc52, jzc52, jzc52, jzc52, jzc107, jzc109, jzc111, jzc100, jzc100, jzc100, jzc111, jzc111, jzc118]
def jzv284 (b0 b1 b2 b3 : Int32) : jH := [jzc185, (jzc195 b0 b1 b2 b3), jzc117, jzc7, jzc9, jzc9, jzc9, jzc9, jzc9, jzc17, jzc19, jzc19, jzc19, jzc19, jzc19, jzc19, jzc19, jzc19, jzc28, jzc28, jzc28, jzc28, jzc28, jzc28, jzc28, jzc28, jzc28, jzc28, jzc28, jzc28, jzc28, jzc28, jzc43, jzc43, jzc43, jzc43, jzc43, jzc49, jzc49, jzc52, jzc52, jzc52, jzc56, jzc56, jzc59, jzc56, jzc62, jzc28, jzc28, jzc28, jzc28, jzc28, jzc69, jzc71, jzc73, jzc43, jzc76, jzc52, jzc52, jzc80, jzc80, jzc80, jzc84, jzc52, jzc52, jzc52, jzc52, jzc52, jzc52, jzc52, jzc93, jzc93, jzc52, jzc52, jzc98, jzc100, jzc93, jzc52, jzc52, jzc52, jzc52, jzc107, jzc109, jzc111, jzc100, jzc100, jzc100, jzc111, jzc111, jzc118]
set_option maxHeartbeats 4000000 in
set_option maxRecDepth 100000 in
theorem jzq423 (xs : Nat → Int32) (b0 b1 b2 b3 : Int32) (e : ((Int32.toUInt32 (xs 1) >>> (Int32.toUInt32 8 &&& Int32.toUInt32 31)).toInt32) &&& 255 = b1) (h : jbn b1) {f : Nat} {q : jO × jH} (hq : jLoop (jRun ((4, xs) : jX) 2000 37) ((4, xs) : jX) jm20 f ((100, [(3, .int 2), (4, .int (b1)), (2, .int 2), (0, .ref 64), (1, .int (xs 1))], [], (jzv284 b0 b1 b2 b3)) : jS) = some q) : jLoop (jRun ((4, xs) : jX) 2000 37) ((4, xs) : jX) jm20 (f + 32) ((100, [(3, .int 1), (4, .int (b0)), (2, .int 2), (0, .ref 64), (1, .int (xs 1))], [], (jzv276 b0 b1 b2 b3)) : jS) = some q := by
  refine jl_s (S' := ((101, [(3, .int 1), (4, .int (b0)), (2, .int 2), (0, .ref 64), (1, .int (xs 1))], [.int 1], (jzv276 b0 b1 b2 b3)) : jS)) rfl ?_
  refine jl_s (S' := ((102, [(3, .int 1), (4, .int (b0)), (2, .int 2), (0, .ref 64), (1, .int (xs 1))], [.int 4, .int 1], (jzv276 b0 b1 b2 b3)) : jS)) rfl ?_
  refine jl_s (S' := ((105, [(3, .int 1), (4, .int (b0)), (2, .int 2), (0, .ref 64), (1, .int (xs 1))], [], (jzv276 b0 b1 b2 b3)) : jS)) rfl ?_
  refine jl_s (S' := ((106, [(3, .int 1), (4, .int (b0)), (2, .int 2), (0, .ref 64), (1, .int (xs 1))], [.int (xs 1)], (jzv276 b0 b1 b2 b3)) : jS)) rfl ?_
  refine jl_s (S' := ((108, [(3, .int 1), (4, .int (b0)), (2, .int 2), (0, .ref 64), (1, .int (xs 1))], [.int 8, .int (xs 1)], (jzv276 b0 b1 b2 b3)) : jS)) rfl ?_
  refine jl_s (S' := ((109, [(3, .int 1), (4, .int (b0)), (2, .int 2), (0, .ref 64), (1, .int (xs 1))], [.int 1, .int 8, .int (xs 1)], (jzv276 b0 b1 b2 b3)) : jS)) rfl ?_
  refine jl_s (S' := ((110, [(3, .int 1), (4, .int (b0)), (2, .int 2), (0, .ref 64), (1, .int (xs 1))], [.int 8, .int (xs 1)], (jzv276 b0 b1 b2 b3)) : jS)) rfl ?_
  refine jl_s (S' := ((111, [(3, .int 1), (4, .int (b0)), (2, .int 2), (0, .ref 64), (1, .int (xs 1))], [.int ((Int32.toUInt32 (xs 1) >>> (Int32.toUInt32 8 &&& Int32.toUInt32 31)).toInt32)], (jzv276 b0 b1 b2 b3)) : jS)) rfl ?_
  refine jl_s (S' := ((114, [(3, .int 1), (4, .int (b0)), (2, .int 2), (0, .ref 64), (1, .int (xs 1))], [.int 255, .int ((Int32.toUInt32 (xs 1) >>> (Int32.toUInt32 8 &&& Int32.toUInt32 31)).toInt32)], (jzv276 b0 b1 b2 b3)) : jS)) rfl ?_
  refine jl_s (S' := ((115, [(3, .int 1), (4, .int (b0)), (2, .int 2), (0, .ref 64), (1, .int (xs 1))], [.int (((Int32.toUInt32 (xs 1) >>> (Int32.toUInt32 8 &&& Int32.toUInt32 31)).toInt32) &&& 255)], (jzv276 b0 b1 b2 b3)) : jS)) rfl ?_
  rw [e]
  refine jl_s (S' := ((117, [(4, .int (b1)), (3, .int 1), (2, .int 2), (0, .ref 64), (1, .int (xs 1))], [], (jzv276 b0 b1 b2 b3)) : jS)) rfl ?_
  refine jl_s (S' := ((119, [(4, .int (b1)), (3, .int 1), (2, .int 2), (0, .ref 64), (1, .int (xs 1))], [.int (b1)], (jzv276 b0 b1 b2 b3)) : jS)) rfl ?_
  refine jl_iff (e := jm20) (o := 35) rfl (h.1) ?_
  refine jl_s (S' := ((123, [(4, .int (b1)), (3, .int 1), (2, .int 2), (0, .ref 64), (1, .int (xs 1))], [.ref 64], (jzv276 b0 b1 b2 b3)) : jS)) rfl ?_
  refine jl_s (S' := ((126, [(4, .int (b1)), (3, .int 1), (2, .int 2), (0, .ref 64), (1, .int (xs 1))], [.int 1], (jzv276 b0 b1 b2 b3)) : jS)) rfl ?_
  refine jl_s (S' := ((129, [(4, .int (b1)), (3, .int 1), (2, .int 2), (0, .ref 64), (1, .int (xs 1))], [.int 3000, .int 1], (jzv276 b0 b1 b2 b3)) : jS)) rfl ?_
  refine jl_s (S' := ((132, [(4, .int (b1)), (3, .int 1), (2, .int 2), (0, .ref 64), (1, .int (xs 1))], [], (jzv276 b0 b1 b2 b3)) : jS)) rfl ?_
  refine jl_s (S' := ((133, [(4, .int (b1)), (3, .int 1), (2, .int 2), (0, .ref 64), (1, .int (xs 1))], [.ref 64], (jzv276 b0 b1 b2 b3)) : jS)) rfl ?_
  refine jl_s (S' := ((136, [(4, .int (b1)), (3, .int 1), (2, .int 2), (0, .ref 64), (1, .int (xs 1))], [.ref 65], (jzv276 b0 b1 b2 b3)) : jS)) rfl ?_
  refine jl_s (S' := ((137, [(4, .int (b1)), (3, .int 1), (2, .int 2), (0, .ref 64), (1, .int (xs 1))], [.ref 64, .ref 65], (jzv276 b0 b1 b2 b3)) : jS)) rfl ?_
  refine jl_s (S' := ((140, [(4, .int (b1)), (3, .int 1), (2, .int 2), (0, .ref 64), (1, .int (xs 1))], [.int 1, .ref 65], (jzv276 b0 b1 b2 b3)) : jS)) rfl ?_
  refine jl_s (S' := ((142, [(4, .int (b1)), (3, .int 1), (2, .int 2), (0, .ref 64), (1, .int (xs 1))], [.int (b1), .int 1, .ref 65], (jzv276 b0 b1 b2 b3)) : jS)) rfl ?_
  refine jl_s (S' := ((143, [(4, .int (b1)), (3, .int 1), (2, .int 2), (0, .ref 64), (1, .int (xs 1))], [.int ((b1).toInt8.toInt32), .int 1, .ref 65], (jzv276 b0 b1 b2 b3)) : jS)) rfl ?_
  refine jl_s (S' := ((144, [(4, .int (b1)), (3, .int 1), (2, .int 2), (0, .ref 64), (1, .int (xs 1))], [], (jzv283 b0 b1 b2 b3)) : jS)) rfl ?_
  refine jl_s (S' := ((145, [(4, .int (b1)), (3, .int 1), (2, .int 2), (0, .ref 64), (1, .int (xs 1))], [.ref 64], (jzv283 b0 b1 b2 b3)) : jS)) rfl ?_
  refine jl_s (S' := ((146, [(4, .int (b1)), (3, .int 1), (2, .int 2), (0, .ref 64), (1, .int (xs 1))], [.ref 64, .ref 64], (jzv283 b0 b1 b2 b3)) : jS)) rfl ?_
  refine jl_s (S' := ((149, [(4, .int (b1)), (3, .int 1), (2, .int 2), (0, .ref 64), (1, .int (xs 1))], [.int 1, .ref 64], (jzv283 b0 b1 b2 b3)) : jS)) rfl ?_
  refine jl_s (S' := ((150, [(4, .int (b1)), (3, .int 1), (2, .int 2), (0, .ref 64), (1, .int (xs 1))], [.int 1, .int 1, .ref 64], (jzv283 b0 b1 b2 b3)) : jS)) rfl ?_
  refine jl_s (S' := ((151, [(4, .int (b1)), (3, .int 1), (2, .int 2), (0, .ref 64), (1, .int (xs 1))], [.int 2, .ref 64], (jzv283 b0 b1 b2 b3)) : jS)) rfl ?_
  refine jl_s (S' := ((154, [(4, .int (b1)), (3, .int 1), (2, .int 2), (0, .ref 64), (1, .int (xs 1))], [], (jzv284 b0 b1 b2 b3)) : jS)) rfl ?_
  refine jl_s (S' := ((157, [(3, .int 2), (4, .int (b1)), (2, .int 2), (0, .ref 64), (1, .int (xs 1))], [], (jzv284 b0 b1 b2 b3)) : jS)) rfl ?_
  refine jl_s (S' := ((100, [(3, .int 2), (4, .int (b1)), (2, .int 2), (0, .ref 64), (1, .int (xs 1))], [], (jzv284 b0 b1 b2 b3)) : jS)) rfl ?_
  exact hq
set_option maxHeartbeats 4000000 in
set_option maxRecDepth 100000 in
theorem jzq425 (xs : Nat → Int32) (b0 b1 b2 b3 : Int32) (e : ((Int32.toUInt32 (xs 1) >>> (Int32.toUInt32 16 &&& Int32.toUInt32 31)).toInt32) &&& 255 = b2) (h : jbz b2) {f : Nat} {q : jO × jH} (hq : jLoop (jRun ((4, xs) : jX) 2000 37) ((4, xs) : jX) jm20 f ((100, [(3, .int 3), (4, .int (b2)), (2, .int 2), (0, .ref 64), (1, .int (xs 1))], [], (jzv284 b0 b1 b2 b3)) : jS) = some q) : jLoop (jRun ((4, xs) : jX) 2000 37) ((4, xs) : jX) jm20 (f + 15) ((100, [(3, .int 2), (4, .int (b1)), (2, .int 2), (0, .ref 64), (1, .int (xs 1))], [], (jzv284 b0 b1 b2 b3)) : jS) = some q := by
  refine jl_s (S' := ((101, [(3, .int 2), (4, .int (b1)), (2, .int 2), (0, .ref 64), (1, .int (xs 1))], [.int 2], (jzv284 b0 b1 b2 b3)) : jS)) rfl ?_
  refine jl_s (S' := ((102, [(3, .int 2), (4, .int (b1)), (2, .int 2), (0, .ref 64), (1, .int (xs 1))], [.int 4, .int 2], (jzv284 b0 b1 b2 b3)) : jS)) rfl ?_
  refine jl_s (S' := ((105, [(3, .int 2), (4, .int (b1)), (2, .int 2), (0, .ref 64), (1, .int (xs 1))], [], (jzv284 b0 b1 b2 b3)) : jS)) rfl ?_
  refine jl_s (S' := ((106, [(3, .int 2), (4, .int (b1)), (2, .int 2), (0, .ref 64), (1, .int (xs 1))], [.int (xs 1)], (jzv284 b0 b1 b2 b3)) : jS)) rfl ?_
  refine jl_s (S' := ((108, [(3, .int 2), (4, .int (b1)), (2, .int 2), (0, .ref 64), (1, .int (xs 1))], [.int 8, .int (xs 1)], (jzv284 b0 b1 b2 b3)) : jS)) rfl ?_
  refine jl_s (S' := ((109, [(3, .int 2), (4, .int (b1)), (2, .int 2), (0, .ref 64), (1, .int (xs 1))], [.int 2, .int 8, .int (xs 1)], (jzv284 b0 b1 b2 b3)) : jS)) rfl ?_
  refine jl_s (S' := ((110, [(3, .int 2), (4, .int (b1)), (2, .int 2), (0, .ref 64), (1, .int (xs 1))], [.int 16, .int (xs 1)], (jzv284 b0 b1 b2 b3)) : jS)) rfl ?_
  refine jl_s (S' := ((111, [(3, .int 2), (4, .int (b1)), (2, .int 2), (0, .ref 64), (1, .int (xs 1))], [.int ((Int32.toUInt32 (xs 1) >>> (Int32.toUInt32 16 &&& Int32.toUInt32 31)).toInt32)], (jzv284 b0 b1 b2 b3)) : jS)) rfl ?_
  refine jl_s (S' := ((114, [(3, .int 2), (4, .int (b1)), (2, .int 2), (0, .ref 64), (1, .int (xs 1))], [.int 255, .int ((Int32.toUInt32 (xs 1) >>> (Int32.toUInt32 16 &&& Int32.toUInt32 31)).toInt32)], (jzv284 b0 b1 b2 b3)) : jS)) rfl ?_
  refine jl_s (S' := ((115, [(3, .int 2), (4, .int (b1)), (2, .int 2), (0, .ref 64), (1, .int (xs 1))], [.int (((Int32.toUInt32 (xs 1) >>> (Int32.toUInt32 16 &&& Int32.toUInt32 31)).toInt32) &&& 255)], (jzv284 b0 b1 b2 b3)) : jS)) rfl ?_
  rw [e]
  refine jl_s (S' := ((117, [(4, .int (b2)), (3, .int 2), (2, .int 2), (0, .ref 64), (1, .int (xs 1))], [], (jzv284 b0 b1 b2 b3)) : jS)) rfl ?_
  refine jl_s (S' := ((119, [(4, .int (b2)), (3, .int 2), (2, .int 2), (0, .ref 64), (1, .int (xs 1))], [.int (b2)], (jzv284 b0 b1 b2 b3)) : jS)) rfl ?_
  refine jl_ift (e := jm20) (o := 35) rfl (h.1) (t := 154) rfl ?_
  refine jl_s (S' := ((157, [(3, .int 3), (4, .int (b2)), (2, .int 2), (0, .ref 64), (1, .int (xs 1))], [], (jzv284 b0 b1 b2 b3)) : jS)) rfl ?_
  refine jl_s (S' := ((100, [(3, .int 3), (4, .int (b2)), (2, .int 2), (0, .ref 64), (1, .int (xs 1))], [], (jzv284 b0 b1 b2 b3)) : jS)) rfl ?_
  exact hq
set_option maxHeartbeats 4000000 in
set_option maxRecDepth 100000 in
theorem jzq427 (xs : Nat → Int32) (b0 b1 b2 b3 : Int32) (e : ((Int32.toUInt32 (xs 1) >>> (Int32.toUInt32 24 &&& Int32.toUInt32 31)).toInt32) &&& 255 = b3) (h : jbz b3) {f : Nat} {q : jO × jH} (hq : jLoop (jRun ((4, xs) : jX) 2000 37) ((4, xs) : jX) jm20 f ((100, [(3, .int 4), (4, .int (b3)), (2, .int 2), (0, .ref 64), (1, .int (xs 1))], [], (jzv284 b0 b1 b2 b3)) : jS) = some q) : jLoop (jRun ((4, xs) : jX) 2000 37) ((4, xs) : jX) jm20 (f + 15) ((100, [(3, .int 3), (4, .int (b2)), (2, .int 2), (0, .ref 64), (1, .int (xs 1))], [], (jzv284 b0 b1 b2 b3)) : jS) = some q := by
  refine jl_s (S' := ((101, [(3, .int 3), (4, .int (b2)), (2, .int 2), (0, .ref 64), (1, .int (xs 1))], [.int 3], (jzv284 b0 b1 b2 b3)) : jS)) rfl ?_
  refine jl_s (S' := ((102, [(3, .int 3), (4, .int (b2)), (2, .int 2), (0, .ref 64), (1, .int (xs 1))], [.int 4, .int 3], (jzv284 b0 b1 b2 b3)) : jS)) rfl ?_
  refine jl_s (S' := ((105, [(3, .int 3), (4, .int (b2)), (2, .int 2), (0, .ref 64), (1, .int (xs 1))], [], (jzv284 b0 b1 b2 b3)) : jS)) rfl ?_
  refine jl_s (S' := ((106, [(3, .int 3), (4, .int (b2)), (2, .int 2), (0, .ref 64), (1, .int (xs 1))], [.int (xs 1)], (jzv284 b0 b1 b2 b3)) : jS)) rfl ?_
  refine jl_s (S' := ((108, [(3, .int 3), (4, .int (b2)), (2, .int 2), (0, .ref 64), (1, .int (xs 1))], [.int 8, .int (xs 1)], (jzv284 b0 b1 b2 b3)) : jS)) rfl ?_
  refine jl_s (S' := ((109, [(3, .int 3), (4, .int (b2)), (2, .int 2), (0, .ref 64), (1, .int (xs 1))], [.int 3, .int 8, .int (xs 1)], (jzv284 b0 b1 b2 b3)) : jS)) rfl ?_
  refine jl_s (S' := ((110, [(3, .int 3), (4, .int (b2)), (2, .int 2), (0, .ref 64), (1, .int (xs 1))], [.int 24, .int (xs 1)], (jzv284 b0 b1 b2 b3)) : jS)) rfl ?_
  refine jl_s (S' := ((111, [(3, .int 3), (4, .int (b2)), (2, .int 2), (0, .ref 64), (1, .int (xs 1))], [.int ((Int32.toUInt32 (xs 1) >>> (Int32.toUInt32 24 &&& Int32.toUInt32 31)).toInt32)], (jzv284 b0 b1 b2 b3)) : jS)) rfl ?_
  refine jl_s (S' := ((114, [(3, .int 3), (4, .int (b2)), (2, .int 2), (0, .ref 64), (1, .int (xs 1))], [.int 255, .int ((Int32.toUInt32 (xs 1) >>> (Int32.toUInt32 24 &&& Int32.toUInt32 31)).toInt32)], (jzv284 b0 b1 b2 b3)) : jS)) rfl ?_
  refine jl_s (S' := ((115, [(3, .int 3), (4, .int (b2)), (2, .int 2), (0, .ref 64), (1, .int (xs 1))], [.int (((Int32.toUInt32 (xs 1) >>> (Int32.toUInt32 24 &&& Int32.toUInt32 31)).toInt32) &&& 255)], (jzv284 b0 b1 b2 b3)) : jS)) rfl ?_
  rw [e]
  refine jl_s (S' := ((117, [(4, .int (b3)), (3, .int 3), (2, .int 2), (0, .ref 64), (1, .int (xs 1))], [], (jzv284 b0 b1 b2 b3)) : jS)) rfl ?_
  refine jl_s (S' := ((119, [(4, .int (b3)), (3, .int 3), (2, .int 2), (0, .ref 64), (1, .int (xs 1))], [.int (b3)], (jzv284 b0 b1 b2 b3)) : jS)) rfl ?_
  refine jl_ift (e := jm20) (o := 35) rfl (h.1) (t := 154) rfl ?_
  refine jl_s (S' := ((157, [(3, .int 4), (4, .int (b3)), (2, .int 2), (0, .ref 64), (1, .int (xs 1))], [], (jzv284 b0 b1 b2 b3)) : jS)) rfl ?_
  refine jl_s (S' := ((100, [(3, .int 4), (4, .int (b3)), (2, .int 2), (0, .ref 64), (1, .int (xs 1))], [], (jzv284 b0 b1 b2 b3)) : jS)) rfl ?_
  exact hq
set_option maxHeartbeats 4000000 in
set_option maxRecDepth 100000 in
theorem jzq429 (xs : Nat → Int32) (b0 b1 b2 b3 : Int32) {f : Nat} : jLoop (jRun ((4, xs) : jX) 2000 37) ((4, xs) : jX) jm20 (f + 6) ((100, [(3, .int 4), (4, .int (b3)), (2, .int 2), (0, .ref 64), (1, .int (xs 1))], [], (jzv284 b0 b1 b2 b3)) : jS) = some (.inl (some (.int 2)), (jzv284 b0 b1 b2 b3)) := by
  refine jl_s (S' := ((101, [(3, .int 4), (4, .int (b3)), (2, .int 2), (0, .ref 64), (1, .int (xs 1))], [.int 4], (jzv284 b0 b1 b2 b3)) : jS)) rfl ?_
  refine jl_s (S' := ((102, [(3, .int 4), (4, .int (b3)), (2, .int 2), (0, .ref 64), (1, .int (xs 1))], [.int 4, .int 4], (jzv284 b0 b1 b2 b3)) : jS)) rfl ?_
  refine jl_s (S' := ((160, [(3, .int 4), (4, .int (b3)), (2, .int 2), (0, .ref 64), (1, .int (xs 1))], [], (jzv284 b0 b1 b2 b3)) : jS)) rfl ?_
  refine jl_s (S' := ((161, [(3, .int 4), (4, .int (b3)), (2, .int 2), (0, .ref 64), (1, .int (xs 1))], [.ref 64], (jzv284 b0 b1 b2 b3)) : jS)) rfl ?_
  refine jl_s (S' := ((164, [(3, .int 4), (4, .int (b3)), (2, .int 2), (0, .ref 64), (1, .int (xs 1))], [.int 2], (jzv284 b0 b1 b2 b3)) : jS)) rfl ?_
  exact jl_r (r := (.inl (some (.int 2)), (jzv284 b0 b1 b2 b3))) rfl
set_option maxHeartbeats 4000000 in
set_option maxRecDepth 100000 in
theorem jzcp_VVZZ (xs : Nat → Int32) (b0 b1 b2 b3 : Int32) (e0 : ((Int32.toUInt32 (xs 1) >>> (Int32.toUInt32 0 &&& Int32.toUInt32 31)).toInt32) &&& 255 = b0) (e1 : ((Int32.toUInt32 (xs 1) >>> (Int32.toUInt32 8 &&& Int32.toUInt32 31)).toInt32) &&& 255 = b1) (e2 : ((Int32.toUInt32 (xs 1) >>> (Int32.toUInt32 16 &&& Int32.toUInt32 31)).toInt32) &&& 255 = b2) (e3 : ((Int32.toUInt32 (xs 1) >>> (Int32.toUInt32 24 &&& Int32.toUInt32 31)).toInt32) &&& 255 = b3) (h0 : jbv b0) (h1 : jbv b1) (h2 : jbz b2) (h3 : jbz b3) : jRun ((4, xs) : jX) 2000 38 20 [.ref 64, .int (xs 1)] jzv181 = some (.inl (some (.int 2)), (jzv284 b0 b1 b2 b3)) := by
  refine jr_run (e := jm20) rfl (Nat.le_of_ble_eq_true rfl) ?_
  refine jzq267 xs b0 b1 b2 b3 ?_
  refine jzq378 xs b0 b1 b2 b3 e0 h0 ?_
  refine jzq419 xs b0 b1 b2 b3 e1 h1 ?_
  refine jzq421 xs b0 b1 b2 b3 e2 h2 ?_
  refine jzq354 xs b0 b1 b2 b3 e3 h3 ?_
  refine jzq318 xs b0 b1 b2 b3 ?_
  refine jzq392 xs b0 b1 b2 b3 e0 h0.1 ?_
  refine jzq423 xs b0 b1 b2 b3 e1 h1.1 ?_
  refine jzq425 xs b0 b1 b2 b3 e2 h2 ?_
  refine jzq427 xs b0 b1 b2 b3 e3 h3 ?_
  exact jzq429 xs b0 b1 b2 b3
set_option maxHeartbeats 4000000 in
set_option maxRecDepth 100000 in
theorem jzq431 (xs : Nat → Int32) (b0 b1 b2 b3 : Int32) (e : ((Int32.toUInt32 (xs 1) >>> (Int32.toUInt32 8 &&& Int32.toUInt32 31)).toInt32) &&& 255 = b1) (h : jbn b1) {f : Nat} {q : jO × jH} (hq : jLoop (jRun ((4, xs) : jX) 2000 37) ((4, xs) : jX) jm20 f ((100, [(3, .int 2), (4, .int (b1)), (2, .int 3), (0, .ref 64), (1, .int (xs 1))], [], (jzv284 b0 b1 b2 b3)) : jS) = some q) : jLoop (jRun ((4, xs) : jX) 2000 37) ((4, xs) : jX) jm20 (f + 32) ((100, [(3, .int 1), (4, .int (b0)), (2, .int 3), (0, .ref 64), (1, .int (xs 1))], [], (jzv276 b0 b1 b2 b3)) : jS) = some q := by
  refine jl_s (S' := ((101, [(3, .int 1), (4, .int (b0)), (2, .int 3), (0, .ref 64), (1, .int (xs 1))], [.int 1], (jzv276 b0 b1 b2 b3)) : jS)) rfl ?_
  refine jl_s (S' := ((102, [(3, .int 1), (4, .int (b0)), (2, .int 3), (0, .ref 64), (1, .int (xs 1))], [.int 4, .int 1], (jzv276 b0 b1 b2 b3)) : jS)) rfl ?_
  refine jl_s (S' := ((105, [(3, .int 1), (4, .int (b0)), (2, .int 3), (0, .ref 64), (1, .int (xs 1))], [], (jzv276 b0 b1 b2 b3)) : jS)) rfl ?_
  refine jl_s (S' := ((106, [(3, .int 1), (4, .int (b0)), (2, .int 3), (0, .ref 64), (1, .int (xs 1))], [.int (xs 1)], (jzv276 b0 b1 b2 b3)) : jS)) rfl ?_
  refine jl_s (S' := ((108, [(3, .int 1), (4, .int (b0)), (2, .int 3), (0, .ref 64), (1, .int (xs 1))], [.int 8, .int (xs 1)], (jzv276 b0 b1 b2 b3)) : jS)) rfl ?_
  refine jl_s (S' := ((109, [(3, .int 1), (4, .int (b0)), (2, .int 3), (0, .ref 64), (1, .int (xs 1))], [.int 1, .int 8, .int (xs 1)], (jzv276 b0 b1 b2 b3)) : jS)) rfl ?_
  refine jl_s (S' := ((110, [(3, .int 1), (4, .int (b0)), (2, .int 3), (0, .ref 64), (1, .int (xs 1))], [.int 8, .int (xs 1)], (jzv276 b0 b1 b2 b3)) : jS)) rfl ?_
  refine jl_s (S' := ((111, [(3, .int 1), (4, .int (b0)), (2, .int 3), (0, .ref 64), (1, .int (xs 1))], [.int ((Int32.toUInt32 (xs 1) >>> (Int32.toUInt32 8 &&& Int32.toUInt32 31)).toInt32)], (jzv276 b0 b1 b2 b3)) : jS)) rfl ?_
  refine jl_s (S' := ((114, [(3, .int 1), (4, .int (b0)), (2, .int 3), (0, .ref 64), (1, .int (xs 1))], [.int 255, .int ((Int32.toUInt32 (xs 1) >>> (Int32.toUInt32 8 &&& Int32.toUInt32 31)).toInt32)], (jzv276 b0 b1 b2 b3)) : jS)) rfl ?_
  refine jl_s (S' := ((115, [(3, .int 1), (4, .int (b0)), (2, .int 3), (0, .ref 64), (1, .int (xs 1))], [.int (((Int32.toUInt32 (xs 1) >>> (Int32.toUInt32 8 &&& Int32.toUInt32 31)).toInt32) &&& 255)], (jzv276 b0 b1 b2 b3)) : jS)) rfl ?_
  rw [e]
  refine jl_s (S' := ((117, [(4, .int (b1)), (3, .int 1), (2, .int 3), (0, .ref 64), (1, .int (xs 1))], [], (jzv276 b0 b1 b2 b3)) : jS)) rfl ?_
  refine jl_s (S' := ((119, [(4, .int (b1)), (3, .int 1), (2, .int 3), (0, .ref 64), (1, .int (xs 1))], [.int (b1)], (jzv276 b0 b1 b2 b3)) : jS)) rfl ?_
  refine jl_iff (e := jm20) (o := 35) rfl (h.1) ?_
  refine jl_s (S' := ((123, [(4, .int (b1)), (3, .int 1), (2, .int 3), (0, .ref 64), (1, .int (xs 1))], [.ref 64], (jzv276 b0 b1 b2 b3)) : jS)) rfl ?_
  refine jl_s (S' := ((126, [(4, .int (b1)), (3, .int 1), (2, .int 3), (0, .ref 64), (1, .int (xs 1))], [.int 1], (jzv276 b0 b1 b2 b3)) : jS)) rfl ?_
  refine jl_s (S' := ((129, [(4, .int (b1)), (3, .int 1), (2, .int 3), (0, .ref 64), (1, .int (xs 1))], [.int 3000, .int 1], (jzv276 b0 b1 b2 b3)) : jS)) rfl ?_
  refine jl_s (S' := ((132, [(4, .int (b1)), (3, .int 1), (2, .int 3), (0, .ref 64), (1, .int (xs 1))], [], (jzv276 b0 b1 b2 b3)) : jS)) rfl ?_
  refine jl_s (S' := ((133, [(4, .int (b1)), (3, .int 1), (2, .int 3), (0, .ref 64), (1, .int (xs 1))], [.ref 64], (jzv276 b0 b1 b2 b3)) : jS)) rfl ?_
  refine jl_s (S' := ((136, [(4, .int (b1)), (3, .int 1), (2, .int 3), (0, .ref 64), (1, .int (xs 1))], [.ref 65], (jzv276 b0 b1 b2 b3)) : jS)) rfl ?_
  refine jl_s (S' := ((137, [(4, .int (b1)), (3, .int 1), (2, .int 3), (0, .ref 64), (1, .int (xs 1))], [.ref 64, .ref 65], (jzv276 b0 b1 b2 b3)) : jS)) rfl ?_
  refine jl_s (S' := ((140, [(4, .int (b1)), (3, .int 1), (2, .int 3), (0, .ref 64), (1, .int (xs 1))], [.int 1, .ref 65], (jzv276 b0 b1 b2 b3)) : jS)) rfl ?_
  refine jl_s (S' := ((142, [(4, .int (b1)), (3, .int 1), (2, .int 3), (0, .ref 64), (1, .int (xs 1))], [.int (b1), .int 1, .ref 65], (jzv276 b0 b1 b2 b3)) : jS)) rfl ?_
  refine jl_s (S' := ((143, [(4, .int (b1)), (3, .int 1), (2, .int 3), (0, .ref 64), (1, .int (xs 1))], [.int ((b1).toInt8.toInt32), .int 1, .ref 65], (jzv276 b0 b1 b2 b3)) : jS)) rfl ?_
  refine jl_s (S' := ((144, [(4, .int (b1)), (3, .int 1), (2, .int 3), (0, .ref 64), (1, .int (xs 1))], [], (jzv283 b0 b1 b2 b3)) : jS)) rfl ?_
  refine jl_s (S' := ((145, [(4, .int (b1)), (3, .int 1), (2, .int 3), (0, .ref 64), (1, .int (xs 1))], [.ref 64], (jzv283 b0 b1 b2 b3)) : jS)) rfl ?_
  refine jl_s (S' := ((146, [(4, .int (b1)), (3, .int 1), (2, .int 3), (0, .ref 64), (1, .int (xs 1))], [.ref 64, .ref 64], (jzv283 b0 b1 b2 b3)) : jS)) rfl ?_
  refine jl_s (S' := ((149, [(4, .int (b1)), (3, .int 1), (2, .int 3), (0, .ref 64), (1, .int (xs 1))], [.int 1, .ref 64], (jzv283 b0 b1 b2 b3)) : jS)) rfl ?_
  refine jl_s (S' := ((150, [(4, .int (b1)), (3, .int 1), (2, .int 3), (0, .ref 64), (1, .int (xs 1))], [.int 1, .int 1, .ref 64], (jzv283 b0 b1 b2 b3)) : jS)) rfl ?_
  refine jl_s (S' := ((151, [(4, .int (b1)), (3, .int 1), (2, .int 3), (0, .ref 64), (1, .int (xs 1))], [.int 2, .ref 64], (jzv283 b0 b1 b2 b3)) : jS)) rfl ?_
  refine jl_s (S' := ((154, [(4, .int (b1)), (3, .int 1), (2, .int 3), (0, .ref 64), (1, .int (xs 1))], [], (jzv284 b0 b1 b2 b3)) : jS)) rfl ?_
  refine jl_s (S' := ((157, [(3, .int 2), (4, .int (b1)), (2, .int 3), (0, .ref 64), (1, .int (xs 1))], [], (jzv284 b0 b1 b2 b3)) : jS)) rfl ?_
  refine jl_s (S' := ((100, [(3, .int 2), (4, .int (b1)), (2, .int 3), (0, .ref 64), (1, .int (xs 1))], [], (jzv284 b0 b1 b2 b3)) : jS)) rfl ?_
  exact hq
set_option maxHeartbeats 4000000 in
set_option maxRecDepth 100000 in
theorem jzq433 (xs : Nat → Int32) (b0 b1 b2 b3 : Int32) (e : ((Int32.toUInt32 (xs 1) >>> (Int32.toUInt32 16 &&& Int32.toUInt32 31)).toInt32) &&& 255 = b2) (h : jbz b2) {f : Nat} {q : jO × jH} (hq : jLoop (jRun ((4, xs) : jX) 2000 37) ((4, xs) : jX) jm20 f ((100, [(3, .int 3), (4, .int (b2)), (2, .int 3), (0, .ref 64), (1, .int (xs 1))], [], (jzv284 b0 b1 b2 b3)) : jS) = some q) : jLoop (jRun ((4, xs) : jX) 2000 37) ((4, xs) : jX) jm20 (f + 15) ((100, [(3, .int 2), (4, .int (b1)), (2, .int 3), (0, .ref 64), (1, .int (xs 1))], [], (jzv284 b0 b1 b2 b3)) : jS) = some q := by
  refine jl_s (S' := ((101, [(3, .int 2), (4, .int (b1)), (2, .int 3), (0, .ref 64), (1, .int (xs 1))], [.int 2], (jzv284 b0 b1 b2 b3)) : jS)) rfl ?_
  refine jl_s (S' := ((102, [(3, .int 2), (4, .int (b1)), (2, .int 3), (0, .ref 64), (1, .int (xs 1))], [.int 4, .int 2], (jzv284 b0 b1 b2 b3)) : jS)) rfl ?_
  refine jl_s (S' := ((105, [(3, .int 2), (4, .int (b1)), (2, .int 3), (0, .ref 64), (1, .int (xs 1))], [], (jzv284 b0 b1 b2 b3)) : jS)) rfl ?_
  refine jl_s (S' := ((106, [(3, .int 2), (4, .int (b1)), (2, .int 3), (0, .ref 64), (1, .int (xs 1))], [.int (xs 1)], (jzv284 b0 b1 b2 b3)) : jS)) rfl ?_
  refine jl_s (S' := ((108, [(3, .int 2), (4, .int (b1)), (2, .int 3), (0, .ref 64), (1, .int (xs 1))], [.int 8, .int (xs 1)], (jzv284 b0 b1 b2 b3)) : jS)) rfl ?_
  refine jl_s (S' := ((109, [(3, .int 2), (4, .int (b1)), (2, .int 3), (0, .ref 64), (1, .int (xs 1))], [.int 2, .int 8, .int (xs 1)], (jzv284 b0 b1 b2 b3)) : jS)) rfl ?_
  refine jl_s (S' := ((110, [(3, .int 2), (4, .int (b1)), (2, .int 3), (0, .ref 64), (1, .int (xs 1))], [.int 16, .int (xs 1)], (jzv284 b0 b1 b2 b3)) : jS)) rfl ?_
  refine jl_s (S' := ((111, [(3, .int 2), (4, .int (b1)), (2, .int 3), (0, .ref 64), (1, .int (xs 1))], [.int ((Int32.toUInt32 (xs 1) >>> (Int32.toUInt32 16 &&& Int32.toUInt32 31)).toInt32)], (jzv284 b0 b1 b2 b3)) : jS)) rfl ?_
  refine jl_s (S' := ((114, [(3, .int 2), (4, .int (b1)), (2, .int 3), (0, .ref 64), (1, .int (xs 1))], [.int 255, .int ((Int32.toUInt32 (xs 1) >>> (Int32.toUInt32 16 &&& Int32.toUInt32 31)).toInt32)], (jzv284 b0 b1 b2 b3)) : jS)) rfl ?_
  refine jl_s (S' := ((115, [(3, .int 2), (4, .int (b1)), (2, .int 3), (0, .ref 64), (1, .int (xs 1))], [.int (((Int32.toUInt32 (xs 1) >>> (Int32.toUInt32 16 &&& Int32.toUInt32 31)).toInt32) &&& 255)], (jzv284 b0 b1 b2 b3)) : jS)) rfl ?_
  rw [e]
  refine jl_s (S' := ((117, [(4, .int (b2)), (3, .int 2), (2, .int 3), (0, .ref 64), (1, .int (xs 1))], [], (jzv284 b0 b1 b2 b3)) : jS)) rfl ?_
  refine jl_s (S' := ((119, [(4, .int (b2)), (3, .int 2), (2, .int 3), (0, .ref 64), (1, .int (xs 1))], [.int (b2)], (jzv284 b0 b1 b2 b3)) : jS)) rfl ?_
  refine jl_ift (e := jm20) (o := 35) rfl (h.1) (t := 154) rfl ?_
  refine jl_s (S' := ((157, [(3, .int 3), (4, .int (b2)), (2, .int 3), (0, .ref 64), (1, .int (xs 1))], [], (jzv284 b0 b1 b2 b3)) : jS)) rfl ?_
  refine jl_s (S' := ((100, [(3, .int 3), (4, .int (b2)), (2, .int 3), (0, .ref 64), (1, .int (xs 1))], [], (jzv284 b0 b1 b2 b3)) : jS)) rfl ?_
  exact hq
def jzc196 (b0 b1 b2 b3 : Int32) : jC := .inl (0, 3000, .inl (upd (upd (upd (fun _ => 0) 0 (vp_nar .byte ((b0).toInt8.toInt32))) 1 (vp_nar .byte ((b1).toInt8.toInt32))) 2 (vp_nar .byte ((b3).toInt8.toInt32))))
def jzv285 (b0 b1 b2 b3 : Int32) : jH := [jzc185, (jzc196 b0 b1 b2 b3), jzc117, jzc7, jzc9, jzc9, jzc9, jzc9, jzc9, jzc17, jzc19, jzc19, jzc19, jzc19, jzc19, jzc19, jzc19, jzc19, jzc28, jzc28, jzc28, jzc28, jzc28, jzc28, jzc28, jzc28, jzc28, jzc28, jzc28, jzc28, jzc28, jzc28, jzc43, jzc43, jzc43, jzc43, jzc43, jzc49, jzc49, jzc52, jzc52, jzc52, jzc56, jzc56, jzc59, jzc56, jzc62, jzc28, jzc28, jzc28, jzc28, jzc28, jzc69, jzc71, jzc73, jzc43, jzc76, jzc52, jzc52, jzc80, jzc80, jzc80, jzc84, jzc52, jzc52, jzc52, jzc52, jzc52, jzc52, jzc52, jzc93, jzc93, jzc52, jzc52, jzc98, jzc100, jzc93, jzc52, jzc52, jzc52, jzc52, jzc107, jzc109, jzc111, jzc100, jzc100, jzc100, jzc111, jzc111, jzc118]
def jzv286 (b0 b1 b2 b3 : Int32) : jH := [jzc190, (jzc196 b0 b1 b2 b3), jzc117, jzc7, jzc9, jzc9, jzc9, jzc9, jzc9, jzc17, jzc19, jzc19, jzc19, jzc19, jzc19, jzc19, jzc19, jzc19, jzc28, jzc28, jzc28, jzc28, jzc28, jzc28, jzc28, jzc28, jzc28, jzc28, jzc28, jzc28, jzc28, jzc28, jzc43, jzc43, jzc43, jzc43, jzc43, jzc49, jzc49, jzc52, jzc52, jzc52, jzc56, jzc56, jzc59, jzc56, jzc62, jzc28, jzc28, jzc28, jzc28, jzc28, jzc69, jzc71, jzc73, jzc43, jzc76, jzc52, jzc52, jzc80, jzc80, jzc80, jzc84, jzc52, jzc52, jzc52, jzc52, jzc52, jzc52, jzc52, jzc93, jzc93, jzc52, jzc52, jzc98, jzc100, jzc93, jzc52, jzc52, jzc52, jzc52, jzc107, jzc109, jzc111, jzc100, jzc100, jzc100, jzc111, jzc111, jzc118]
set_option maxHeartbeats 4000000 in
set_option maxRecDepth 100000 in
theorem jzq435 (xs : Nat → Int32) (b0 b1 b2 b3 : Int32) (e : ((Int32.toUInt32 (xs 1) >>> (Int32.toUInt32 24 &&& Int32.toUInt32 31)).toInt32) &&& 255 = b3) (h : jbn b3) {f : Nat} {q : jO × jH} (hq : jLoop (jRun ((4, xs) : jX) 2000 37) ((4, xs) : jX) jm20 f ((100, [(3, .int 4), (4, .int (b3)), (2, .int 3), (0, .ref 64), (1, .int (xs 1))], [], (jzv286 b0 b1 b2 b3)) : jS) = some q) : jLoop (jRun ((4, xs) : jX) 2000 37) ((4, xs) : jX) jm20 (f + 32) ((100, [(3, .int 3), (4, .int (b2)), (2, .int 3), (0, .ref 64), (1, .int (xs 1))], [], (jzv284 b0 b1 b2 b3)) : jS) = some q := by
  refine jl_s (S' := ((101, [(3, .int 3), (4, .int (b2)), (2, .int 3), (0, .ref 64), (1, .int (xs 1))], [.int 3], (jzv284 b0 b1 b2 b3)) : jS)) rfl ?_
  refine jl_s (S' := ((102, [(3, .int 3), (4, .int (b2)), (2, .int 3), (0, .ref 64), (1, .int (xs 1))], [.int 4, .int 3], (jzv284 b0 b1 b2 b3)) : jS)) rfl ?_
  refine jl_s (S' := ((105, [(3, .int 3), (4, .int (b2)), (2, .int 3), (0, .ref 64), (1, .int (xs 1))], [], (jzv284 b0 b1 b2 b3)) : jS)) rfl ?_
  refine jl_s (S' := ((106, [(3, .int 3), (4, .int (b2)), (2, .int 3), (0, .ref 64), (1, .int (xs 1))], [.int (xs 1)], (jzv284 b0 b1 b2 b3)) : jS)) rfl ?_
  refine jl_s (S' := ((108, [(3, .int 3), (4, .int (b2)), (2, .int 3), (0, .ref 64), (1, .int (xs 1))], [.int 8, .int (xs 1)], (jzv284 b0 b1 b2 b3)) : jS)) rfl ?_
  refine jl_s (S' := ((109, [(3, .int 3), (4, .int (b2)), (2, .int 3), (0, .ref 64), (1, .int (xs 1))], [.int 3, .int 8, .int (xs 1)], (jzv284 b0 b1 b2 b3)) : jS)) rfl ?_
  refine jl_s (S' := ((110, [(3, .int 3), (4, .int (b2)), (2, .int 3), (0, .ref 64), (1, .int (xs 1))], [.int 24, .int (xs 1)], (jzv284 b0 b1 b2 b3)) : jS)) rfl ?_
  refine jl_s (S' := ((111, [(3, .int 3), (4, .int (b2)), (2, .int 3), (0, .ref 64), (1, .int (xs 1))], [.int ((Int32.toUInt32 (xs 1) >>> (Int32.toUInt32 24 &&& Int32.toUInt32 31)).toInt32)], (jzv284 b0 b1 b2 b3)) : jS)) rfl ?_
  refine jl_s (S' := ((114, [(3, .int 3), (4, .int (b2)), (2, .int 3), (0, .ref 64), (1, .int (xs 1))], [.int 255, .int ((Int32.toUInt32 (xs 1) >>> (Int32.toUInt32 24 &&& Int32.toUInt32 31)).toInt32)], (jzv284 b0 b1 b2 b3)) : jS)) rfl ?_
  refine jl_s (S' := ((115, [(3, .int 3), (4, .int (b2)), (2, .int 3), (0, .ref 64), (1, .int (xs 1))], [.int (((Int32.toUInt32 (xs 1) >>> (Int32.toUInt32 24 &&& Int32.toUInt32 31)).toInt32) &&& 255)], (jzv284 b0 b1 b2 b3)) : jS)) rfl ?_
  rw [e]
  refine jl_s (S' := ((117, [(4, .int (b3)), (3, .int 3), (2, .int 3), (0, .ref 64), (1, .int (xs 1))], [], (jzv284 b0 b1 b2 b3)) : jS)) rfl ?_
  refine jl_s (S' := ((119, [(4, .int (b3)), (3, .int 3), (2, .int 3), (0, .ref 64), (1, .int (xs 1))], [.int (b3)], (jzv284 b0 b1 b2 b3)) : jS)) rfl ?_
  refine jl_iff (e := jm20) (o := 35) rfl (h.1) ?_
  refine jl_s (S' := ((123, [(4, .int (b3)), (3, .int 3), (2, .int 3), (0, .ref 64), (1, .int (xs 1))], [.ref 64], (jzv284 b0 b1 b2 b3)) : jS)) rfl ?_
  refine jl_s (S' := ((126, [(4, .int (b3)), (3, .int 3), (2, .int 3), (0, .ref 64), (1, .int (xs 1))], [.int 2], (jzv284 b0 b1 b2 b3)) : jS)) rfl ?_
  refine jl_s (S' := ((129, [(4, .int (b3)), (3, .int 3), (2, .int 3), (0, .ref 64), (1, .int (xs 1))], [.int 3000, .int 2], (jzv284 b0 b1 b2 b3)) : jS)) rfl ?_
  refine jl_s (S' := ((132, [(4, .int (b3)), (3, .int 3), (2, .int 3), (0, .ref 64), (1, .int (xs 1))], [], (jzv284 b0 b1 b2 b3)) : jS)) rfl ?_
  refine jl_s (S' := ((133, [(4, .int (b3)), (3, .int 3), (2, .int 3), (0, .ref 64), (1, .int (xs 1))], [.ref 64], (jzv284 b0 b1 b2 b3)) : jS)) rfl ?_
  refine jl_s (S' := ((136, [(4, .int (b3)), (3, .int 3), (2, .int 3), (0, .ref 64), (1, .int (xs 1))], [.ref 65], (jzv284 b0 b1 b2 b3)) : jS)) rfl ?_
  refine jl_s (S' := ((137, [(4, .int (b3)), (3, .int 3), (2, .int 3), (0, .ref 64), (1, .int (xs 1))], [.ref 64, .ref 65], (jzv284 b0 b1 b2 b3)) : jS)) rfl ?_
  refine jl_s (S' := ((140, [(4, .int (b3)), (3, .int 3), (2, .int 3), (0, .ref 64), (1, .int (xs 1))], [.int 2, .ref 65], (jzv284 b0 b1 b2 b3)) : jS)) rfl ?_
  refine jl_s (S' := ((142, [(4, .int (b3)), (3, .int 3), (2, .int 3), (0, .ref 64), (1, .int (xs 1))], [.int (b3), .int 2, .ref 65], (jzv284 b0 b1 b2 b3)) : jS)) rfl ?_
  refine jl_s (S' := ((143, [(4, .int (b3)), (3, .int 3), (2, .int 3), (0, .ref 64), (1, .int (xs 1))], [.int ((b3).toInt8.toInt32), .int 2, .ref 65], (jzv284 b0 b1 b2 b3)) : jS)) rfl ?_
  refine jl_s (S' := ((144, [(4, .int (b3)), (3, .int 3), (2, .int 3), (0, .ref 64), (1, .int (xs 1))], [], (jzv285 b0 b1 b2 b3)) : jS)) rfl ?_
  refine jl_s (S' := ((145, [(4, .int (b3)), (3, .int 3), (2, .int 3), (0, .ref 64), (1, .int (xs 1))], [.ref 64], (jzv285 b0 b1 b2 b3)) : jS)) rfl ?_
  refine jl_s (S' := ((146, [(4, .int (b3)), (3, .int 3), (2, .int 3), (0, .ref 64), (1, .int (xs 1))], [.ref 64, .ref 64], (jzv285 b0 b1 b2 b3)) : jS)) rfl ?_
  refine jl_s (S' := ((149, [(4, .int (b3)), (3, .int 3), (2, .int 3), (0, .ref 64), (1, .int (xs 1))], [.int 2, .ref 64], (jzv285 b0 b1 b2 b3)) : jS)) rfl ?_
  refine jl_s (S' := ((150, [(4, .int (b3)), (3, .int 3), (2, .int 3), (0, .ref 64), (1, .int (xs 1))], [.int 1, .int 2, .ref 64], (jzv285 b0 b1 b2 b3)) : jS)) rfl ?_
  refine jl_s (S' := ((151, [(4, .int (b3)), (3, .int 3), (2, .int 3), (0, .ref 64), (1, .int (xs 1))], [.int 3, .ref 64], (jzv285 b0 b1 b2 b3)) : jS)) rfl ?_
  refine jl_s (S' := ((154, [(4, .int (b3)), (3, .int 3), (2, .int 3), (0, .ref 64), (1, .int (xs 1))], [], (jzv286 b0 b1 b2 b3)) : jS)) rfl ?_
  refine jl_s (S' := ((157, [(3, .int 4), (4, .int (b3)), (2, .int 3), (0, .ref 64), (1, .int (xs 1))], [], (jzv286 b0 b1 b2 b3)) : jS)) rfl ?_
  refine jl_s (S' := ((100, [(3, .int 4), (4, .int (b3)), (2, .int 3), (0, .ref 64), (1, .int (xs 1))], [], (jzv286 b0 b1 b2 b3)) : jS)) rfl ?_
  exact hq
set_option maxHeartbeats 4000000 in
set_option maxRecDepth 100000 in
theorem jzq437 (xs : Nat → Int32) (b0 b1 b2 b3 : Int32) {f : Nat} : jLoop (jRun ((4, xs) : jX) 2000 37) ((4, xs) : jX) jm20 (f + 6) ((100, [(3, .int 4), (4, .int (b3)), (2, .int 3), (0, .ref 64), (1, .int (xs 1))], [], (jzv286 b0 b1 b2 b3)) : jS) = some (.inl (some (.int 3)), (jzv286 b0 b1 b2 b3)) := by
  refine jl_s (S' := ((101, [(3, .int 4), (4, .int (b3)), (2, .int 3), (0, .ref 64), (1, .int (xs 1))], [.int 4], (jzv286 b0 b1 b2 b3)) : jS)) rfl ?_
  refine jl_s (S' := ((102, [(3, .int 4), (4, .int (b3)), (2, .int 3), (0, .ref 64), (1, .int (xs 1))], [.int 4, .int 4], (jzv286 b0 b1 b2 b3)) : jS)) rfl ?_
  refine jl_s (S' := ((160, [(3, .int 4), (4, .int (b3)), (2, .int 3), (0, .ref 64), (1, .int (xs 1))], [], (jzv286 b0 b1 b2 b3)) : jS)) rfl ?_
  refine jl_s (S' := ((161, [(3, .int 4), (4, .int (b3)), (2, .int 3), (0, .ref 64), (1, .int (xs 1))], [.ref 64], (jzv286 b0 b1 b2 b3)) : jS)) rfl ?_
  refine jl_s (S' := ((164, [(3, .int 4), (4, .int (b3)), (2, .int 3), (0, .ref 64), (1, .int (xs 1))], [.int 3], (jzv286 b0 b1 b2 b3)) : jS)) rfl ?_
  exact jl_r (r := (.inl (some (.int 3)), (jzv286 b0 b1 b2 b3))) rfl
set_option maxHeartbeats 4000000 in
set_option maxRecDepth 100000 in
theorem jzcp_VVZV (xs : Nat → Int32) (b0 b1 b2 b3 : Int32) (e0 : ((Int32.toUInt32 (xs 1) >>> (Int32.toUInt32 0 &&& Int32.toUInt32 31)).toInt32) &&& 255 = b0) (e1 : ((Int32.toUInt32 (xs 1) >>> (Int32.toUInt32 8 &&& Int32.toUInt32 31)).toInt32) &&& 255 = b1) (e2 : ((Int32.toUInt32 (xs 1) >>> (Int32.toUInt32 16 &&& Int32.toUInt32 31)).toInt32) &&& 255 = b2) (e3 : ((Int32.toUInt32 (xs 1) >>> (Int32.toUInt32 24 &&& Int32.toUInt32 31)).toInt32) &&& 255 = b3) (h0 : jbv b0) (h1 : jbv b1) (h2 : jbz b2) (h3 : jbv b3) : jRun ((4, xs) : jX) 2000 38 20 [.ref 64, .int (xs 1)] jzv181 = some (.inl (some (.int 3)), (jzv286 b0 b1 b2 b3)) := by
  refine jr_run (e := jm20) rfl (Nat.le_of_ble_eq_true rfl) ?_
  refine jzq267 xs b0 b1 b2 b3 ?_
  refine jzq378 xs b0 b1 b2 b3 e0 h0 ?_
  refine jzq419 xs b0 b1 b2 b3 e1 h1 ?_
  refine jzq421 xs b0 b1 b2 b3 e2 h2 ?_
  refine jzq363 xs b0 b1 b2 b3 e3 h3 ?_
  refine jzq365 xs b0 b1 b2 b3 ?_
  refine jzq408 xs b0 b1 b2 b3 e0 h0.1 ?_
  refine jzq431 xs b0 b1 b2 b3 e1 h1.1 ?_
  refine jzq433 xs b0 b1 b2 b3 e2 h2 ?_
  refine jzq435 xs b0 b1 b2 b3 e3 h3.1 ?_
  exact jzq437 xs b0 b1 b2 b3
set_option maxHeartbeats 4000000 in
set_option maxRecDepth 100000 in
theorem jzq440 (xs : Nat → Int32) (b0 b1 b2 b3 : Int32) (e : ((Int32.toUInt32 (xs 1) >>> (Int32.toUInt32 16 &&& Int32.toUInt32 31)).toInt32) &&& 255 = b2) (h : jbv b2) {f : Nat} {q : jO × jH} (hq : jLoop (jRun ((4, xs) : jX) 2000 37) ((4, xs) : jX) jm20 f ((4, [(3, .int 3), (2, .int 3), (4, .int (b2)), (0, .ref 64), (1, .int (xs 1))], [], jzv181) : jS) = some q) : jLoop (jRun ((4, xs) : jX) 2000 37) ((4, xs) : jX) jm20 (f + 30) ((4, [(3, .int 2), (2, .int 2), (4, .int (b1)), (0, .ref 64), (1, .int (xs 1))], [], jzv181) : jS) = some q := by
  rcases h.2 with h1 | ⟨h1, h2, h3, h4⟩
  · refine jl_s (S' := ((5, [(3, .int 2), (2, .int 2), (4, .int (b1)), (0, .ref 64), (1, .int (xs 1))], [.int 2], jzv181) : jS)) rfl ?_
    refine jl_s (S' := ((6, [(3, .int 2), (2, .int 2), (4, .int (b1)), (0, .ref 64), (1, .int (xs 1))], [.int 4, .int 2], jzv181) : jS)) rfl ?_
    refine jl_s (S' := ((9, [(3, .int 2), (2, .int 2), (4, .int (b1)), (0, .ref 64), (1, .int (xs 1))], [], jzv181) : jS)) rfl ?_
    refine jl_s (S' := ((10, [(3, .int 2), (2, .int 2), (4, .int (b1)), (0, .ref 64), (1, .int (xs 1))], [.int (xs 1)], jzv181) : jS)) rfl ?_
    refine jl_s (S' := ((12, [(3, .int 2), (2, .int 2), (4, .int (b1)), (0, .ref 64), (1, .int (xs 1))], [.int 8, .int (xs 1)], jzv181) : jS)) rfl ?_
    refine jl_s (S' := ((13, [(3, .int 2), (2, .int 2), (4, .int (b1)), (0, .ref 64), (1, .int (xs 1))], [.int 2, .int 8, .int (xs 1)], jzv181) : jS)) rfl ?_
    refine jl_s (S' := ((14, [(3, .int 2), (2, .int 2), (4, .int (b1)), (0, .ref 64), (1, .int (xs 1))], [.int 16, .int (xs 1)], jzv181) : jS)) rfl ?_
    refine jl_s (S' := ((15, [(3, .int 2), (2, .int 2), (4, .int (b1)), (0, .ref 64), (1, .int (xs 1))], [.int ((Int32.toUInt32 (xs 1) >>> (Int32.toUInt32 16 &&& Int32.toUInt32 31)).toInt32)], jzv181) : jS)) rfl ?_
    refine jl_s (S' := ((18, [(3, .int 2), (2, .int 2), (4, .int (b1)), (0, .ref 64), (1, .int (xs 1))], [.int 255, .int ((Int32.toUInt32 (xs 1) >>> (Int32.toUInt32 16 &&& Int32.toUInt32 31)).toInt32)], jzv181) : jS)) rfl ?_
    refine jl_s (S' := ((19, [(3, .int 2), (2, .int 2), (4, .int (b1)), (0, .ref 64), (1, .int (xs 1))], [.int (((Int32.toUInt32 (xs 1) >>> (Int32.toUInt32 16 &&& Int32.toUInt32 31)).toInt32) &&& 255)], jzv181) : jS)) rfl ?_
    rw [e]
    refine jl_s (S' := ((21, [(4, .int (b2)), (3, .int 2), (2, .int 2), (0, .ref 64), (1, .int (xs 1))], [], jzv181) : jS)) rfl ?_
    refine jl_s (S' := ((23, [(4, .int (b2)), (3, .int 2), (2, .int 2), (0, .ref 64), (1, .int (xs 1))], [.int (b2)], jzv181) : jS)) rfl ?_
    refine jl_iff (e := jm20) (o := 34) rfl (h.1.1) ?_
    refine jl_s (S' := ((28, [(4, .int (b2)), (3, .int 2), (2, .int 2), (0, .ref 64), (1, .int (xs 1))], [.int (b2)], jzv181) : jS)) rfl ?_
    refine jl_s (S' := ((30, [(4, .int (b2)), (3, .int 2), (2, .int 2), (0, .ref 64), (1, .int (xs 1))], [.int 10, .int (b2)], jzv181) : jS)) rfl ?_
    refine jl_ict (e := jm20) (o := 27) rfl (h1) (t := 57) rfl ?_
    refine jl_s (S' := ((58, [(4, .int (b2)), (3, .int 2), (2, .int 2), (0, .ref 64), (1, .int (xs 1))], [.int 2], jzv181) : jS)) rfl ?_
    refine jl_s (S' := ((60, [(4, .int (b2)), (3, .int 2), (2, .int 2), (0, .ref 64), (1, .int (xs 1))], [.int (b2), .int 2], jzv181) : jS)) rfl ?_
    refine jl_ift (e := jm20) (o := 7) rfl (h.1.2) (t := 67) rfl ?_
    refine jl_s (S' := ((68, [(4, .int (b2)), (3, .int 2), (2, .int 2), (0, .ref 64), (1, .int (xs 1))], [.int 1, .int 2], jzv181) : jS)) rfl ?_
    refine jl_s (S' := ((69, [(4, .int (b2)), (3, .int 2), (2, .int 2), (0, .ref 64), (1, .int (xs 1))], [.int 3], jzv181) : jS)) rfl ?_
    refine jl_s (S' := ((70, [(2, .int 3), (4, .int (b2)), (3, .int 2), (0, .ref 64), (1, .int (xs 1))], [], jzv181) : jS)) rfl ?_
    refine jl_s (S' := ((73, [(3, .int 3), (2, .int 3), (4, .int (b2)), (0, .ref 64), (1, .int (xs 1))], [], jzv181) : jS)) rfl ?_
    refine jl_s (S' := ((4, [(3, .int 3), (2, .int 3), (4, .int (b2)), (0, .ref 64), (1, .int (xs 1))], [], jzv181) : jS)) rfl ?_
    exact jl_more hq
  · refine jl_s (S' := ((5, [(3, .int 2), (2, .int 2), (4, .int (b1)), (0, .ref 64), (1, .int (xs 1))], [.int 2], jzv181) : jS)) rfl ?_
    refine jl_s (S' := ((6, [(3, .int 2), (2, .int 2), (4, .int (b1)), (0, .ref 64), (1, .int (xs 1))], [.int 4, .int 2], jzv181) : jS)) rfl ?_
    refine jl_s (S' := ((9, [(3, .int 2), (2, .int 2), (4, .int (b1)), (0, .ref 64), (1, .int (xs 1))], [], jzv181) : jS)) rfl ?_
    refine jl_s (S' := ((10, [(3, .int 2), (2, .int 2), (4, .int (b1)), (0, .ref 64), (1, .int (xs 1))], [.int (xs 1)], jzv181) : jS)) rfl ?_
    refine jl_s (S' := ((12, [(3, .int 2), (2, .int 2), (4, .int (b1)), (0, .ref 64), (1, .int (xs 1))], [.int 8, .int (xs 1)], jzv181) : jS)) rfl ?_
    refine jl_s (S' := ((13, [(3, .int 2), (2, .int 2), (4, .int (b1)), (0, .ref 64), (1, .int (xs 1))], [.int 2, .int 8, .int (xs 1)], jzv181) : jS)) rfl ?_
    refine jl_s (S' := ((14, [(3, .int 2), (2, .int 2), (4, .int (b1)), (0, .ref 64), (1, .int (xs 1))], [.int 16, .int (xs 1)], jzv181) : jS)) rfl ?_
    refine jl_s (S' := ((15, [(3, .int 2), (2, .int 2), (4, .int (b1)), (0, .ref 64), (1, .int (xs 1))], [.int ((Int32.toUInt32 (xs 1) >>> (Int32.toUInt32 16 &&& Int32.toUInt32 31)).toInt32)], jzv181) : jS)) rfl ?_
    refine jl_s (S' := ((18, [(3, .int 2), (2, .int 2), (4, .int (b1)), (0, .ref 64), (1, .int (xs 1))], [.int 255, .int ((Int32.toUInt32 (xs 1) >>> (Int32.toUInt32 16 &&& Int32.toUInt32 31)).toInt32)], jzv181) : jS)) rfl ?_
    refine jl_s (S' := ((19, [(3, .int 2), (2, .int 2), (4, .int (b1)), (0, .ref 64), (1, .int (xs 1))], [.int (((Int32.toUInt32 (xs 1) >>> (Int32.toUInt32 16 &&& Int32.toUInt32 31)).toInt32) &&& 255)], jzv181) : jS)) rfl ?_
    rw [e]
    refine jl_s (S' := ((21, [(4, .int (b2)), (3, .int 2), (2, .int 2), (0, .ref 64), (1, .int (xs 1))], [], jzv181) : jS)) rfl ?_
    refine jl_s (S' := ((23, [(4, .int (b2)), (3, .int 2), (2, .int 2), (0, .ref 64), (1, .int (xs 1))], [.int (b2)], jzv181) : jS)) rfl ?_
    refine jl_iff (e := jm20) (o := 34) rfl (h.1.1) ?_
    refine jl_s (S' := ((28, [(4, .int (b2)), (3, .int 2), (2, .int 2), (0, .ref 64), (1, .int (xs 1))], [.int (b2)], jzv181) : jS)) rfl ?_
    refine jl_s (S' := ((30, [(4, .int (b2)), (3, .int 2), (2, .int 2), (0, .ref 64), (1, .int (xs 1))], [.int 10, .int (b2)], jzv181) : jS)) rfl ?_
    refine jl_icf (e := jm20) (o := 27) rfl (h1) ?_
    refine jl_s (S' := ((35, [(4, .int (b2)), (3, .int 2), (2, .int 2), (0, .ref 64), (1, .int (xs 1))], [.int (b2)], jzv181) : jS)) rfl ?_
    refine jl_s (S' := ((37, [(4, .int (b2)), (3, .int 2), (2, .int 2), (0, .ref 64), (1, .int (xs 1))], [.int 32, .int (b2)], jzv181) : jS)) rfl ?_
    refine jl_icf (e := jm20) (o := 10) rfl (h2) ?_
    refine jl_s (S' := ((42, [(4, .int (b2)), (3, .int 2), (2, .int 2), (0, .ref 64), (1, .int (xs 1))], [.int (b2)], jzv181) : jS)) rfl ?_
    refine jl_s (S' := ((44, [(4, .int (b2)), (3, .int 2), (2, .int 2), (0, .ref 64), (1, .int (xs 1))], [.int 126, .int (b2)], jzv181) : jS)) rfl ?_
    refine jl_ict (e := jm20) (o := 13) rfl (h3) (t := 57) rfl ?_
    refine jl_s (S' := ((58, [(4, .int (b2)), (3, .int 2), (2, .int 2), (0, .ref 64), (1, .int (xs 1))], [.int 2], jzv181) : jS)) rfl ?_
    refine jl_s (S' := ((60, [(4, .int (b2)), (3, .int 2), (2, .int 2), (0, .ref 64), (1, .int (xs 1))], [.int (b2), .int 2], jzv181) : jS)) rfl ?_
    refine jl_ift (e := jm20) (o := 7) rfl (h.1.2) (t := 67) rfl ?_
    refine jl_s (S' := ((68, [(4, .int (b2)), (3, .int 2), (2, .int 2), (0, .ref 64), (1, .int (xs 1))], [.int 1, .int 2], jzv181) : jS)) rfl ?_
    refine jl_s (S' := ((69, [(4, .int (b2)), (3, .int 2), (2, .int 2), (0, .ref 64), (1, .int (xs 1))], [.int 3], jzv181) : jS)) rfl ?_
    refine jl_s (S' := ((70, [(2, .int 3), (4, .int (b2)), (3, .int 2), (0, .ref 64), (1, .int (xs 1))], [], jzv181) : jS)) rfl ?_
    refine jl_s (S' := ((73, [(3, .int 3), (2, .int 3), (4, .int (b2)), (0, .ref 64), (1, .int (xs 1))], [], jzv181) : jS)) rfl ?_
    refine jl_s (S' := ((4, [(3, .int 3), (2, .int 3), (4, .int (b2)), (0, .ref 64), (1, .int (xs 1))], [], jzv181) : jS)) rfl ?_
    exact hq
set_option maxHeartbeats 4000000 in
set_option maxRecDepth 100000 in
theorem jzq442 (xs : Nat → Int32) (b0 b1 b2 b3 : Int32) (e : ((Int32.toUInt32 (xs 1) >>> (Int32.toUInt32 24 &&& Int32.toUInt32 31)).toInt32) &&& 255 = b3) (h : jbz b3) {f : Nat} {q : jO × jH} (hq : jLoop (jRun ((4, xs) : jX) 2000 37) ((4, xs) : jX) jm20 f ((4, [(3, .int 4), (2, .int 3), (4, .int (b3)), (0, .ref 64), (1, .int (xs 1))], [], jzv181) : jS) = some q) : jLoop (jRun ((4, xs) : jX) 2000 37) ((4, xs) : jX) jm20 (f + 22) ((4, [(3, .int 3), (2, .int 3), (4, .int (b2)), (0, .ref 64), (1, .int (xs 1))], [], jzv181) : jS) = some q := by
  refine jl_s (S' := ((5, [(3, .int 3), (2, .int 3), (4, .int (b2)), (0, .ref 64), (1, .int (xs 1))], [.int 3], jzv181) : jS)) rfl ?_
  refine jl_s (S' := ((6, [(3, .int 3), (2, .int 3), (4, .int (b2)), (0, .ref 64), (1, .int (xs 1))], [.int 4, .int 3], jzv181) : jS)) rfl ?_
  refine jl_s (S' := ((9, [(3, .int 3), (2, .int 3), (4, .int (b2)), (0, .ref 64), (1, .int (xs 1))], [], jzv181) : jS)) rfl ?_
  refine jl_s (S' := ((10, [(3, .int 3), (2, .int 3), (4, .int (b2)), (0, .ref 64), (1, .int (xs 1))], [.int (xs 1)], jzv181) : jS)) rfl ?_
  refine jl_s (S' := ((12, [(3, .int 3), (2, .int 3), (4, .int (b2)), (0, .ref 64), (1, .int (xs 1))], [.int 8, .int (xs 1)], jzv181) : jS)) rfl ?_
  refine jl_s (S' := ((13, [(3, .int 3), (2, .int 3), (4, .int (b2)), (0, .ref 64), (1, .int (xs 1))], [.int 3, .int 8, .int (xs 1)], jzv181) : jS)) rfl ?_
  refine jl_s (S' := ((14, [(3, .int 3), (2, .int 3), (4, .int (b2)), (0, .ref 64), (1, .int (xs 1))], [.int 24, .int (xs 1)], jzv181) : jS)) rfl ?_
  refine jl_s (S' := ((15, [(3, .int 3), (2, .int 3), (4, .int (b2)), (0, .ref 64), (1, .int (xs 1))], [.int ((Int32.toUInt32 (xs 1) >>> (Int32.toUInt32 24 &&& Int32.toUInt32 31)).toInt32)], jzv181) : jS)) rfl ?_
  refine jl_s (S' := ((18, [(3, .int 3), (2, .int 3), (4, .int (b2)), (0, .ref 64), (1, .int (xs 1))], [.int 255, .int ((Int32.toUInt32 (xs 1) >>> (Int32.toUInt32 24 &&& Int32.toUInt32 31)).toInt32)], jzv181) : jS)) rfl ?_
  refine jl_s (S' := ((19, [(3, .int 3), (2, .int 3), (4, .int (b2)), (0, .ref 64), (1, .int (xs 1))], [.int (((Int32.toUInt32 (xs 1) >>> (Int32.toUInt32 24 &&& Int32.toUInt32 31)).toInt32) &&& 255)], jzv181) : jS)) rfl ?_
  rw [e]
  refine jl_s (S' := ((21, [(4, .int (b3)), (3, .int 3), (2, .int 3), (0, .ref 64), (1, .int (xs 1))], [], jzv181) : jS)) rfl ?_
  refine jl_s (S' := ((23, [(4, .int (b3)), (3, .int 3), (2, .int 3), (0, .ref 64), (1, .int (xs 1))], [.int (b3)], jzv181) : jS)) rfl ?_
  refine jl_ift (e := jm20) (o := 34) rfl (h.1) (t := 57) rfl ?_
  refine jl_s (S' := ((58, [(4, .int (b3)), (3, .int 3), (2, .int 3), (0, .ref 64), (1, .int (xs 1))], [.int 3], jzv181) : jS)) rfl ?_
  refine jl_s (S' := ((60, [(4, .int (b3)), (3, .int 3), (2, .int 3), (0, .ref 64), (1, .int (xs 1))], [.int (b3), .int 3], jzv181) : jS)) rfl ?_
  refine jl_iff (e := jm20) (o := 7) rfl (h.2) ?_
  refine jl_s (S' := ((64, [(4, .int (b3)), (3, .int 3), (2, .int 3), (0, .ref 64), (1, .int (xs 1))], [.int 0, .int 3], jzv181) : jS)) rfl ?_
  refine jl_s (S' := ((68, [(4, .int (b3)), (3, .int 3), (2, .int 3), (0, .ref 64), (1, .int (xs 1))], [.int 0, .int 3], jzv181) : jS)) rfl ?_
  refine jl_s (S' := ((69, [(4, .int (b3)), (3, .int 3), (2, .int 3), (0, .ref 64), (1, .int (xs 1))], [.int 3], jzv181) : jS)) rfl ?_
  refine jl_s (S' := ((70, [(2, .int 3), (4, .int (b3)), (3, .int 3), (0, .ref 64), (1, .int (xs 1))], [], jzv181) : jS)) rfl ?_
  refine jl_s (S' := ((73, [(3, .int 4), (2, .int 3), (4, .int (b3)), (0, .ref 64), (1, .int (xs 1))], [], jzv181) : jS)) rfl ?_
  refine jl_s (S' := ((4, [(3, .int 4), (2, .int 3), (4, .int (b3)), (0, .ref 64), (1, .int (xs 1))], [], jzv181) : jS)) rfl ?_
  exact hq
def jzc197 (b0 b1 b2 b3 : Int32) : jC := .inl (0, 3000, .inl (upd (upd (upd (fun _ => 0) 0 (vp_nar .byte ((b0).toInt8.toInt32))) 1 (vp_nar .byte ((b1).toInt8.toInt32))) 2 (vp_nar .byte ((b2).toInt8.toInt32))))
def jzv287 (b0 b1 b2 b3 : Int32) : jH := [jzc185, (jzc197 b0 b1 b2 b3), jzc117, jzc7, jzc9, jzc9, jzc9, jzc9, jzc9, jzc17, jzc19, jzc19, jzc19, jzc19, jzc19, jzc19, jzc19, jzc19, jzc28, jzc28, jzc28, jzc28, jzc28, jzc28, jzc28, jzc28, jzc28, jzc28, jzc28, jzc28, jzc28, jzc28, jzc43, jzc43, jzc43, jzc43, jzc43, jzc49, jzc49, jzc52, jzc52, jzc52, jzc56, jzc56, jzc59, jzc56, jzc62, jzc28, jzc28, jzc28, jzc28, jzc28, jzc69, jzc71, jzc73, jzc43, jzc76, jzc52, jzc52, jzc80, jzc80, jzc80, jzc84, jzc52, jzc52, jzc52, jzc52, jzc52, jzc52, jzc52, jzc93, jzc93, jzc52, jzc52, jzc98, jzc100, jzc93, jzc52, jzc52, jzc52, jzc52, jzc107, jzc109, jzc111, jzc100, jzc100, jzc100, jzc111, jzc111, jzc118]
def jzv288 (b0 b1 b2 b3 : Int32) : jH := [jzc190, (jzc197 b0 b1 b2 b3), jzc117, jzc7, jzc9, jzc9, jzc9, jzc9, jzc9, jzc17, jzc19, jzc19, jzc19, jzc19, jzc19, jzc19, jzc19, jzc19, jzc28, jzc28, jzc28, jzc28, jzc28, jzc28, jzc28, jzc28, jzc28, jzc28, jzc28, jzc28, jzc28, jzc28, jzc43, jzc43, jzc43, jzc43, jzc43, jzc49, jzc49, jzc52, jzc52, jzc52, jzc56, jzc56, jzc59, jzc56, jzc62, jzc28, jzc28, jzc28, jzc28, jzc28, jzc69, jzc71, jzc73, jzc43, jzc76, jzc52, jzc52, jzc80, jzc80, jzc80, jzc84, jzc52, jzc52, jzc52, jzc52, jzc52, jzc52, jzc52, jzc93, jzc93, jzc52, jzc52, jzc98, jzc100, jzc93, jzc52, jzc52, jzc52, jzc52, jzc107, jzc109, jzc111, jzc100, jzc100, jzc100, jzc111, jzc111, jzc118]
set_option maxHeartbeats 4000000 in
set_option maxRecDepth 100000 in
theorem jzq444 (xs : Nat → Int32) (b0 b1 b2 b3 : Int32) (e : ((Int32.toUInt32 (xs 1) >>> (Int32.toUInt32 16 &&& Int32.toUInt32 31)).toInt32) &&& 255 = b2) (h : jbn b2) {f : Nat} {q : jO × jH} (hq : jLoop (jRun ((4, xs) : jX) 2000 37) ((4, xs) : jX) jm20 f ((100, [(3, .int 3), (4, .int (b2)), (2, .int 3), (0, .ref 64), (1, .int (xs 1))], [], (jzv288 b0 b1 b2 b3)) : jS) = some q) : jLoop (jRun ((4, xs) : jX) 2000 37) ((4, xs) : jX) jm20 (f + 32) ((100, [(3, .int 2), (4, .int (b1)), (2, .int 3), (0, .ref 64), (1, .int (xs 1))], [], (jzv284 b0 b1 b2 b3)) : jS) = some q := by
  refine jl_s (S' := ((101, [(3, .int 2), (4, .int (b1)), (2, .int 3), (0, .ref 64), (1, .int (xs 1))], [.int 2], (jzv284 b0 b1 b2 b3)) : jS)) rfl ?_
  refine jl_s (S' := ((102, [(3, .int 2), (4, .int (b1)), (2, .int 3), (0, .ref 64), (1, .int (xs 1))], [.int 4, .int 2], (jzv284 b0 b1 b2 b3)) : jS)) rfl ?_
  refine jl_s (S' := ((105, [(3, .int 2), (4, .int (b1)), (2, .int 3), (0, .ref 64), (1, .int (xs 1))], [], (jzv284 b0 b1 b2 b3)) : jS)) rfl ?_
  refine jl_s (S' := ((106, [(3, .int 2), (4, .int (b1)), (2, .int 3), (0, .ref 64), (1, .int (xs 1))], [.int (xs 1)], (jzv284 b0 b1 b2 b3)) : jS)) rfl ?_
  refine jl_s (S' := ((108, [(3, .int 2), (4, .int (b1)), (2, .int 3), (0, .ref 64), (1, .int (xs 1))], [.int 8, .int (xs 1)], (jzv284 b0 b1 b2 b3)) : jS)) rfl ?_
  refine jl_s (S' := ((109, [(3, .int 2), (4, .int (b1)), (2, .int 3), (0, .ref 64), (1, .int (xs 1))], [.int 2, .int 8, .int (xs 1)], (jzv284 b0 b1 b2 b3)) : jS)) rfl ?_
  refine jl_s (S' := ((110, [(3, .int 2), (4, .int (b1)), (2, .int 3), (0, .ref 64), (1, .int (xs 1))], [.int 16, .int (xs 1)], (jzv284 b0 b1 b2 b3)) : jS)) rfl ?_
  refine jl_s (S' := ((111, [(3, .int 2), (4, .int (b1)), (2, .int 3), (0, .ref 64), (1, .int (xs 1))], [.int ((Int32.toUInt32 (xs 1) >>> (Int32.toUInt32 16 &&& Int32.toUInt32 31)).toInt32)], (jzv284 b0 b1 b2 b3)) : jS)) rfl ?_
  refine jl_s (S' := ((114, [(3, .int 2), (4, .int (b1)), (2, .int 3), (0, .ref 64), (1, .int (xs 1))], [.int 255, .int ((Int32.toUInt32 (xs 1) >>> (Int32.toUInt32 16 &&& Int32.toUInt32 31)).toInt32)], (jzv284 b0 b1 b2 b3)) : jS)) rfl ?_
  refine jl_s (S' := ((115, [(3, .int 2), (4, .int (b1)), (2, .int 3), (0, .ref 64), (1, .int (xs 1))], [.int (((Int32.toUInt32 (xs 1) >>> (Int32.toUInt32 16 &&& Int32.toUInt32 31)).toInt32) &&& 255)], (jzv284 b0 b1 b2 b3)) : jS)) rfl ?_
  rw [e]
  refine jl_s (S' := ((117, [(4, .int (b2)), (3, .int 2), (2, .int 3), (0, .ref 64), (1, .int (xs 1))], [], (jzv284 b0 b1 b2 b3)) : jS)) rfl ?_
  refine jl_s (S' := ((119, [(4, .int (b2)), (3, .int 2), (2, .int 3), (0, .ref 64), (1, .int (xs 1))], [.int (b2)], (jzv284 b0 b1 b2 b3)) : jS)) rfl ?_
  refine jl_iff (e := jm20) (o := 35) rfl (h.1) ?_
  refine jl_s (S' := ((123, [(4, .int (b2)), (3, .int 2), (2, .int 3), (0, .ref 64), (1, .int (xs 1))], [.ref 64], (jzv284 b0 b1 b2 b3)) : jS)) rfl ?_
  refine jl_s (S' := ((126, [(4, .int (b2)), (3, .int 2), (2, .int 3), (0, .ref 64), (1, .int (xs 1))], [.int 2], (jzv284 b0 b1 b2 b3)) : jS)) rfl ?_
  refine jl_s (S' := ((129, [(4, .int (b2)), (3, .int 2), (2, .int 3), (0, .ref 64), (1, .int (xs 1))], [.int 3000, .int 2], (jzv284 b0 b1 b2 b3)) : jS)) rfl ?_
  refine jl_s (S' := ((132, [(4, .int (b2)), (3, .int 2), (2, .int 3), (0, .ref 64), (1, .int (xs 1))], [], (jzv284 b0 b1 b2 b3)) : jS)) rfl ?_
  refine jl_s (S' := ((133, [(4, .int (b2)), (3, .int 2), (2, .int 3), (0, .ref 64), (1, .int (xs 1))], [.ref 64], (jzv284 b0 b1 b2 b3)) : jS)) rfl ?_
  refine jl_s (S' := ((136, [(4, .int (b2)), (3, .int 2), (2, .int 3), (0, .ref 64), (1, .int (xs 1))], [.ref 65], (jzv284 b0 b1 b2 b3)) : jS)) rfl ?_
  refine jl_s (S' := ((137, [(4, .int (b2)), (3, .int 2), (2, .int 3), (0, .ref 64), (1, .int (xs 1))], [.ref 64, .ref 65], (jzv284 b0 b1 b2 b3)) : jS)) rfl ?_
  refine jl_s (S' := ((140, [(4, .int (b2)), (3, .int 2), (2, .int 3), (0, .ref 64), (1, .int (xs 1))], [.int 2, .ref 65], (jzv284 b0 b1 b2 b3)) : jS)) rfl ?_
  refine jl_s (S' := ((142, [(4, .int (b2)), (3, .int 2), (2, .int 3), (0, .ref 64), (1, .int (xs 1))], [.int (b2), .int 2, .ref 65], (jzv284 b0 b1 b2 b3)) : jS)) rfl ?_
  refine jl_s (S' := ((143, [(4, .int (b2)), (3, .int 2), (2, .int 3), (0, .ref 64), (1, .int (xs 1))], [.int ((b2).toInt8.toInt32), .int 2, .ref 65], (jzv284 b0 b1 b2 b3)) : jS)) rfl ?_
  refine jl_s (S' := ((144, [(4, .int (b2)), (3, .int 2), (2, .int 3), (0, .ref 64), (1, .int (xs 1))], [], (jzv287 b0 b1 b2 b3)) : jS)) rfl ?_
  refine jl_s (S' := ((145, [(4, .int (b2)), (3, .int 2), (2, .int 3), (0, .ref 64), (1, .int (xs 1))], [.ref 64], (jzv287 b0 b1 b2 b3)) : jS)) rfl ?_
  refine jl_s (S' := ((146, [(4, .int (b2)), (3, .int 2), (2, .int 3), (0, .ref 64), (1, .int (xs 1))], [.ref 64, .ref 64], (jzv287 b0 b1 b2 b3)) : jS)) rfl ?_
  refine jl_s (S' := ((149, [(4, .int (b2)), (3, .int 2), (2, .int 3), (0, .ref 64), (1, .int (xs 1))], [.int 2, .ref 64], (jzv287 b0 b1 b2 b3)) : jS)) rfl ?_
  refine jl_s (S' := ((150, [(4, .int (b2)), (3, .int 2), (2, .int 3), (0, .ref 64), (1, .int (xs 1))], [.int 1, .int 2, .ref 64], (jzv287 b0 b1 b2 b3)) : jS)) rfl ?_
  refine jl_s (S' := ((151, [(4, .int (b2)), (3, .int 2), (2, .int 3), (0, .ref 64), (1, .int (xs 1))], [.int 3, .ref 64], (jzv287 b0 b1 b2 b3)) : jS)) rfl ?_
  refine jl_s (S' := ((154, [(4, .int (b2)), (3, .int 2), (2, .int 3), (0, .ref 64), (1, .int (xs 1))], [], (jzv288 b0 b1 b2 b3)) : jS)) rfl ?_
  refine jl_s (S' := ((157, [(3, .int 3), (4, .int (b2)), (2, .int 3), (0, .ref 64), (1, .int (xs 1))], [], (jzv288 b0 b1 b2 b3)) : jS)) rfl ?_
  refine jl_s (S' := ((100, [(3, .int 3), (4, .int (b2)), (2, .int 3), (0, .ref 64), (1, .int (xs 1))], [], (jzv288 b0 b1 b2 b3)) : jS)) rfl ?_
  exact hq
set_option maxHeartbeats 4000000 in
set_option maxRecDepth 100000 in
theorem jzq446 (xs : Nat → Int32) (b0 b1 b2 b3 : Int32) (e : ((Int32.toUInt32 (xs 1) >>> (Int32.toUInt32 24 &&& Int32.toUInt32 31)).toInt32) &&& 255 = b3) (h : jbz b3) {f : Nat} {q : jO × jH} (hq : jLoop (jRun ((4, xs) : jX) 2000 37) ((4, xs) : jX) jm20 f ((100, [(3, .int 4), (4, .int (b3)), (2, .int 3), (0, .ref 64), (1, .int (xs 1))], [], (jzv288 b0 b1 b2 b3)) : jS) = some q) : jLoop (jRun ((4, xs) : jX) 2000 37) ((4, xs) : jX) jm20 (f + 15) ((100, [(3, .int 3), (4, .int (b2)), (2, .int 3), (0, .ref 64), (1, .int (xs 1))], [], (jzv288 b0 b1 b2 b3)) : jS) = some q := by
  refine jl_s (S' := ((101, [(3, .int 3), (4, .int (b2)), (2, .int 3), (0, .ref 64), (1, .int (xs 1))], [.int 3], (jzv288 b0 b1 b2 b3)) : jS)) rfl ?_
  refine jl_s (S' := ((102, [(3, .int 3), (4, .int (b2)), (2, .int 3), (0, .ref 64), (1, .int (xs 1))], [.int 4, .int 3], (jzv288 b0 b1 b2 b3)) : jS)) rfl ?_
  refine jl_s (S' := ((105, [(3, .int 3), (4, .int (b2)), (2, .int 3), (0, .ref 64), (1, .int (xs 1))], [], (jzv288 b0 b1 b2 b3)) : jS)) rfl ?_
  refine jl_s (S' := ((106, [(3, .int 3), (4, .int (b2)), (2, .int 3), (0, .ref 64), (1, .int (xs 1))], [.int (xs 1)], (jzv288 b0 b1 b2 b3)) : jS)) rfl ?_
  refine jl_s (S' := ((108, [(3, .int 3), (4, .int (b2)), (2, .int 3), (0, .ref 64), (1, .int (xs 1))], [.int 8, .int (xs 1)], (jzv288 b0 b1 b2 b3)) : jS)) rfl ?_
  refine jl_s (S' := ((109, [(3, .int 3), (4, .int (b2)), (2, .int 3), (0, .ref 64), (1, .int (xs 1))], [.int 3, .int 8, .int (xs 1)], (jzv288 b0 b1 b2 b3)) : jS)) rfl ?_
  refine jl_s (S' := ((110, [(3, .int 3), (4, .int (b2)), (2, .int 3), (0, .ref 64), (1, .int (xs 1))], [.int 24, .int (xs 1)], (jzv288 b0 b1 b2 b3)) : jS)) rfl ?_
  refine jl_s (S' := ((111, [(3, .int 3), (4, .int (b2)), (2, .int 3), (0, .ref 64), (1, .int (xs 1))], [.int ((Int32.toUInt32 (xs 1) >>> (Int32.toUInt32 24 &&& Int32.toUInt32 31)).toInt32)], (jzv288 b0 b1 b2 b3)) : jS)) rfl ?_
  refine jl_s (S' := ((114, [(3, .int 3), (4, .int (b2)), (2, .int 3), (0, .ref 64), (1, .int (xs 1))], [.int 255, .int ((Int32.toUInt32 (xs 1) >>> (Int32.toUInt32 24 &&& Int32.toUInt32 31)).toInt32)], (jzv288 b0 b1 b2 b3)) : jS)) rfl ?_
  refine jl_s (S' := ((115, [(3, .int 3), (4, .int (b2)), (2, .int 3), (0, .ref 64), (1, .int (xs 1))], [.int (((Int32.toUInt32 (xs 1) >>> (Int32.toUInt32 24 &&& Int32.toUInt32 31)).toInt32) &&& 255)], (jzv288 b0 b1 b2 b3)) : jS)) rfl ?_
  rw [e]
  refine jl_s (S' := ((117, [(4, .int (b3)), (3, .int 3), (2, .int 3), (0, .ref 64), (1, .int (xs 1))], [], (jzv288 b0 b1 b2 b3)) : jS)) rfl ?_
  refine jl_s (S' := ((119, [(4, .int (b3)), (3, .int 3), (2, .int 3), (0, .ref 64), (1, .int (xs 1))], [.int (b3)], (jzv288 b0 b1 b2 b3)) : jS)) rfl ?_
  refine jl_ift (e := jm20) (o := 35) rfl (h.1) (t := 154) rfl ?_
  refine jl_s (S' := ((157, [(3, .int 4), (4, .int (b3)), (2, .int 3), (0, .ref 64), (1, .int (xs 1))], [], (jzv288 b0 b1 b2 b3)) : jS)) rfl ?_
  refine jl_s (S' := ((100, [(3, .int 4), (4, .int (b3)), (2, .int 3), (0, .ref 64), (1, .int (xs 1))], [], (jzv288 b0 b1 b2 b3)) : jS)) rfl ?_
  exact hq
set_option maxHeartbeats 4000000 in
set_option maxRecDepth 100000 in
theorem jzq448 (xs : Nat → Int32) (b0 b1 b2 b3 : Int32) {f : Nat} : jLoop (jRun ((4, xs) : jX) 2000 37) ((4, xs) : jX) jm20 (f + 6) ((100, [(3, .int 4), (4, .int (b3)), (2, .int 3), (0, .ref 64), (1, .int (xs 1))], [], (jzv288 b0 b1 b2 b3)) : jS) = some (.inl (some (.int 3)), (jzv288 b0 b1 b2 b3)) := by
  refine jl_s (S' := ((101, [(3, .int 4), (4, .int (b3)), (2, .int 3), (0, .ref 64), (1, .int (xs 1))], [.int 4], (jzv288 b0 b1 b2 b3)) : jS)) rfl ?_
  refine jl_s (S' := ((102, [(3, .int 4), (4, .int (b3)), (2, .int 3), (0, .ref 64), (1, .int (xs 1))], [.int 4, .int 4], (jzv288 b0 b1 b2 b3)) : jS)) rfl ?_
  refine jl_s (S' := ((160, [(3, .int 4), (4, .int (b3)), (2, .int 3), (0, .ref 64), (1, .int (xs 1))], [], (jzv288 b0 b1 b2 b3)) : jS)) rfl ?_
  refine jl_s (S' := ((161, [(3, .int 4), (4, .int (b3)), (2, .int 3), (0, .ref 64), (1, .int (xs 1))], [.ref 64], (jzv288 b0 b1 b2 b3)) : jS)) rfl ?_
  refine jl_s (S' := ((164, [(3, .int 4), (4, .int (b3)), (2, .int 3), (0, .ref 64), (1, .int (xs 1))], [.int 3], (jzv288 b0 b1 b2 b3)) : jS)) rfl ?_
  exact jl_r (r := (.inl (some (.int 3)), (jzv288 b0 b1 b2 b3))) rfl
set_option maxHeartbeats 4000000 in
set_option maxRecDepth 100000 in
theorem jzcp_VVVZ (xs : Nat → Int32) (b0 b1 b2 b3 : Int32) (e0 : ((Int32.toUInt32 (xs 1) >>> (Int32.toUInt32 0 &&& Int32.toUInt32 31)).toInt32) &&& 255 = b0) (e1 : ((Int32.toUInt32 (xs 1) >>> (Int32.toUInt32 8 &&& Int32.toUInt32 31)).toInt32) &&& 255 = b1) (e2 : ((Int32.toUInt32 (xs 1) >>> (Int32.toUInt32 16 &&& Int32.toUInt32 31)).toInt32) &&& 255 = b2) (e3 : ((Int32.toUInt32 (xs 1) >>> (Int32.toUInt32 24 &&& Int32.toUInt32 31)).toInt32) &&& 255 = b3) (h0 : jbv b0) (h1 : jbv b1) (h2 : jbv b2) (h3 : jbz b3) : jRun ((4, xs) : jX) 2000 38 20 [.ref 64, .int (xs 1)] jzv181 = some (.inl (some (.int 3)), (jzv288 b0 b1 b2 b3)) := by
  refine jr_run (e := jm20) rfl (Nat.le_of_ble_eq_true rfl) ?_
  refine jzq267 xs b0 b1 b2 b3 ?_
  refine jzq378 xs b0 b1 b2 b3 e0 h0 ?_
  refine jzq419 xs b0 b1 b2 b3 e1 h1 ?_
  refine jzq440 xs b0 b1 b2 b3 e2 h2 ?_
  refine jzq442 xs b0 b1 b2 b3 e3 h3 ?_
  refine jzq365 xs b0 b1 b2 b3 ?_
  refine jzq408 xs b0 b1 b2 b3 e0 h0.1 ?_
  refine jzq431 xs b0 b1 b2 b3 e1 h1.1 ?_
  refine jzq444 xs b0 b1 b2 b3 e2 h2.1 ?_
  refine jzq446 xs b0 b1 b2 b3 e3 h3 ?_
  exact jzq448 xs b0 b1 b2 b3
set_option maxHeartbeats 4000000 in
set_option maxRecDepth 100000 in
theorem jzq451 (xs : Nat → Int32) (b0 b1 b2 b3 : Int32) (e : ((Int32.toUInt32 (xs 1) >>> (Int32.toUInt32 24 &&& Int32.toUInt32 31)).toInt32) &&& 255 = b3) (h : jbv b3) {f : Nat} {q : jO × jH} (hq : jLoop (jRun ((4, xs) : jX) 2000 37) ((4, xs) : jX) jm20 f ((4, [(3, .int 4), (2, .int 4), (4, .int (b3)), (0, .ref 64), (1, .int (xs 1))], [], jzv181) : jS) = some q) : jLoop (jRun ((4, xs) : jX) 2000 37) ((4, xs) : jX) jm20 (f + 30) ((4, [(3, .int 3), (2, .int 3), (4, .int (b2)), (0, .ref 64), (1, .int (xs 1))], [], jzv181) : jS) = some q := by
  rcases h.2 with h1 | ⟨h1, h2, h3, h4⟩
  · refine jl_s (S' := ((5, [(3, .int 3), (2, .int 3), (4, .int (b2)), (0, .ref 64), (1, .int (xs 1))], [.int 3], jzv181) : jS)) rfl ?_
    refine jl_s (S' := ((6, [(3, .int 3), (2, .int 3), (4, .int (b2)), (0, .ref 64), (1, .int (xs 1))], [.int 4, .int 3], jzv181) : jS)) rfl ?_
    refine jl_s (S' := ((9, [(3, .int 3), (2, .int 3), (4, .int (b2)), (0, .ref 64), (1, .int (xs 1))], [], jzv181) : jS)) rfl ?_
    refine jl_s (S' := ((10, [(3, .int 3), (2, .int 3), (4, .int (b2)), (0, .ref 64), (1, .int (xs 1))], [.int (xs 1)], jzv181) : jS)) rfl ?_
    refine jl_s (S' := ((12, [(3, .int 3), (2, .int 3), (4, .int (b2)), (0, .ref 64), (1, .int (xs 1))], [.int 8, .int (xs 1)], jzv181) : jS)) rfl ?_
    refine jl_s (S' := ((13, [(3, .int 3), (2, .int 3), (4, .int (b2)), (0, .ref 64), (1, .int (xs 1))], [.int 3, .int 8, .int (xs 1)], jzv181) : jS)) rfl ?_
    refine jl_s (S' := ((14, [(3, .int 3), (2, .int 3), (4, .int (b2)), (0, .ref 64), (1, .int (xs 1))], [.int 24, .int (xs 1)], jzv181) : jS)) rfl ?_
    refine jl_s (S' := ((15, [(3, .int 3), (2, .int 3), (4, .int (b2)), (0, .ref 64), (1, .int (xs 1))], [.int ((Int32.toUInt32 (xs 1) >>> (Int32.toUInt32 24 &&& Int32.toUInt32 31)).toInt32)], jzv181) : jS)) rfl ?_
    refine jl_s (S' := ((18, [(3, .int 3), (2, .int 3), (4, .int (b2)), (0, .ref 64), (1, .int (xs 1))], [.int 255, .int ((Int32.toUInt32 (xs 1) >>> (Int32.toUInt32 24 &&& Int32.toUInt32 31)).toInt32)], jzv181) : jS)) rfl ?_
    refine jl_s (S' := ((19, [(3, .int 3), (2, .int 3), (4, .int (b2)), (0, .ref 64), (1, .int (xs 1))], [.int (((Int32.toUInt32 (xs 1) >>> (Int32.toUInt32 24 &&& Int32.toUInt32 31)).toInt32) &&& 255)], jzv181) : jS)) rfl ?_
    rw [e]
    refine jl_s (S' := ((21, [(4, .int (b3)), (3, .int 3), (2, .int 3), (0, .ref 64), (1, .int (xs 1))], [], jzv181) : jS)) rfl ?_
    refine jl_s (S' := ((23, [(4, .int (b3)), (3, .int 3), (2, .int 3), (0, .ref 64), (1, .int (xs 1))], [.int (b3)], jzv181) : jS)) rfl ?_
    refine jl_iff (e := jm20) (o := 34) rfl (h.1.1) ?_
    refine jl_s (S' := ((28, [(4, .int (b3)), (3, .int 3), (2, .int 3), (0, .ref 64), (1, .int (xs 1))], [.int (b3)], jzv181) : jS)) rfl ?_
    refine jl_s (S' := ((30, [(4, .int (b3)), (3, .int 3), (2, .int 3), (0, .ref 64), (1, .int (xs 1))], [.int 10, .int (b3)], jzv181) : jS)) rfl ?_
    refine jl_ict (e := jm20) (o := 27) rfl (h1) (t := 57) rfl ?_
    refine jl_s (S' := ((58, [(4, .int (b3)), (3, .int 3), (2, .int 3), (0, .ref 64), (1, .int (xs 1))], [.int 3], jzv181) : jS)) rfl ?_
    refine jl_s (S' := ((60, [(4, .int (b3)), (3, .int 3), (2, .int 3), (0, .ref 64), (1, .int (xs 1))], [.int (b3), .int 3], jzv181) : jS)) rfl ?_
    refine jl_ift (e := jm20) (o := 7) rfl (h.1.2) (t := 67) rfl ?_
    refine jl_s (S' := ((68, [(4, .int (b3)), (3, .int 3), (2, .int 3), (0, .ref 64), (1, .int (xs 1))], [.int 1, .int 3], jzv181) : jS)) rfl ?_
    refine jl_s (S' := ((69, [(4, .int (b3)), (3, .int 3), (2, .int 3), (0, .ref 64), (1, .int (xs 1))], [.int 4], jzv181) : jS)) rfl ?_
    refine jl_s (S' := ((70, [(2, .int 4), (4, .int (b3)), (3, .int 3), (0, .ref 64), (1, .int (xs 1))], [], jzv181) : jS)) rfl ?_
    refine jl_s (S' := ((73, [(3, .int 4), (2, .int 4), (4, .int (b3)), (0, .ref 64), (1, .int (xs 1))], [], jzv181) : jS)) rfl ?_
    refine jl_s (S' := ((4, [(3, .int 4), (2, .int 4), (4, .int (b3)), (0, .ref 64), (1, .int (xs 1))], [], jzv181) : jS)) rfl ?_
    exact jl_more hq
  · refine jl_s (S' := ((5, [(3, .int 3), (2, .int 3), (4, .int (b2)), (0, .ref 64), (1, .int (xs 1))], [.int 3], jzv181) : jS)) rfl ?_
    refine jl_s (S' := ((6, [(3, .int 3), (2, .int 3), (4, .int (b2)), (0, .ref 64), (1, .int (xs 1))], [.int 4, .int 3], jzv181) : jS)) rfl ?_
    refine jl_s (S' := ((9, [(3, .int 3), (2, .int 3), (4, .int (b2)), (0, .ref 64), (1, .int (xs 1))], [], jzv181) : jS)) rfl ?_
    refine jl_s (S' := ((10, [(3, .int 3), (2, .int 3), (4, .int (b2)), (0, .ref 64), (1, .int (xs 1))], [.int (xs 1)], jzv181) : jS)) rfl ?_
    refine jl_s (S' := ((12, [(3, .int 3), (2, .int 3), (4, .int (b2)), (0, .ref 64), (1, .int (xs 1))], [.int 8, .int (xs 1)], jzv181) : jS)) rfl ?_
    refine jl_s (S' := ((13, [(3, .int 3), (2, .int 3), (4, .int (b2)), (0, .ref 64), (1, .int (xs 1))], [.int 3, .int 8, .int (xs 1)], jzv181) : jS)) rfl ?_
    refine jl_s (S' := ((14, [(3, .int 3), (2, .int 3), (4, .int (b2)), (0, .ref 64), (1, .int (xs 1))], [.int 24, .int (xs 1)], jzv181) : jS)) rfl ?_
    refine jl_s (S' := ((15, [(3, .int 3), (2, .int 3), (4, .int (b2)), (0, .ref 64), (1, .int (xs 1))], [.int ((Int32.toUInt32 (xs 1) >>> (Int32.toUInt32 24 &&& Int32.toUInt32 31)).toInt32)], jzv181) : jS)) rfl ?_
    refine jl_s (S' := ((18, [(3, .int 3), (2, .int 3), (4, .int (b2)), (0, .ref 64), (1, .int (xs 1))], [.int 255, .int ((Int32.toUInt32 (xs 1) >>> (Int32.toUInt32 24 &&& Int32.toUInt32 31)).toInt32)], jzv181) : jS)) rfl ?_
    refine jl_s (S' := ((19, [(3, .int 3), (2, .int 3), (4, .int (b2)), (0, .ref 64), (1, .int (xs 1))], [.int (((Int32.toUInt32 (xs 1) >>> (Int32.toUInt32 24 &&& Int32.toUInt32 31)).toInt32) &&& 255)], jzv181) : jS)) rfl ?_
    rw [e]
    refine jl_s (S' := ((21, [(4, .int (b3)), (3, .int 3), (2, .int 3), (0, .ref 64), (1, .int (xs 1))], [], jzv181) : jS)) rfl ?_
    refine jl_s (S' := ((23, [(4, .int (b3)), (3, .int 3), (2, .int 3), (0, .ref 64), (1, .int (xs 1))], [.int (b3)], jzv181) : jS)) rfl ?_
    refine jl_iff (e := jm20) (o := 34) rfl (h.1.1) ?_
    refine jl_s (S' := ((28, [(4, .int (b3)), (3, .int 3), (2, .int 3), (0, .ref 64), (1, .int (xs 1))], [.int (b3)], jzv181) : jS)) rfl ?_
    refine jl_s (S' := ((30, [(4, .int (b3)), (3, .int 3), (2, .int 3), (0, .ref 64), (1, .int (xs 1))], [.int 10, .int (b3)], jzv181) : jS)) rfl ?_
    refine jl_icf (e := jm20) (o := 27) rfl (h1) ?_
    refine jl_s (S' := ((35, [(4, .int (b3)), (3, .int 3), (2, .int 3), (0, .ref 64), (1, .int (xs 1))], [.int (b3)], jzv181) : jS)) rfl ?_
    refine jl_s (S' := ((37, [(4, .int (b3)), (3, .int 3), (2, .int 3), (0, .ref 64), (1, .int (xs 1))], [.int 32, .int (b3)], jzv181) : jS)) rfl ?_
    refine jl_icf (e := jm20) (o := 10) rfl (h2) ?_
    refine jl_s (S' := ((42, [(4, .int (b3)), (3, .int 3), (2, .int 3), (0, .ref 64), (1, .int (xs 1))], [.int (b3)], jzv181) : jS)) rfl ?_
    refine jl_s (S' := ((44, [(4, .int (b3)), (3, .int 3), (2, .int 3), (0, .ref 64), (1, .int (xs 1))], [.int 126, .int (b3)], jzv181) : jS)) rfl ?_
    refine jl_ict (e := jm20) (o := 13) rfl (h3) (t := 57) rfl ?_
    refine jl_s (S' := ((58, [(4, .int (b3)), (3, .int 3), (2, .int 3), (0, .ref 64), (1, .int (xs 1))], [.int 3], jzv181) : jS)) rfl ?_
    refine jl_s (S' := ((60, [(4, .int (b3)), (3, .int 3), (2, .int 3), (0, .ref 64), (1, .int (xs 1))], [.int (b3), .int 3], jzv181) : jS)) rfl ?_
    refine jl_ift (e := jm20) (o := 7) rfl (h.1.2) (t := 67) rfl ?_
    refine jl_s (S' := ((68, [(4, .int (b3)), (3, .int 3), (2, .int 3), (0, .ref 64), (1, .int (xs 1))], [.int 1, .int 3], jzv181) : jS)) rfl ?_
    refine jl_s (S' := ((69, [(4, .int (b3)), (3, .int 3), (2, .int 3), (0, .ref 64), (1, .int (xs 1))], [.int 4], jzv181) : jS)) rfl ?_
    refine jl_s (S' := ((70, [(2, .int 4), (4, .int (b3)), (3, .int 3), (0, .ref 64), (1, .int (xs 1))], [], jzv181) : jS)) rfl ?_
    refine jl_s (S' := ((73, [(3, .int 4), (2, .int 4), (4, .int (b3)), (0, .ref 64), (1, .int (xs 1))], [], jzv181) : jS)) rfl ?_
    refine jl_s (S' := ((4, [(3, .int 4), (2, .int 4), (4, .int (b3)), (0, .ref 64), (1, .int (xs 1))], [], jzv181) : jS)) rfl ?_
    exact hq
set_option maxHeartbeats 4000000 in
set_option maxRecDepth 100000 in
theorem jzq453 (xs : Nat → Int32) (b0 b1 b2 b3 : Int32) {f : Nat} {q : jO × jH} (hq : jLoop (jRun ((4, xs) : jX) 2000 37) ((4, xs) : jX) jm20 f ((100, [(3, .int 0), (2, .int 4), (4, .int (b3)), (0, .ref 64), (1, .int (xs 1))], [], jzv181) : jS) = some q) : jLoop (jRun ((4, xs) : jX) 2000 37) ((4, xs) : jX) jm20 (f + 11) ((4, [(3, .int 4), (2, .int 4), (4, .int (b3)), (0, .ref 64), (1, .int (xs 1))], [], jzv181) : jS) = some q := by
  refine jl_s (S' := ((5, [(3, .int 4), (2, .int 4), (4, .int (b3)), (0, .ref 64), (1, .int (xs 1))], [.int 4], jzv181) : jS)) rfl ?_
  refine jl_s (S' := ((6, [(3, .int 4), (2, .int 4), (4, .int (b3)), (0, .ref 64), (1, .int (xs 1))], [.int 4, .int 4], jzv181) : jS)) rfl ?_
  refine jl_s (S' := ((76, [(3, .int 4), (2, .int 4), (4, .int (b3)), (0, .ref 64), (1, .int (xs 1))], [], jzv181) : jS)) rfl ?_
  refine jl_s (S' := ((77, [(3, .int 4), (2, .int 4), (4, .int (b3)), (0, .ref 64), (1, .int (xs 1))], [.ref 64], jzv181) : jS)) rfl ?_
  refine jl_s (S' := ((80, [(3, .int 4), (2, .int 4), (4, .int (b3)), (0, .ref 64), (1, .int (xs 1))], [.int 0], jzv181) : jS)) rfl ?_
  refine jl_s (S' := ((81, [(3, .int 4), (2, .int 4), (4, .int (b3)), (0, .ref 64), (1, .int (xs 1))], [.int 4, .int 0], jzv181) : jS)) rfl ?_
  refine jl_s (S' := ((82, [(3, .int 4), (2, .int 4), (4, .int (b3)), (0, .ref 64), (1, .int (xs 1))], [.int 4], jzv181) : jS)) rfl ?_
  refine jl_s (S' := ((85, [(3, .int 4), (2, .int 4), (4, .int (b3)), (0, .ref 64), (1, .int (xs 1))], [.int 3000, .int 4], jzv181) : jS)) rfl ?_
  refine jl_s (S' := ((98, [(3, .int 4), (2, .int 4), (4, .int (b3)), (0, .ref 64), (1, .int (xs 1))], [], jzv181) : jS)) rfl ?_
  refine jl_s (S' := ((99, [(3, .int 4), (2, .int 4), (4, .int (b3)), (0, .ref 64), (1, .int (xs 1))], [.int 0], jzv181) : jS)) rfl ?_
  refine jl_s (S' := ((100, [(3, .int 0), (2, .int 4), (4, .int (b3)), (0, .ref 64), (1, .int (xs 1))], [], jzv181) : jS)) rfl ?_
  exact hq
set_option maxHeartbeats 4000000 in
set_option maxRecDepth 100000 in
theorem jzq455 (xs : Nat → Int32) (b0 b1 b2 b3 : Int32) (e : ((Int32.toUInt32 (xs 1) >>> (Int32.toUInt32 0 &&& Int32.toUInt32 31)).toInt32) &&& 255 = b0) (h : jbn b0) {f : Nat} {q : jO × jH} (hq : jLoop (jRun ((4, xs) : jX) 2000 37) ((4, xs) : jX) jm20 f ((100, [(3, .int 1), (4, .int (b0)), (2, .int 4), (0, .ref 64), (1, .int (xs 1))], [], (jzv276 b0 b1 b2 b3)) : jS) = some q) : jLoop (jRun ((4, xs) : jX) 2000 37) ((4, xs) : jX) jm20 (f + 32) ((100, [(3, .int 0), (2, .int 4), (4, .int (b3)), (0, .ref 64), (1, .int (xs 1))], [], jzv181) : jS) = some q := by
  refine jl_s (S' := ((101, [(3, .int 0), (2, .int 4), (4, .int (b3)), (0, .ref 64), (1, .int (xs 1))], [.int 0], jzv181) : jS)) rfl ?_
  refine jl_s (S' := ((102, [(3, .int 0), (2, .int 4), (4, .int (b3)), (0, .ref 64), (1, .int (xs 1))], [.int 4, .int 0], jzv181) : jS)) rfl ?_
  refine jl_s (S' := ((105, [(3, .int 0), (2, .int 4), (4, .int (b3)), (0, .ref 64), (1, .int (xs 1))], [], jzv181) : jS)) rfl ?_
  refine jl_s (S' := ((106, [(3, .int 0), (2, .int 4), (4, .int (b3)), (0, .ref 64), (1, .int (xs 1))], [.int (xs 1)], jzv181) : jS)) rfl ?_
  refine jl_s (S' := ((108, [(3, .int 0), (2, .int 4), (4, .int (b3)), (0, .ref 64), (1, .int (xs 1))], [.int 8, .int (xs 1)], jzv181) : jS)) rfl ?_
  refine jl_s (S' := ((109, [(3, .int 0), (2, .int 4), (4, .int (b3)), (0, .ref 64), (1, .int (xs 1))], [.int 0, .int 8, .int (xs 1)], jzv181) : jS)) rfl ?_
  refine jl_s (S' := ((110, [(3, .int 0), (2, .int 4), (4, .int (b3)), (0, .ref 64), (1, .int (xs 1))], [.int 0, .int (xs 1)], jzv181) : jS)) rfl ?_
  refine jl_s (S' := ((111, [(3, .int 0), (2, .int 4), (4, .int (b3)), (0, .ref 64), (1, .int (xs 1))], [.int ((Int32.toUInt32 (xs 1) >>> (Int32.toUInt32 0 &&& Int32.toUInt32 31)).toInt32)], jzv181) : jS)) rfl ?_
  refine jl_s (S' := ((114, [(3, .int 0), (2, .int 4), (4, .int (b3)), (0, .ref 64), (1, .int (xs 1))], [.int 255, .int ((Int32.toUInt32 (xs 1) >>> (Int32.toUInt32 0 &&& Int32.toUInt32 31)).toInt32)], jzv181) : jS)) rfl ?_
  refine jl_s (S' := ((115, [(3, .int 0), (2, .int 4), (4, .int (b3)), (0, .ref 64), (1, .int (xs 1))], [.int (((Int32.toUInt32 (xs 1) >>> (Int32.toUInt32 0 &&& Int32.toUInt32 31)).toInt32) &&& 255)], jzv181) : jS)) rfl ?_
  rw [e]
  refine jl_s (S' := ((117, [(4, .int (b0)), (3, .int 0), (2, .int 4), (0, .ref 64), (1, .int (xs 1))], [], jzv181) : jS)) rfl ?_
  refine jl_s (S' := ((119, [(4, .int (b0)), (3, .int 0), (2, .int 4), (0, .ref 64), (1, .int (xs 1))], [.int (b0)], jzv181) : jS)) rfl ?_
  refine jl_iff (e := jm20) (o := 35) rfl (h.1) ?_
  refine jl_s (S' := ((123, [(4, .int (b0)), (3, .int 0), (2, .int 4), (0, .ref 64), (1, .int (xs 1))], [.ref 64], jzv181) : jS)) rfl ?_
  refine jl_s (S' := ((126, [(4, .int (b0)), (3, .int 0), (2, .int 4), (0, .ref 64), (1, .int (xs 1))], [.int 0], jzv181) : jS)) rfl ?_
  refine jl_s (S' := ((129, [(4, .int (b0)), (3, .int 0), (2, .int 4), (0, .ref 64), (1, .int (xs 1))], [.int 3000, .int 0], jzv181) : jS)) rfl ?_
  refine jl_s (S' := ((132, [(4, .int (b0)), (3, .int 0), (2, .int 4), (0, .ref 64), (1, .int (xs 1))], [], jzv181) : jS)) rfl ?_
  refine jl_s (S' := ((133, [(4, .int (b0)), (3, .int 0), (2, .int 4), (0, .ref 64), (1, .int (xs 1))], [.ref 64], jzv181) : jS)) rfl ?_
  refine jl_s (S' := ((136, [(4, .int (b0)), (3, .int 0), (2, .int 4), (0, .ref 64), (1, .int (xs 1))], [.ref 65], jzv181) : jS)) rfl ?_
  refine jl_s (S' := ((137, [(4, .int (b0)), (3, .int 0), (2, .int 4), (0, .ref 64), (1, .int (xs 1))], [.ref 64, .ref 65], jzv181) : jS)) rfl ?_
  refine jl_s (S' := ((140, [(4, .int (b0)), (3, .int 0), (2, .int 4), (0, .ref 64), (1, .int (xs 1))], [.int 0, .ref 65], jzv181) : jS)) rfl ?_
  refine jl_s (S' := ((142, [(4, .int (b0)), (3, .int 0), (2, .int 4), (0, .ref 64), (1, .int (xs 1))], [.int (b0), .int 0, .ref 65], jzv181) : jS)) rfl ?_
  refine jl_s (S' := ((143, [(4, .int (b0)), (3, .int 0), (2, .int 4), (0, .ref 64), (1, .int (xs 1))], [.int ((b0).toInt8.toInt32), .int 0, .ref 65], jzv181) : jS)) rfl ?_
  refine jl_s (S' := ((144, [(4, .int (b0)), (3, .int 0), (2, .int 4), (0, .ref 64), (1, .int (xs 1))], [], (jzv275 b0 b1 b2 b3)) : jS)) rfl ?_
  refine jl_s (S' := ((145, [(4, .int (b0)), (3, .int 0), (2, .int 4), (0, .ref 64), (1, .int (xs 1))], [.ref 64], (jzv275 b0 b1 b2 b3)) : jS)) rfl ?_
  refine jl_s (S' := ((146, [(4, .int (b0)), (3, .int 0), (2, .int 4), (0, .ref 64), (1, .int (xs 1))], [.ref 64, .ref 64], (jzv275 b0 b1 b2 b3)) : jS)) rfl ?_
  refine jl_s (S' := ((149, [(4, .int (b0)), (3, .int 0), (2, .int 4), (0, .ref 64), (1, .int (xs 1))], [.int 0, .ref 64], (jzv275 b0 b1 b2 b3)) : jS)) rfl ?_
  refine jl_s (S' := ((150, [(4, .int (b0)), (3, .int 0), (2, .int 4), (0, .ref 64), (1, .int (xs 1))], [.int 1, .int 0, .ref 64], (jzv275 b0 b1 b2 b3)) : jS)) rfl ?_
  refine jl_s (S' := ((151, [(4, .int (b0)), (3, .int 0), (2, .int 4), (0, .ref 64), (1, .int (xs 1))], [.int 1, .ref 64], (jzv275 b0 b1 b2 b3)) : jS)) rfl ?_
  refine jl_s (S' := ((154, [(4, .int (b0)), (3, .int 0), (2, .int 4), (0, .ref 64), (1, .int (xs 1))], [], (jzv276 b0 b1 b2 b3)) : jS)) rfl ?_
  refine jl_s (S' := ((157, [(3, .int 1), (4, .int (b0)), (2, .int 4), (0, .ref 64), (1, .int (xs 1))], [], (jzv276 b0 b1 b2 b3)) : jS)) rfl ?_
  refine jl_s (S' := ((100, [(3, .int 1), (4, .int (b0)), (2, .int 4), (0, .ref 64), (1, .int (xs 1))], [], (jzv276 b0 b1 b2 b3)) : jS)) rfl ?_
  exact hq
set_option maxHeartbeats 4000000 in
set_option maxRecDepth 100000 in
theorem jzq457 (xs : Nat → Int32) (b0 b1 b2 b3 : Int32) (e : ((Int32.toUInt32 (xs 1) >>> (Int32.toUInt32 8 &&& Int32.toUInt32 31)).toInt32) &&& 255 = b1) (h : jbn b1) {f : Nat} {q : jO × jH} (hq : jLoop (jRun ((4, xs) : jX) 2000 37) ((4, xs) : jX) jm20 f ((100, [(3, .int 2), (4, .int (b1)), (2, .int 4), (0, .ref 64), (1, .int (xs 1))], [], (jzv284 b0 b1 b2 b3)) : jS) = some q) : jLoop (jRun ((4, xs) : jX) 2000 37) ((4, xs) : jX) jm20 (f + 32) ((100, [(3, .int 1), (4, .int (b0)), (2, .int 4), (0, .ref 64), (1, .int (xs 1))], [], (jzv276 b0 b1 b2 b3)) : jS) = some q := by
  refine jl_s (S' := ((101, [(3, .int 1), (4, .int (b0)), (2, .int 4), (0, .ref 64), (1, .int (xs 1))], [.int 1], (jzv276 b0 b1 b2 b3)) : jS)) rfl ?_
  refine jl_s (S' := ((102, [(3, .int 1), (4, .int (b0)), (2, .int 4), (0, .ref 64), (1, .int (xs 1))], [.int 4, .int 1], (jzv276 b0 b1 b2 b3)) : jS)) rfl ?_
  refine jl_s (S' := ((105, [(3, .int 1), (4, .int (b0)), (2, .int 4), (0, .ref 64), (1, .int (xs 1))], [], (jzv276 b0 b1 b2 b3)) : jS)) rfl ?_
  refine jl_s (S' := ((106, [(3, .int 1), (4, .int (b0)), (2, .int 4), (0, .ref 64), (1, .int (xs 1))], [.int (xs 1)], (jzv276 b0 b1 b2 b3)) : jS)) rfl ?_
  refine jl_s (S' := ((108, [(3, .int 1), (4, .int (b0)), (2, .int 4), (0, .ref 64), (1, .int (xs 1))], [.int 8, .int (xs 1)], (jzv276 b0 b1 b2 b3)) : jS)) rfl ?_
  refine jl_s (S' := ((109, [(3, .int 1), (4, .int (b0)), (2, .int 4), (0, .ref 64), (1, .int (xs 1))], [.int 1, .int 8, .int (xs 1)], (jzv276 b0 b1 b2 b3)) : jS)) rfl ?_
  refine jl_s (S' := ((110, [(3, .int 1), (4, .int (b0)), (2, .int 4), (0, .ref 64), (1, .int (xs 1))], [.int 8, .int (xs 1)], (jzv276 b0 b1 b2 b3)) : jS)) rfl ?_
  refine jl_s (S' := ((111, [(3, .int 1), (4, .int (b0)), (2, .int 4), (0, .ref 64), (1, .int (xs 1))], [.int ((Int32.toUInt32 (xs 1) >>> (Int32.toUInt32 8 &&& Int32.toUInt32 31)).toInt32)], (jzv276 b0 b1 b2 b3)) : jS)) rfl ?_
  refine jl_s (S' := ((114, [(3, .int 1), (4, .int (b0)), (2, .int 4), (0, .ref 64), (1, .int (xs 1))], [.int 255, .int ((Int32.toUInt32 (xs 1) >>> (Int32.toUInt32 8 &&& Int32.toUInt32 31)).toInt32)], (jzv276 b0 b1 b2 b3)) : jS)) rfl ?_
  refine jl_s (S' := ((115, [(3, .int 1), (4, .int (b0)), (2, .int 4), (0, .ref 64), (1, .int (xs 1))], [.int (((Int32.toUInt32 (xs 1) >>> (Int32.toUInt32 8 &&& Int32.toUInt32 31)).toInt32) &&& 255)], (jzv276 b0 b1 b2 b3)) : jS)) rfl ?_
  rw [e]
  refine jl_s (S' := ((117, [(4, .int (b1)), (3, .int 1), (2, .int 4), (0, .ref 64), (1, .int (xs 1))], [], (jzv276 b0 b1 b2 b3)) : jS)) rfl ?_
  refine jl_s (S' := ((119, [(4, .int (b1)), (3, .int 1), (2, .int 4), (0, .ref 64), (1, .int (xs 1))], [.int (b1)], (jzv276 b0 b1 b2 b3)) : jS)) rfl ?_
  refine jl_iff (e := jm20) (o := 35) rfl (h.1) ?_
  refine jl_s (S' := ((123, [(4, .int (b1)), (3, .int 1), (2, .int 4), (0, .ref 64), (1, .int (xs 1))], [.ref 64], (jzv276 b0 b1 b2 b3)) : jS)) rfl ?_
  refine jl_s (S' := ((126, [(4, .int (b1)), (3, .int 1), (2, .int 4), (0, .ref 64), (1, .int (xs 1))], [.int 1], (jzv276 b0 b1 b2 b3)) : jS)) rfl ?_
  refine jl_s (S' := ((129, [(4, .int (b1)), (3, .int 1), (2, .int 4), (0, .ref 64), (1, .int (xs 1))], [.int 3000, .int 1], (jzv276 b0 b1 b2 b3)) : jS)) rfl ?_
  refine jl_s (S' := ((132, [(4, .int (b1)), (3, .int 1), (2, .int 4), (0, .ref 64), (1, .int (xs 1))], [], (jzv276 b0 b1 b2 b3)) : jS)) rfl ?_
  refine jl_s (S' := ((133, [(4, .int (b1)), (3, .int 1), (2, .int 4), (0, .ref 64), (1, .int (xs 1))], [.ref 64], (jzv276 b0 b1 b2 b3)) : jS)) rfl ?_
  refine jl_s (S' := ((136, [(4, .int (b1)), (3, .int 1), (2, .int 4), (0, .ref 64), (1, .int (xs 1))], [.ref 65], (jzv276 b0 b1 b2 b3)) : jS)) rfl ?_
  refine jl_s (S' := ((137, [(4, .int (b1)), (3, .int 1), (2, .int 4), (0, .ref 64), (1, .int (xs 1))], [.ref 64, .ref 65], (jzv276 b0 b1 b2 b3)) : jS)) rfl ?_
  refine jl_s (S' := ((140, [(4, .int (b1)), (3, .int 1), (2, .int 4), (0, .ref 64), (1, .int (xs 1))], [.int 1, .ref 65], (jzv276 b0 b1 b2 b3)) : jS)) rfl ?_
  refine jl_s (S' := ((142, [(4, .int (b1)), (3, .int 1), (2, .int 4), (0, .ref 64), (1, .int (xs 1))], [.int (b1), .int 1, .ref 65], (jzv276 b0 b1 b2 b3)) : jS)) rfl ?_
  refine jl_s (S' := ((143, [(4, .int (b1)), (3, .int 1), (2, .int 4), (0, .ref 64), (1, .int (xs 1))], [.int ((b1).toInt8.toInt32), .int 1, .ref 65], (jzv276 b0 b1 b2 b3)) : jS)) rfl ?_
  refine jl_s (S' := ((144, [(4, .int (b1)), (3, .int 1), (2, .int 4), (0, .ref 64), (1, .int (xs 1))], [], (jzv283 b0 b1 b2 b3)) : jS)) rfl ?_
  refine jl_s (S' := ((145, [(4, .int (b1)), (3, .int 1), (2, .int 4), (0, .ref 64), (1, .int (xs 1))], [.ref 64], (jzv283 b0 b1 b2 b3)) : jS)) rfl ?_
  refine jl_s (S' := ((146, [(4, .int (b1)), (3, .int 1), (2, .int 4), (0, .ref 64), (1, .int (xs 1))], [.ref 64, .ref 64], (jzv283 b0 b1 b2 b3)) : jS)) rfl ?_
  refine jl_s (S' := ((149, [(4, .int (b1)), (3, .int 1), (2, .int 4), (0, .ref 64), (1, .int (xs 1))], [.int 1, .ref 64], (jzv283 b0 b1 b2 b3)) : jS)) rfl ?_
  refine jl_s (S' := ((150, [(4, .int (b1)), (3, .int 1), (2, .int 4), (0, .ref 64), (1, .int (xs 1))], [.int 1, .int 1, .ref 64], (jzv283 b0 b1 b2 b3)) : jS)) rfl ?_
  refine jl_s (S' := ((151, [(4, .int (b1)), (3, .int 1), (2, .int 4), (0, .ref 64), (1, .int (xs 1))], [.int 2, .ref 64], (jzv283 b0 b1 b2 b3)) : jS)) rfl ?_
  refine jl_s (S' := ((154, [(4, .int (b1)), (3, .int 1), (2, .int 4), (0, .ref 64), (1, .int (xs 1))], [], (jzv284 b0 b1 b2 b3)) : jS)) rfl ?_
  refine jl_s (S' := ((157, [(3, .int 2), (4, .int (b1)), (2, .int 4), (0, .ref 64), (1, .int (xs 1))], [], (jzv284 b0 b1 b2 b3)) : jS)) rfl ?_
  refine jl_s (S' := ((100, [(3, .int 2), (4, .int (b1)), (2, .int 4), (0, .ref 64), (1, .int (xs 1))], [], (jzv284 b0 b1 b2 b3)) : jS)) rfl ?_
  exact hq
set_option maxHeartbeats 4000000 in
set_option maxRecDepth 100000 in
theorem jzq459 (xs : Nat → Int32) (b0 b1 b2 b3 : Int32) (e : ((Int32.toUInt32 (xs 1) >>> (Int32.toUInt32 16 &&& Int32.toUInt32 31)).toInt32) &&& 255 = b2) (h : jbn b2) {f : Nat} {q : jO × jH} (hq : jLoop (jRun ((4, xs) : jX) 2000 37) ((4, xs) : jX) jm20 f ((100, [(3, .int 3), (4, .int (b2)), (2, .int 4), (0, .ref 64), (1, .int (xs 1))], [], (jzv288 b0 b1 b2 b3)) : jS) = some q) : jLoop (jRun ((4, xs) : jX) 2000 37) ((4, xs) : jX) jm20 (f + 32) ((100, [(3, .int 2), (4, .int (b1)), (2, .int 4), (0, .ref 64), (1, .int (xs 1))], [], (jzv284 b0 b1 b2 b3)) : jS) = some q := by
  refine jl_s (S' := ((101, [(3, .int 2), (4, .int (b1)), (2, .int 4), (0, .ref 64), (1, .int (xs 1))], [.int 2], (jzv284 b0 b1 b2 b3)) : jS)) rfl ?_
  refine jl_s (S' := ((102, [(3, .int 2), (4, .int (b1)), (2, .int 4), (0, .ref 64), (1, .int (xs 1))], [.int 4, .int 2], (jzv284 b0 b1 b2 b3)) : jS)) rfl ?_
  refine jl_s (S' := ((105, [(3, .int 2), (4, .int (b1)), (2, .int 4), (0, .ref 64), (1, .int (xs 1))], [], (jzv284 b0 b1 b2 b3)) : jS)) rfl ?_
  refine jl_s (S' := ((106, [(3, .int 2), (4, .int (b1)), (2, .int 4), (0, .ref 64), (1, .int (xs 1))], [.int (xs 1)], (jzv284 b0 b1 b2 b3)) : jS)) rfl ?_
  refine jl_s (S' := ((108, [(3, .int 2), (4, .int (b1)), (2, .int 4), (0, .ref 64), (1, .int (xs 1))], [.int 8, .int (xs 1)], (jzv284 b0 b1 b2 b3)) : jS)) rfl ?_
  refine jl_s (S' := ((109, [(3, .int 2), (4, .int (b1)), (2, .int 4), (0, .ref 64), (1, .int (xs 1))], [.int 2, .int 8, .int (xs 1)], (jzv284 b0 b1 b2 b3)) : jS)) rfl ?_
  refine jl_s (S' := ((110, [(3, .int 2), (4, .int (b1)), (2, .int 4), (0, .ref 64), (1, .int (xs 1))], [.int 16, .int (xs 1)], (jzv284 b0 b1 b2 b3)) : jS)) rfl ?_
  refine jl_s (S' := ((111, [(3, .int 2), (4, .int (b1)), (2, .int 4), (0, .ref 64), (1, .int (xs 1))], [.int ((Int32.toUInt32 (xs 1) >>> (Int32.toUInt32 16 &&& Int32.toUInt32 31)).toInt32)], (jzv284 b0 b1 b2 b3)) : jS)) rfl ?_
  refine jl_s (S' := ((114, [(3, .int 2), (4, .int (b1)), (2, .int 4), (0, .ref 64), (1, .int (xs 1))], [.int 255, .int ((Int32.toUInt32 (xs 1) >>> (Int32.toUInt32 16 &&& Int32.toUInt32 31)).toInt32)], (jzv284 b0 b1 b2 b3)) : jS)) rfl ?_
  refine jl_s (S' := ((115, [(3, .int 2), (4, .int (b1)), (2, .int 4), (0, .ref 64), (1, .int (xs 1))], [.int (((Int32.toUInt32 (xs 1) >>> (Int32.toUInt32 16 &&& Int32.toUInt32 31)).toInt32) &&& 255)], (jzv284 b0 b1 b2 b3)) : jS)) rfl ?_
  rw [e]
  refine jl_s (S' := ((117, [(4, .int (b2)), (3, .int 2), (2, .int 4), (0, .ref 64), (1, .int (xs 1))], [], (jzv284 b0 b1 b2 b3)) : jS)) rfl ?_
  refine jl_s (S' := ((119, [(4, .int (b2)), (3, .int 2), (2, .int 4), (0, .ref 64), (1, .int (xs 1))], [.int (b2)], (jzv284 b0 b1 b2 b3)) : jS)) rfl ?_
  refine jl_iff (e := jm20) (o := 35) rfl (h.1) ?_
  refine jl_s (S' := ((123, [(4, .int (b2)), (3, .int 2), (2, .int 4), (0, .ref 64), (1, .int (xs 1))], [.ref 64], (jzv284 b0 b1 b2 b3)) : jS)) rfl ?_
  refine jl_s (S' := ((126, [(4, .int (b2)), (3, .int 2), (2, .int 4), (0, .ref 64), (1, .int (xs 1))], [.int 2], (jzv284 b0 b1 b2 b3)) : jS)) rfl ?_
  refine jl_s (S' := ((129, [(4, .int (b2)), (3, .int 2), (2, .int 4), (0, .ref 64), (1, .int (xs 1))], [.int 3000, .int 2], (jzv284 b0 b1 b2 b3)) : jS)) rfl ?_
  refine jl_s (S' := ((132, [(4, .int (b2)), (3, .int 2), (2, .int 4), (0, .ref 64), (1, .int (xs 1))], [], (jzv284 b0 b1 b2 b3)) : jS)) rfl ?_
  refine jl_s (S' := ((133, [(4, .int (b2)), (3, .int 2), (2, .int 4), (0, .ref 64), (1, .int (xs 1))], [.ref 64], (jzv284 b0 b1 b2 b3)) : jS)) rfl ?_
  refine jl_s (S' := ((136, [(4, .int (b2)), (3, .int 2), (2, .int 4), (0, .ref 64), (1, .int (xs 1))], [.ref 65], (jzv284 b0 b1 b2 b3)) : jS)) rfl ?_
  refine jl_s (S' := ((137, [(4, .int (b2)), (3, .int 2), (2, .int 4), (0, .ref 64), (1, .int (xs 1))], [.ref 64, .ref 65], (jzv284 b0 b1 b2 b3)) : jS)) rfl ?_
  refine jl_s (S' := ((140, [(4, .int (b2)), (3, .int 2), (2, .int 4), (0, .ref 64), (1, .int (xs 1))], [.int 2, .ref 65], (jzv284 b0 b1 b2 b3)) : jS)) rfl ?_
  refine jl_s (S' := ((142, [(4, .int (b2)), (3, .int 2), (2, .int 4), (0, .ref 64), (1, .int (xs 1))], [.int (b2), .int 2, .ref 65], (jzv284 b0 b1 b2 b3)) : jS)) rfl ?_
  refine jl_s (S' := ((143, [(4, .int (b2)), (3, .int 2), (2, .int 4), (0, .ref 64), (1, .int (xs 1))], [.int ((b2).toInt8.toInt32), .int 2, .ref 65], (jzv284 b0 b1 b2 b3)) : jS)) rfl ?_
  refine jl_s (S' := ((144, [(4, .int (b2)), (3, .int 2), (2, .int 4), (0, .ref 64), (1, .int (xs 1))], [], (jzv287 b0 b1 b2 b3)) : jS)) rfl ?_
  refine jl_s (S' := ((145, [(4, .int (b2)), (3, .int 2), (2, .int 4), (0, .ref 64), (1, .int (xs 1))], [.ref 64], (jzv287 b0 b1 b2 b3)) : jS)) rfl ?_
  refine jl_s (S' := ((146, [(4, .int (b2)), (3, .int 2), (2, .int 4), (0, .ref 64), (1, .int (xs 1))], [.ref 64, .ref 64], (jzv287 b0 b1 b2 b3)) : jS)) rfl ?_
  refine jl_s (S' := ((149, [(4, .int (b2)), (3, .int 2), (2, .int 4), (0, .ref 64), (1, .int (xs 1))], [.int 2, .ref 64], (jzv287 b0 b1 b2 b3)) : jS)) rfl ?_
  refine jl_s (S' := ((150, [(4, .int (b2)), (3, .int 2), (2, .int 4), (0, .ref 64), (1, .int (xs 1))], [.int 1, .int 2, .ref 64], (jzv287 b0 b1 b2 b3)) : jS)) rfl ?_
  refine jl_s (S' := ((151, [(4, .int (b2)), (3, .int 2), (2, .int 4), (0, .ref 64), (1, .int (xs 1))], [.int 3, .ref 64], (jzv287 b0 b1 b2 b3)) : jS)) rfl ?_
  refine jl_s (S' := ((154, [(4, .int (b2)), (3, .int 2), (2, .int 4), (0, .ref 64), (1, .int (xs 1))], [], (jzv288 b0 b1 b2 b3)) : jS)) rfl ?_
  refine jl_s (S' := ((157, [(3, .int 3), (4, .int (b2)), (2, .int 4), (0, .ref 64), (1, .int (xs 1))], [], (jzv288 b0 b1 b2 b3)) : jS)) rfl ?_
  refine jl_s (S' := ((100, [(3, .int 3), (4, .int (b2)), (2, .int 4), (0, .ref 64), (1, .int (xs 1))], [], (jzv288 b0 b1 b2 b3)) : jS)) rfl ?_
  exact hq
def jzc198 (b0 b1 b2 b3 : Int32) : jC := .inl (0, 3000, .inl (upd (upd (upd (upd (fun _ => 0) 0 (vp_nar .byte ((b0).toInt8.toInt32))) 1 (vp_nar .byte ((b1).toInt8.toInt32))) 2 (vp_nar .byte ((b2).toInt8.toInt32))) 3 (vp_nar .byte ((b3).toInt8.toInt32))))
def jzv289 (b0 b1 b2 b3 : Int32) : jH := [jzc190, (jzc198 b0 b1 b2 b3), jzc117, jzc7, jzc9, jzc9, jzc9, jzc9, jzc9, jzc17, jzc19, jzc19, jzc19, jzc19, jzc19, jzc19, jzc19, jzc19, jzc28, jzc28, jzc28, jzc28, jzc28, jzc28, jzc28, jzc28, jzc28, jzc28, jzc28, jzc28, jzc28, jzc28, jzc43, jzc43, jzc43, jzc43, jzc43, jzc49, jzc49, jzc52, jzc52, jzc52, jzc56, jzc56, jzc59, jzc56, jzc62, jzc28, jzc28, jzc28, jzc28, jzc28, jzc69, jzc71, jzc73, jzc43, jzc76, jzc52, jzc52, jzc80, jzc80, jzc80, jzc84, jzc52, jzc52, jzc52, jzc52, jzc52, jzc52, jzc52, jzc93, jzc93, jzc52, jzc52, jzc98, jzc100, jzc93, jzc52, jzc52, jzc52, jzc52, jzc107, jzc109, jzc111, jzc100, jzc100, jzc100, jzc111, jzc111, jzc118]
def jzc199 : jC := .inr (0, [.ref 65, .int 4, .int 0, .int (-1), .int (-1), .null, .null])
def jzv290 (b0 b1 b2 b3 : Int32) : jH := [jzc199, (jzc198 b0 b1 b2 b3), jzc117, jzc7, jzc9, jzc9, jzc9, jzc9, jzc9, jzc17, jzc19, jzc19, jzc19, jzc19, jzc19, jzc19, jzc19, jzc19, jzc28, jzc28, jzc28, jzc28, jzc28, jzc28, jzc28, jzc28, jzc28, jzc28, jzc28, jzc28, jzc28, jzc28, jzc43, jzc43, jzc43, jzc43, jzc43, jzc49, jzc49, jzc52, jzc52, jzc52, jzc56, jzc56, jzc59, jzc56, jzc62, jzc28, jzc28, jzc28, jzc28, jzc28, jzc69, jzc71, jzc73, jzc43, jzc76, jzc52, jzc52, jzc80, jzc80, jzc80, jzc84, jzc52, jzc52, jzc52, jzc52, jzc52, jzc52, jzc52, jzc93, jzc93, jzc52, jzc52, jzc98, jzc100, jzc93, jzc52, jzc52, jzc52, jzc52, jzc107, jzc109, jzc111, jzc100, jzc100, jzc100, jzc111, jzc111, jzc118]
set_option maxHeartbeats 4000000 in
set_option maxRecDepth 100000 in
theorem jzq461 (xs : Nat → Int32) (b0 b1 b2 b3 : Int32) (e : ((Int32.toUInt32 (xs 1) >>> (Int32.toUInt32 24 &&& Int32.toUInt32 31)).toInt32) &&& 255 = b3) (h : jbn b3) {f : Nat} {q : jO × jH} (hq : jLoop (jRun ((4, xs) : jX) 2000 37) ((4, xs) : jX) jm20 f ((100, [(3, .int 4), (4, .int (b3)), (2, .int 4), (0, .ref 64), (1, .int (xs 1))], [], (jzv290 b0 b1 b2 b3)) : jS) = some q) : jLoop (jRun ((4, xs) : jX) 2000 37) ((4, xs) : jX) jm20 (f + 32) ((100, [(3, .int 3), (4, .int (b2)), (2, .int 4), (0, .ref 64), (1, .int (xs 1))], [], (jzv288 b0 b1 b2 b3)) : jS) = some q := by
  refine jl_s (S' := ((101, [(3, .int 3), (4, .int (b2)), (2, .int 4), (0, .ref 64), (1, .int (xs 1))], [.int 3], (jzv288 b0 b1 b2 b3)) : jS)) rfl ?_
  refine jl_s (S' := ((102, [(3, .int 3), (4, .int (b2)), (2, .int 4), (0, .ref 64), (1, .int (xs 1))], [.int 4, .int 3], (jzv288 b0 b1 b2 b3)) : jS)) rfl ?_
  refine jl_s (S' := ((105, [(3, .int 3), (4, .int (b2)), (2, .int 4), (0, .ref 64), (1, .int (xs 1))], [], (jzv288 b0 b1 b2 b3)) : jS)) rfl ?_
  refine jl_s (S' := ((106, [(3, .int 3), (4, .int (b2)), (2, .int 4), (0, .ref 64), (1, .int (xs 1))], [.int (xs 1)], (jzv288 b0 b1 b2 b3)) : jS)) rfl ?_
  refine jl_s (S' := ((108, [(3, .int 3), (4, .int (b2)), (2, .int 4), (0, .ref 64), (1, .int (xs 1))], [.int 8, .int (xs 1)], (jzv288 b0 b1 b2 b3)) : jS)) rfl ?_
  refine jl_s (S' := ((109, [(3, .int 3), (4, .int (b2)), (2, .int 4), (0, .ref 64), (1, .int (xs 1))], [.int 3, .int 8, .int (xs 1)], (jzv288 b0 b1 b2 b3)) : jS)) rfl ?_
  refine jl_s (S' := ((110, [(3, .int 3), (4, .int (b2)), (2, .int 4), (0, .ref 64), (1, .int (xs 1))], [.int 24, .int (xs 1)], (jzv288 b0 b1 b2 b3)) : jS)) rfl ?_
  refine jl_s (S' := ((111, [(3, .int 3), (4, .int (b2)), (2, .int 4), (0, .ref 64), (1, .int (xs 1))], [.int ((Int32.toUInt32 (xs 1) >>> (Int32.toUInt32 24 &&& Int32.toUInt32 31)).toInt32)], (jzv288 b0 b1 b2 b3)) : jS)) rfl ?_
  refine jl_s (S' := ((114, [(3, .int 3), (4, .int (b2)), (2, .int 4), (0, .ref 64), (1, .int (xs 1))], [.int 255, .int ((Int32.toUInt32 (xs 1) >>> (Int32.toUInt32 24 &&& Int32.toUInt32 31)).toInt32)], (jzv288 b0 b1 b2 b3)) : jS)) rfl ?_
  refine jl_s (S' := ((115, [(3, .int 3), (4, .int (b2)), (2, .int 4), (0, .ref 64), (1, .int (xs 1))], [.int (((Int32.toUInt32 (xs 1) >>> (Int32.toUInt32 24 &&& Int32.toUInt32 31)).toInt32) &&& 255)], (jzv288 b0 b1 b2 b3)) : jS)) rfl ?_
  rw [e]
  refine jl_s (S' := ((117, [(4, .int (b3)), (3, .int 3), (2, .int 4), (0, .ref 64), (1, .int (xs 1))], [], (jzv288 b0 b1 b2 b3)) : jS)) rfl ?_
  refine jl_s (S' := ((119, [(4, .int (b3)), (3, .int 3), (2, .int 4), (0, .ref 64), (1, .int (xs 1))], [.int (b3)], (jzv288 b0 b1 b2 b3)) : jS)) rfl ?_
  refine jl_iff (e := jm20) (o := 35) rfl (h.1) ?_
  refine jl_s (S' := ((123, [(4, .int (b3)), (3, .int 3), (2, .int 4), (0, .ref 64), (1, .int (xs 1))], [.ref 64], (jzv288 b0 b1 b2 b3)) : jS)) rfl ?_
  refine jl_s (S' := ((126, [(4, .int (b3)), (3, .int 3), (2, .int 4), (0, .ref 64), (1, .int (xs 1))], [.int 3], (jzv288 b0 b1 b2 b3)) : jS)) rfl ?_
  refine jl_s (S' := ((129, [(4, .int (b3)), (3, .int 3), (2, .int 4), (0, .ref 64), (1, .int (xs 1))], [.int 3000, .int 3], (jzv288 b0 b1 b2 b3)) : jS)) rfl ?_
  refine jl_s (S' := ((132, [(4, .int (b3)), (3, .int 3), (2, .int 4), (0, .ref 64), (1, .int (xs 1))], [], (jzv288 b0 b1 b2 b3)) : jS)) rfl ?_
  refine jl_s (S' := ((133, [(4, .int (b3)), (3, .int 3), (2, .int 4), (0, .ref 64), (1, .int (xs 1))], [.ref 64], (jzv288 b0 b1 b2 b3)) : jS)) rfl ?_
  refine jl_s (S' := ((136, [(4, .int (b3)), (3, .int 3), (2, .int 4), (0, .ref 64), (1, .int (xs 1))], [.ref 65], (jzv288 b0 b1 b2 b3)) : jS)) rfl ?_
  refine jl_s (S' := ((137, [(4, .int (b3)), (3, .int 3), (2, .int 4), (0, .ref 64), (1, .int (xs 1))], [.ref 64, .ref 65], (jzv288 b0 b1 b2 b3)) : jS)) rfl ?_
  refine jl_s (S' := ((140, [(4, .int (b3)), (3, .int 3), (2, .int 4), (0, .ref 64), (1, .int (xs 1))], [.int 3, .ref 65], (jzv288 b0 b1 b2 b3)) : jS)) rfl ?_
  refine jl_s (S' := ((142, [(4, .int (b3)), (3, .int 3), (2, .int 4), (0, .ref 64), (1, .int (xs 1))], [.int (b3), .int 3, .ref 65], (jzv288 b0 b1 b2 b3)) : jS)) rfl ?_
  refine jl_s (S' := ((143, [(4, .int (b3)), (3, .int 3), (2, .int 4), (0, .ref 64), (1, .int (xs 1))], [.int ((b3).toInt8.toInt32), .int 3, .ref 65], (jzv288 b0 b1 b2 b3)) : jS)) rfl ?_
  refine jl_s (S' := ((144, [(4, .int (b3)), (3, .int 3), (2, .int 4), (0, .ref 64), (1, .int (xs 1))], [], (jzv289 b0 b1 b2 b3)) : jS)) rfl ?_
  refine jl_s (S' := ((145, [(4, .int (b3)), (3, .int 3), (2, .int 4), (0, .ref 64), (1, .int (xs 1))], [.ref 64], (jzv289 b0 b1 b2 b3)) : jS)) rfl ?_
  refine jl_s (S' := ((146, [(4, .int (b3)), (3, .int 3), (2, .int 4), (0, .ref 64), (1, .int (xs 1))], [.ref 64, .ref 64], (jzv289 b0 b1 b2 b3)) : jS)) rfl ?_
  refine jl_s (S' := ((149, [(4, .int (b3)), (3, .int 3), (2, .int 4), (0, .ref 64), (1, .int (xs 1))], [.int 3, .ref 64], (jzv289 b0 b1 b2 b3)) : jS)) rfl ?_
  refine jl_s (S' := ((150, [(4, .int (b3)), (3, .int 3), (2, .int 4), (0, .ref 64), (1, .int (xs 1))], [.int 1, .int 3, .ref 64], (jzv289 b0 b1 b2 b3)) : jS)) rfl ?_
  refine jl_s (S' := ((151, [(4, .int (b3)), (3, .int 3), (2, .int 4), (0, .ref 64), (1, .int (xs 1))], [.int 4, .ref 64], (jzv289 b0 b1 b2 b3)) : jS)) rfl ?_
  refine jl_s (S' := ((154, [(4, .int (b3)), (3, .int 3), (2, .int 4), (0, .ref 64), (1, .int (xs 1))], [], (jzv290 b0 b1 b2 b3)) : jS)) rfl ?_
  refine jl_s (S' := ((157, [(3, .int 4), (4, .int (b3)), (2, .int 4), (0, .ref 64), (1, .int (xs 1))], [], (jzv290 b0 b1 b2 b3)) : jS)) rfl ?_
  refine jl_s (S' := ((100, [(3, .int 4), (4, .int (b3)), (2, .int 4), (0, .ref 64), (1, .int (xs 1))], [], (jzv290 b0 b1 b2 b3)) : jS)) rfl ?_
  exact hq
set_option maxHeartbeats 4000000 in
set_option maxRecDepth 100000 in
theorem jzq463 (xs : Nat → Int32) (b0 b1 b2 b3 : Int32) {f : Nat} : jLoop (jRun ((4, xs) : jX) 2000 37) ((4, xs) : jX) jm20 (f + 6) ((100, [(3, .int 4), (4, .int (b3)), (2, .int 4), (0, .ref 64), (1, .int (xs 1))], [], (jzv290 b0 b1 b2 b3)) : jS) = some (.inl (some (.int 4)), (jzv290 b0 b1 b2 b3)) := by
  refine jl_s (S' := ((101, [(3, .int 4), (4, .int (b3)), (2, .int 4), (0, .ref 64), (1, .int (xs 1))], [.int 4], (jzv290 b0 b1 b2 b3)) : jS)) rfl ?_
  refine jl_s (S' := ((102, [(3, .int 4), (4, .int (b3)), (2, .int 4), (0, .ref 64), (1, .int (xs 1))], [.int 4, .int 4], (jzv290 b0 b1 b2 b3)) : jS)) rfl ?_
  refine jl_s (S' := ((160, [(3, .int 4), (4, .int (b3)), (2, .int 4), (0, .ref 64), (1, .int (xs 1))], [], (jzv290 b0 b1 b2 b3)) : jS)) rfl ?_
  refine jl_s (S' := ((161, [(3, .int 4), (4, .int (b3)), (2, .int 4), (0, .ref 64), (1, .int (xs 1))], [.ref 64], (jzv290 b0 b1 b2 b3)) : jS)) rfl ?_
  refine jl_s (S' := ((164, [(3, .int 4), (4, .int (b3)), (2, .int 4), (0, .ref 64), (1, .int (xs 1))], [.int 4], (jzv290 b0 b1 b2 b3)) : jS)) rfl ?_
  exact jl_r (r := (.inl (some (.int 4)), (jzv290 b0 b1 b2 b3))) rfl
set_option maxHeartbeats 4000000 in
set_option maxRecDepth 100000 in
theorem jzcp_VVVV (xs : Nat → Int32) (b0 b1 b2 b3 : Int32) (e0 : ((Int32.toUInt32 (xs 1) >>> (Int32.toUInt32 0 &&& Int32.toUInt32 31)).toInt32) &&& 255 = b0) (e1 : ((Int32.toUInt32 (xs 1) >>> (Int32.toUInt32 8 &&& Int32.toUInt32 31)).toInt32) &&& 255 = b1) (e2 : ((Int32.toUInt32 (xs 1) >>> (Int32.toUInt32 16 &&& Int32.toUInt32 31)).toInt32) &&& 255 = b2) (e3 : ((Int32.toUInt32 (xs 1) >>> (Int32.toUInt32 24 &&& Int32.toUInt32 31)).toInt32) &&& 255 = b3) (h0 : jbv b0) (h1 : jbv b1) (h2 : jbv b2) (h3 : jbv b3) : jRun ((4, xs) : jX) 2000 38 20 [.ref 64, .int (xs 1)] jzv181 = some (.inl (some (.int 4)), (jzv290 b0 b1 b2 b3)) := by
  refine jr_run (e := jm20) rfl (Nat.le_of_ble_eq_true rfl) ?_
  refine jzq267 xs b0 b1 b2 b3 ?_
  refine jzq378 xs b0 b1 b2 b3 e0 h0 ?_
  refine jzq419 xs b0 b1 b2 b3 e1 h1 ?_
  refine jzq440 xs b0 b1 b2 b3 e2 h2 ?_
  refine jzq451 xs b0 b1 b2 b3 e3 h3 ?_
  refine jzq453 xs b0 b1 b2 b3 ?_
  refine jzq455 xs b0 b1 b2 b3 e0 h0.1 ?_
  refine jzq457 xs b0 b1 b2 b3 e1 h1.1 ?_
  refine jzq459 xs b0 b1 b2 b3 e2 h2.1 ?_
  refine jzq461 xs b0 b1 b2 b3 e3 h3.1 ?_
  exact jzq463 xs b0 b1 b2 b3
set_option maxHeartbeats 4000000 in
set_option maxRecDepth 100000 in
theorem jzq466 (xs : Nat → Int32) (b0 b1 b2 b3 : Int32) (e : ((Int32.toUInt32 (xs 1) >>> (Int32.toUInt32 0 &&& Int32.toUInt32 31)).toInt32) &&& 255 = b0) (h : jbi b0) {f : Nat} : jLoop (jRun ((4, xs) : jX) 2000 37) ((4, xs) : jX) jm20 (f + 23) ((4, [(3, .int 0), (2, .int 0), (0, .ref 64), (1, .int (xs 1))], [], jzv181) : jS) = some (.inr 154, jzv182) := by
  obtain ⟨-, h1, h2 | ⟨h2, h3, h4⟩⟩ := id h
  · refine jl_s (S' := ((5, [(3, .int 0), (2, .int 0), (0, .ref 64), (1, .int (xs 1))], [.int 0], jzv181) : jS)) rfl ?_
    refine jl_s (S' := ((6, [(3, .int 0), (2, .int 0), (0, .ref 64), (1, .int (xs 1))], [.int 4, .int 0], jzv181) : jS)) rfl ?_
    refine jl_s (S' := ((9, [(3, .int 0), (2, .int 0), (0, .ref 64), (1, .int (xs 1))], [], jzv181) : jS)) rfl ?_
    refine jl_s (S' := ((10, [(3, .int 0), (2, .int 0), (0, .ref 64), (1, .int (xs 1))], [.int (xs 1)], jzv181) : jS)) rfl ?_
    refine jl_s (S' := ((12, [(3, .int 0), (2, .int 0), (0, .ref 64), (1, .int (xs 1))], [.int 8, .int (xs 1)], jzv181) : jS)) rfl ?_
    refine jl_s (S' := ((13, [(3, .int 0), (2, .int 0), (0, .ref 64), (1, .int (xs 1))], [.int 0, .int 8, .int (xs 1)], jzv181) : jS)) rfl ?_
    refine jl_s (S' := ((14, [(3, .int 0), (2, .int 0), (0, .ref 64), (1, .int (xs 1))], [.int 0, .int (xs 1)], jzv181) : jS)) rfl ?_
    refine jl_s (S' := ((15, [(3, .int 0), (2, .int 0), (0, .ref 64), (1, .int (xs 1))], [.int ((Int32.toUInt32 (xs 1) >>> (Int32.toUInt32 0 &&& Int32.toUInt32 31)).toInt32)], jzv181) : jS)) rfl ?_
    refine jl_s (S' := ((18, [(3, .int 0), (2, .int 0), (0, .ref 64), (1, .int (xs 1))], [.int 255, .int ((Int32.toUInt32 (xs 1) >>> (Int32.toUInt32 0 &&& Int32.toUInt32 31)).toInt32)], jzv181) : jS)) rfl ?_
    refine jl_s (S' := ((19, [(3, .int 0), (2, .int 0), (0, .ref 64), (1, .int (xs 1))], [.int (((Int32.toUInt32 (xs 1) >>> (Int32.toUInt32 0 &&& Int32.toUInt32 31)).toInt32) &&& 255)], jzv181) : jS)) rfl ?_
    rw [e]
    refine jl_s (S' := ((21, [(4, .int (b0)), (3, .int 0), (2, .int 0), (0, .ref 64), (1, .int (xs 1))], [], jzv181) : jS)) rfl ?_
    refine jl_s (S' := ((23, [(4, .int (b0)), (3, .int 0), (2, .int 0), (0, .ref 64), (1, .int (xs 1))], [.int (b0)], jzv181) : jS)) rfl ?_
    refine jl_iff (e := jm20) (o := 34) rfl (h.1.1) ?_
    refine jl_s (S' := ((28, [(4, .int (b0)), (3, .int 0), (2, .int 0), (0, .ref 64), (1, .int (xs 1))], [.int (b0)], jzv181) : jS)) rfl ?_
    refine jl_s (S' := ((30, [(4, .int (b0)), (3, .int 0), (2, .int 0), (0, .ref 64), (1, .int (xs 1))], [.int 10, .int (b0)], jzv181) : jS)) rfl ?_
    refine jl_icf (e := jm20) (o := 27) rfl (h1) ?_
    refine jl_s (S' := ((35, [(4, .int (b0)), (3, .int 0), (2, .int 0), (0, .ref 64), (1, .int (xs 1))], [.int (b0)], jzv181) : jS)) rfl ?_
    refine jl_s (S' := ((37, [(4, .int (b0)), (3, .int 0), (2, .int 0), (0, .ref 64), (1, .int (xs 1))], [.int 32, .int (b0)], jzv181) : jS)) rfl ?_
    refine jl_ict (e := jm20) (o := 10) rfl (h2) (t := 47) rfl ?_
    exact jl_r (r := (.inr 154, jzv182)) rfl
  · refine jl_s (S' := ((5, [(3, .int 0), (2, .int 0), (0, .ref 64), (1, .int (xs 1))], [.int 0], jzv181) : jS)) rfl ?_
    refine jl_s (S' := ((6, [(3, .int 0), (2, .int 0), (0, .ref 64), (1, .int (xs 1))], [.int 4, .int 0], jzv181) : jS)) rfl ?_
    refine jl_s (S' := ((9, [(3, .int 0), (2, .int 0), (0, .ref 64), (1, .int (xs 1))], [], jzv181) : jS)) rfl ?_
    refine jl_s (S' := ((10, [(3, .int 0), (2, .int 0), (0, .ref 64), (1, .int (xs 1))], [.int (xs 1)], jzv181) : jS)) rfl ?_
    refine jl_s (S' := ((12, [(3, .int 0), (2, .int 0), (0, .ref 64), (1, .int (xs 1))], [.int 8, .int (xs 1)], jzv181) : jS)) rfl ?_
    refine jl_s (S' := ((13, [(3, .int 0), (2, .int 0), (0, .ref 64), (1, .int (xs 1))], [.int 0, .int 8, .int (xs 1)], jzv181) : jS)) rfl ?_
    refine jl_s (S' := ((14, [(3, .int 0), (2, .int 0), (0, .ref 64), (1, .int (xs 1))], [.int 0, .int (xs 1)], jzv181) : jS)) rfl ?_
    refine jl_s (S' := ((15, [(3, .int 0), (2, .int 0), (0, .ref 64), (1, .int (xs 1))], [.int ((Int32.toUInt32 (xs 1) >>> (Int32.toUInt32 0 &&& Int32.toUInt32 31)).toInt32)], jzv181) : jS)) rfl ?_
    refine jl_s (S' := ((18, [(3, .int 0), (2, .int 0), (0, .ref 64), (1, .int (xs 1))], [.int 255, .int ((Int32.toUInt32 (xs 1) >>> (Int32.toUInt32 0 &&& Int32.toUInt32 31)).toInt32)], jzv181) : jS)) rfl ?_
    refine jl_s (S' := ((19, [(3, .int 0), (2, .int 0), (0, .ref 64), (1, .int (xs 1))], [.int (((Int32.toUInt32 (xs 1) >>> (Int32.toUInt32 0 &&& Int32.toUInt32 31)).toInt32) &&& 255)], jzv181) : jS)) rfl ?_
    rw [e]
    refine jl_s (S' := ((21, [(4, .int (b0)), (3, .int 0), (2, .int 0), (0, .ref 64), (1, .int (xs 1))], [], jzv181) : jS)) rfl ?_
    refine jl_s (S' := ((23, [(4, .int (b0)), (3, .int 0), (2, .int 0), (0, .ref 64), (1, .int (xs 1))], [.int (b0)], jzv181) : jS)) rfl ?_
    refine jl_iff (e := jm20) (o := 34) rfl (h.1.1) ?_
    refine jl_s (S' := ((28, [(4, .int (b0)), (3, .int 0), (2, .int 0), (0, .ref 64), (1, .int (xs 1))], [.int (b0)], jzv181) : jS)) rfl ?_
    refine jl_s (S' := ((30, [(4, .int (b0)), (3, .int 0), (2, .int 0), (0, .ref 64), (1, .int (xs 1))], [.int 10, .int (b0)], jzv181) : jS)) rfl ?_
    refine jl_icf (e := jm20) (o := 27) rfl (h1) ?_
    refine jl_s (S' := ((35, [(4, .int (b0)), (3, .int 0), (2, .int 0), (0, .ref 64), (1, .int (xs 1))], [.int (b0)], jzv181) : jS)) rfl ?_
    refine jl_s (S' := ((37, [(4, .int (b0)), (3, .int 0), (2, .int 0), (0, .ref 64), (1, .int (xs 1))], [.int 32, .int (b0)], jzv181) : jS)) rfl ?_
    refine jl_icf (e := jm20) (o := 10) rfl (h2) ?_
    refine jl_s (S' := ((42, [(4, .int (b0)), (3, .int 0), (2, .int 0), (0, .ref 64), (1, .int (xs 1))], [.int (b0)], jzv181) : jS)) rfl ?_
    refine jl_s (S' := ((44, [(4, .int (b0)), (3, .int 0), (2, .int 0), (0, .ref 64), (1, .int (xs 1))], [.int 126, .int (b0)], jzv181) : jS)) rfl ?_
    refine jl_icf (e := jm20) (o := 13) rfl (h3) ?_
    exact jl_r (r := (.inr 154, jzv182)) rfl
set_option maxHeartbeats 4000000 in
set_option maxRecDepth 100000 in
theorem jzq469 (xs : Nat → Int32) (b0 b1 b2 b3 : Int32) (e : ((Int32.toUInt32 (xs 1) >>> (Int32.toUInt32 8 &&& Int32.toUInt32 31)).toInt32) &&& 255 = b1) (h : jbi b1) {f : Nat} : jLoop (jRun ((4, xs) : jX) 2000 37) ((4, xs) : jX) jm20 (f + 23) ((4, [(3, .int 1), (2, .int 0), (4, .int (b0)), (0, .ref 64), (1, .int (xs 1))], [], jzv181) : jS) = some (.inr 154, jzv182) := by
  obtain ⟨-, h1, h2 | ⟨h2, h3, h4⟩⟩ := id h
  · refine jl_s (S' := ((5, [(3, .int 1), (2, .int 0), (4, .int (b0)), (0, .ref 64), (1, .int (xs 1))], [.int 1], jzv181) : jS)) rfl ?_
    refine jl_s (S' := ((6, [(3, .int 1), (2, .int 0), (4, .int (b0)), (0, .ref 64), (1, .int (xs 1))], [.int 4, .int 1], jzv181) : jS)) rfl ?_
    refine jl_s (S' := ((9, [(3, .int 1), (2, .int 0), (4, .int (b0)), (0, .ref 64), (1, .int (xs 1))], [], jzv181) : jS)) rfl ?_
    refine jl_s (S' := ((10, [(3, .int 1), (2, .int 0), (4, .int (b0)), (0, .ref 64), (1, .int (xs 1))], [.int (xs 1)], jzv181) : jS)) rfl ?_
    refine jl_s (S' := ((12, [(3, .int 1), (2, .int 0), (4, .int (b0)), (0, .ref 64), (1, .int (xs 1))], [.int 8, .int (xs 1)], jzv181) : jS)) rfl ?_
    refine jl_s (S' := ((13, [(3, .int 1), (2, .int 0), (4, .int (b0)), (0, .ref 64), (1, .int (xs 1))], [.int 1, .int 8, .int (xs 1)], jzv181) : jS)) rfl ?_
    refine jl_s (S' := ((14, [(3, .int 1), (2, .int 0), (4, .int (b0)), (0, .ref 64), (1, .int (xs 1))], [.int 8, .int (xs 1)], jzv181) : jS)) rfl ?_
    refine jl_s (S' := ((15, [(3, .int 1), (2, .int 0), (4, .int (b0)), (0, .ref 64), (1, .int (xs 1))], [.int ((Int32.toUInt32 (xs 1) >>> (Int32.toUInt32 8 &&& Int32.toUInt32 31)).toInt32)], jzv181) : jS)) rfl ?_
    refine jl_s (S' := ((18, [(3, .int 1), (2, .int 0), (4, .int (b0)), (0, .ref 64), (1, .int (xs 1))], [.int 255, .int ((Int32.toUInt32 (xs 1) >>> (Int32.toUInt32 8 &&& Int32.toUInt32 31)).toInt32)], jzv181) : jS)) rfl ?_
    refine jl_s (S' := ((19, [(3, .int 1), (2, .int 0), (4, .int (b0)), (0, .ref 64), (1, .int (xs 1))], [.int (((Int32.toUInt32 (xs 1) >>> (Int32.toUInt32 8 &&& Int32.toUInt32 31)).toInt32) &&& 255)], jzv181) : jS)) rfl ?_
    rw [e]
    refine jl_s (S' := ((21, [(4, .int (b1)), (3, .int 1), (2, .int 0), (0, .ref 64), (1, .int (xs 1))], [], jzv181) : jS)) rfl ?_
    refine jl_s (S' := ((23, [(4, .int (b1)), (3, .int 1), (2, .int 0), (0, .ref 64), (1, .int (xs 1))], [.int (b1)], jzv181) : jS)) rfl ?_
    refine jl_iff (e := jm20) (o := 34) rfl (h.1.1) ?_
    refine jl_s (S' := ((28, [(4, .int (b1)), (3, .int 1), (2, .int 0), (0, .ref 64), (1, .int (xs 1))], [.int (b1)], jzv181) : jS)) rfl ?_
    refine jl_s (S' := ((30, [(4, .int (b1)), (3, .int 1), (2, .int 0), (0, .ref 64), (1, .int (xs 1))], [.int 10, .int (b1)], jzv181) : jS)) rfl ?_
    refine jl_icf (e := jm20) (o := 27) rfl (h1) ?_
    refine jl_s (S' := ((35, [(4, .int (b1)), (3, .int 1), (2, .int 0), (0, .ref 64), (1, .int (xs 1))], [.int (b1)], jzv181) : jS)) rfl ?_
    refine jl_s (S' := ((37, [(4, .int (b1)), (3, .int 1), (2, .int 0), (0, .ref 64), (1, .int (xs 1))], [.int 32, .int (b1)], jzv181) : jS)) rfl ?_
    refine jl_ict (e := jm20) (o := 10) rfl (h2) (t := 47) rfl ?_
    exact jl_r (r := (.inr 154, jzv182)) rfl
  · refine jl_s (S' := ((5, [(3, .int 1), (2, .int 0), (4, .int (b0)), (0, .ref 64), (1, .int (xs 1))], [.int 1], jzv181) : jS)) rfl ?_
    refine jl_s (S' := ((6, [(3, .int 1), (2, .int 0), (4, .int (b0)), (0, .ref 64), (1, .int (xs 1))], [.int 4, .int 1], jzv181) : jS)) rfl ?_
    refine jl_s (S' := ((9, [(3, .int 1), (2, .int 0), (4, .int (b0)), (0, .ref 64), (1, .int (xs 1))], [], jzv181) : jS)) rfl ?_
    refine jl_s (S' := ((10, [(3, .int 1), (2, .int 0), (4, .int (b0)), (0, .ref 64), (1, .int (xs 1))], [.int (xs 1)], jzv181) : jS)) rfl ?_
    refine jl_s (S' := ((12, [(3, .int 1), (2, .int 0), (4, .int (b0)), (0, .ref 64), (1, .int (xs 1))], [.int 8, .int (xs 1)], jzv181) : jS)) rfl ?_
    refine jl_s (S' := ((13, [(3, .int 1), (2, .int 0), (4, .int (b0)), (0, .ref 64), (1, .int (xs 1))], [.int 1, .int 8, .int (xs 1)], jzv181) : jS)) rfl ?_
    refine jl_s (S' := ((14, [(3, .int 1), (2, .int 0), (4, .int (b0)), (0, .ref 64), (1, .int (xs 1))], [.int 8, .int (xs 1)], jzv181) : jS)) rfl ?_
    refine jl_s (S' := ((15, [(3, .int 1), (2, .int 0), (4, .int (b0)), (0, .ref 64), (1, .int (xs 1))], [.int ((Int32.toUInt32 (xs 1) >>> (Int32.toUInt32 8 &&& Int32.toUInt32 31)).toInt32)], jzv181) : jS)) rfl ?_
    refine jl_s (S' := ((18, [(3, .int 1), (2, .int 0), (4, .int (b0)), (0, .ref 64), (1, .int (xs 1))], [.int 255, .int ((Int32.toUInt32 (xs 1) >>> (Int32.toUInt32 8 &&& Int32.toUInt32 31)).toInt32)], jzv181) : jS)) rfl ?_
    refine jl_s (S' := ((19, [(3, .int 1), (2, .int 0), (4, .int (b0)), (0, .ref 64), (1, .int (xs 1))], [.int (((Int32.toUInt32 (xs 1) >>> (Int32.toUInt32 8 &&& Int32.toUInt32 31)).toInt32) &&& 255)], jzv181) : jS)) rfl ?_
    rw [e]
    refine jl_s (S' := ((21, [(4, .int (b1)), (3, .int 1), (2, .int 0), (0, .ref 64), (1, .int (xs 1))], [], jzv181) : jS)) rfl ?_
    refine jl_s (S' := ((23, [(4, .int (b1)), (3, .int 1), (2, .int 0), (0, .ref 64), (1, .int (xs 1))], [.int (b1)], jzv181) : jS)) rfl ?_
    refine jl_iff (e := jm20) (o := 34) rfl (h.1.1) ?_
    refine jl_s (S' := ((28, [(4, .int (b1)), (3, .int 1), (2, .int 0), (0, .ref 64), (1, .int (xs 1))], [.int (b1)], jzv181) : jS)) rfl ?_
    refine jl_s (S' := ((30, [(4, .int (b1)), (3, .int 1), (2, .int 0), (0, .ref 64), (1, .int (xs 1))], [.int 10, .int (b1)], jzv181) : jS)) rfl ?_
    refine jl_icf (e := jm20) (o := 27) rfl (h1) ?_
    refine jl_s (S' := ((35, [(4, .int (b1)), (3, .int 1), (2, .int 0), (0, .ref 64), (1, .int (xs 1))], [.int (b1)], jzv181) : jS)) rfl ?_
    refine jl_s (S' := ((37, [(4, .int (b1)), (3, .int 1), (2, .int 0), (0, .ref 64), (1, .int (xs 1))], [.int 32, .int (b1)], jzv181) : jS)) rfl ?_
    refine jl_icf (e := jm20) (o := 10) rfl (h2) ?_
    refine jl_s (S' := ((42, [(4, .int (b1)), (3, .int 1), (2, .int 0), (0, .ref 64), (1, .int (xs 1))], [.int (b1)], jzv181) : jS)) rfl ?_
    refine jl_s (S' := ((44, [(4, .int (b1)), (3, .int 1), (2, .int 0), (0, .ref 64), (1, .int (xs 1))], [.int 126, .int (b1)], jzv181) : jS)) rfl ?_
    refine jl_icf (e := jm20) (o := 13) rfl (h3) ?_
    exact jl_r (r := (.inr 154, jzv182)) rfl
set_option maxHeartbeats 4000000 in
set_option maxRecDepth 100000 in
theorem jzq472 (xs : Nat → Int32) (b0 b1 b2 b3 : Int32) (e : ((Int32.toUInt32 (xs 1) >>> (Int32.toUInt32 16 &&& Int32.toUInt32 31)).toInt32) &&& 255 = b2) (h : jbi b2) {f : Nat} : jLoop (jRun ((4, xs) : jX) 2000 37) ((4, xs) : jX) jm20 (f + 23) ((4, [(3, .int 2), (2, .int 0), (4, .int (b1)), (0, .ref 64), (1, .int (xs 1))], [], jzv181) : jS) = some (.inr 154, jzv182) := by
  obtain ⟨-, h1, h2 | ⟨h2, h3, h4⟩⟩ := id h
  · refine jl_s (S' := ((5, [(3, .int 2), (2, .int 0), (4, .int (b1)), (0, .ref 64), (1, .int (xs 1))], [.int 2], jzv181) : jS)) rfl ?_
    refine jl_s (S' := ((6, [(3, .int 2), (2, .int 0), (4, .int (b1)), (0, .ref 64), (1, .int (xs 1))], [.int 4, .int 2], jzv181) : jS)) rfl ?_
    refine jl_s (S' := ((9, [(3, .int 2), (2, .int 0), (4, .int (b1)), (0, .ref 64), (1, .int (xs 1))], [], jzv181) : jS)) rfl ?_
    refine jl_s (S' := ((10, [(3, .int 2), (2, .int 0), (4, .int (b1)), (0, .ref 64), (1, .int (xs 1))], [.int (xs 1)], jzv181) : jS)) rfl ?_
    refine jl_s (S' := ((12, [(3, .int 2), (2, .int 0), (4, .int (b1)), (0, .ref 64), (1, .int (xs 1))], [.int 8, .int (xs 1)], jzv181) : jS)) rfl ?_
    refine jl_s (S' := ((13, [(3, .int 2), (2, .int 0), (4, .int (b1)), (0, .ref 64), (1, .int (xs 1))], [.int 2, .int 8, .int (xs 1)], jzv181) : jS)) rfl ?_
    refine jl_s (S' := ((14, [(3, .int 2), (2, .int 0), (4, .int (b1)), (0, .ref 64), (1, .int (xs 1))], [.int 16, .int (xs 1)], jzv181) : jS)) rfl ?_
    refine jl_s (S' := ((15, [(3, .int 2), (2, .int 0), (4, .int (b1)), (0, .ref 64), (1, .int (xs 1))], [.int ((Int32.toUInt32 (xs 1) >>> (Int32.toUInt32 16 &&& Int32.toUInt32 31)).toInt32)], jzv181) : jS)) rfl ?_
    refine jl_s (S' := ((18, [(3, .int 2), (2, .int 0), (4, .int (b1)), (0, .ref 64), (1, .int (xs 1))], [.int 255, .int ((Int32.toUInt32 (xs 1) >>> (Int32.toUInt32 16 &&& Int32.toUInt32 31)).toInt32)], jzv181) : jS)) rfl ?_
    refine jl_s (S' := ((19, [(3, .int 2), (2, .int 0), (4, .int (b1)), (0, .ref 64), (1, .int (xs 1))], [.int (((Int32.toUInt32 (xs 1) >>> (Int32.toUInt32 16 &&& Int32.toUInt32 31)).toInt32) &&& 255)], jzv181) : jS)) rfl ?_
    rw [e]
    refine jl_s (S' := ((21, [(4, .int (b2)), (3, .int 2), (2, .int 0), (0, .ref 64), (1, .int (xs 1))], [], jzv181) : jS)) rfl ?_
    refine jl_s (S' := ((23, [(4, .int (b2)), (3, .int 2), (2, .int 0), (0, .ref 64), (1, .int (xs 1))], [.int (b2)], jzv181) : jS)) rfl ?_
    refine jl_iff (e := jm20) (o := 34) rfl (h.1.1) ?_
    refine jl_s (S' := ((28, [(4, .int (b2)), (3, .int 2), (2, .int 0), (0, .ref 64), (1, .int (xs 1))], [.int (b2)], jzv181) : jS)) rfl ?_
    refine jl_s (S' := ((30, [(4, .int (b2)), (3, .int 2), (2, .int 0), (0, .ref 64), (1, .int (xs 1))], [.int 10, .int (b2)], jzv181) : jS)) rfl ?_
    refine jl_icf (e := jm20) (o := 27) rfl (h1) ?_
    refine jl_s (S' := ((35, [(4, .int (b2)), (3, .int 2), (2, .int 0), (0, .ref 64), (1, .int (xs 1))], [.int (b2)], jzv181) : jS)) rfl ?_
    refine jl_s (S' := ((37, [(4, .int (b2)), (3, .int 2), (2, .int 0), (0, .ref 64), (1, .int (xs 1))], [.int 32, .int (b2)], jzv181) : jS)) rfl ?_
    refine jl_ict (e := jm20) (o := 10) rfl (h2) (t := 47) rfl ?_
    exact jl_r (r := (.inr 154, jzv182)) rfl
  · refine jl_s (S' := ((5, [(3, .int 2), (2, .int 0), (4, .int (b1)), (0, .ref 64), (1, .int (xs 1))], [.int 2], jzv181) : jS)) rfl ?_
    refine jl_s (S' := ((6, [(3, .int 2), (2, .int 0), (4, .int (b1)), (0, .ref 64), (1, .int (xs 1))], [.int 4, .int 2], jzv181) : jS)) rfl ?_
    refine jl_s (S' := ((9, [(3, .int 2), (2, .int 0), (4, .int (b1)), (0, .ref 64), (1, .int (xs 1))], [], jzv181) : jS)) rfl ?_
    refine jl_s (S' := ((10, [(3, .int 2), (2, .int 0), (4, .int (b1)), (0, .ref 64), (1, .int (xs 1))], [.int (xs 1)], jzv181) : jS)) rfl ?_
    refine jl_s (S' := ((12, [(3, .int 2), (2, .int 0), (4, .int (b1)), (0, .ref 64), (1, .int (xs 1))], [.int 8, .int (xs 1)], jzv181) : jS)) rfl ?_
    refine jl_s (S' := ((13, [(3, .int 2), (2, .int 0), (4, .int (b1)), (0, .ref 64), (1, .int (xs 1))], [.int 2, .int 8, .int (xs 1)], jzv181) : jS)) rfl ?_
    refine jl_s (S' := ((14, [(3, .int 2), (2, .int 0), (4, .int (b1)), (0, .ref 64), (1, .int (xs 1))], [.int 16, .int (xs 1)], jzv181) : jS)) rfl ?_
    refine jl_s (S' := ((15, [(3, .int 2), (2, .int 0), (4, .int (b1)), (0, .ref 64), (1, .int (xs 1))], [.int ((Int32.toUInt32 (xs 1) >>> (Int32.toUInt32 16 &&& Int32.toUInt32 31)).toInt32)], jzv181) : jS)) rfl ?_
    refine jl_s (S' := ((18, [(3, .int 2), (2, .int 0), (4, .int (b1)), (0, .ref 64), (1, .int (xs 1))], [.int 255, .int ((Int32.toUInt32 (xs 1) >>> (Int32.toUInt32 16 &&& Int32.toUInt32 31)).toInt32)], jzv181) : jS)) rfl ?_
    refine jl_s (S' := ((19, [(3, .int 2), (2, .int 0), (4, .int (b1)), (0, .ref 64), (1, .int (xs 1))], [.int (((Int32.toUInt32 (xs 1) >>> (Int32.toUInt32 16 &&& Int32.toUInt32 31)).toInt32) &&& 255)], jzv181) : jS)) rfl ?_
    rw [e]
    refine jl_s (S' := ((21, [(4, .int (b2)), (3, .int 2), (2, .int 0), (0, .ref 64), (1, .int (xs 1))], [], jzv181) : jS)) rfl ?_
    refine jl_s (S' := ((23, [(4, .int (b2)), (3, .int 2), (2, .int 0), (0, .ref 64), (1, .int (xs 1))], [.int (b2)], jzv181) : jS)) rfl ?_
    refine jl_iff (e := jm20) (o := 34) rfl (h.1.1) ?_
    refine jl_s (S' := ((28, [(4, .int (b2)), (3, .int 2), (2, .int 0), (0, .ref 64), (1, .int (xs 1))], [.int (b2)], jzv181) : jS)) rfl ?_
    refine jl_s (S' := ((30, [(4, .int (b2)), (3, .int 2), (2, .int 0), (0, .ref 64), (1, .int (xs 1))], [.int 10, .int (b2)], jzv181) : jS)) rfl ?_
    refine jl_icf (e := jm20) (o := 27) rfl (h1) ?_
    refine jl_s (S' := ((35, [(4, .int (b2)), (3, .int 2), (2, .int 0), (0, .ref 64), (1, .int (xs 1))], [.int (b2)], jzv181) : jS)) rfl ?_
    refine jl_s (S' := ((37, [(4, .int (b2)), (3, .int 2), (2, .int 0), (0, .ref 64), (1, .int (xs 1))], [.int 32, .int (b2)], jzv181) : jS)) rfl ?_
    refine jl_icf (e := jm20) (o := 10) rfl (h2) ?_
    refine jl_s (S' := ((42, [(4, .int (b2)), (3, .int 2), (2, .int 0), (0, .ref 64), (1, .int (xs 1))], [.int (b2)], jzv181) : jS)) rfl ?_
    refine jl_s (S' := ((44, [(4, .int (b2)), (3, .int 2), (2, .int 0), (0, .ref 64), (1, .int (xs 1))], [.int 126, .int (b2)], jzv181) : jS)) rfl ?_
    refine jl_icf (e := jm20) (o := 13) rfl (h3) ?_
    exact jl_r (r := (.inr 154, jzv182)) rfl
set_option maxHeartbeats 4000000 in
set_option maxRecDepth 100000 in
theorem jzq475 (xs : Nat → Int32) (b0 b1 b2 b3 : Int32) (e : ((Int32.toUInt32 (xs 1) >>> (Int32.toUInt32 24 &&& Int32.toUInt32 31)).toInt32) &&& 255 = b3) (h : jbi b3) {f : Nat} : jLoop (jRun ((4, xs) : jX) 2000 37) ((4, xs) : jX) jm20 (f + 23) ((4, [(3, .int 3), (2, .int 0), (4, .int (b2)), (0, .ref 64), (1, .int (xs 1))], [], jzv181) : jS) = some (.inr 154, jzv182) := by
  obtain ⟨-, h1, h2 | ⟨h2, h3, h4⟩⟩ := id h
  · refine jl_s (S' := ((5, [(3, .int 3), (2, .int 0), (4, .int (b2)), (0, .ref 64), (1, .int (xs 1))], [.int 3], jzv181) : jS)) rfl ?_
    refine jl_s (S' := ((6, [(3, .int 3), (2, .int 0), (4, .int (b2)), (0, .ref 64), (1, .int (xs 1))], [.int 4, .int 3], jzv181) : jS)) rfl ?_
    refine jl_s (S' := ((9, [(3, .int 3), (2, .int 0), (4, .int (b2)), (0, .ref 64), (1, .int (xs 1))], [], jzv181) : jS)) rfl ?_
    refine jl_s (S' := ((10, [(3, .int 3), (2, .int 0), (4, .int (b2)), (0, .ref 64), (1, .int (xs 1))], [.int (xs 1)], jzv181) : jS)) rfl ?_
    refine jl_s (S' := ((12, [(3, .int 3), (2, .int 0), (4, .int (b2)), (0, .ref 64), (1, .int (xs 1))], [.int 8, .int (xs 1)], jzv181) : jS)) rfl ?_
    refine jl_s (S' := ((13, [(3, .int 3), (2, .int 0), (4, .int (b2)), (0, .ref 64), (1, .int (xs 1))], [.int 3, .int 8, .int (xs 1)], jzv181) : jS)) rfl ?_
    refine jl_s (S' := ((14, [(3, .int 3), (2, .int 0), (4, .int (b2)), (0, .ref 64), (1, .int (xs 1))], [.int 24, .int (xs 1)], jzv181) : jS)) rfl ?_
    refine jl_s (S' := ((15, [(3, .int 3), (2, .int 0), (4, .int (b2)), (0, .ref 64), (1, .int (xs 1))], [.int ((Int32.toUInt32 (xs 1) >>> (Int32.toUInt32 24 &&& Int32.toUInt32 31)).toInt32)], jzv181) : jS)) rfl ?_
    refine jl_s (S' := ((18, [(3, .int 3), (2, .int 0), (4, .int (b2)), (0, .ref 64), (1, .int (xs 1))], [.int 255, .int ((Int32.toUInt32 (xs 1) >>> (Int32.toUInt32 24 &&& Int32.toUInt32 31)).toInt32)], jzv181) : jS)) rfl ?_
    refine jl_s (S' := ((19, [(3, .int 3), (2, .int 0), (4, .int (b2)), (0, .ref 64), (1, .int (xs 1))], [.int (((Int32.toUInt32 (xs 1) >>> (Int32.toUInt32 24 &&& Int32.toUInt32 31)).toInt32) &&& 255)], jzv181) : jS)) rfl ?_
    rw [e]
    refine jl_s (S' := ((21, [(4, .int (b3)), (3, .int 3), (2, .int 0), (0, .ref 64), (1, .int (xs 1))], [], jzv181) : jS)) rfl ?_
    refine jl_s (S' := ((23, [(4, .int (b3)), (3, .int 3), (2, .int 0), (0, .ref 64), (1, .int (xs 1))], [.int (b3)], jzv181) : jS)) rfl ?_
    refine jl_iff (e := jm20) (o := 34) rfl (h.1.1) ?_
    refine jl_s (S' := ((28, [(4, .int (b3)), (3, .int 3), (2, .int 0), (0, .ref 64), (1, .int (xs 1))], [.int (b3)], jzv181) : jS)) rfl ?_
    refine jl_s (S' := ((30, [(4, .int (b3)), (3, .int 3), (2, .int 0), (0, .ref 64), (1, .int (xs 1))], [.int 10, .int (b3)], jzv181) : jS)) rfl ?_
    refine jl_icf (e := jm20) (o := 27) rfl (h1) ?_
    refine jl_s (S' := ((35, [(4, .int (b3)), (3, .int 3), (2, .int 0), (0, .ref 64), (1, .int (xs 1))], [.int (b3)], jzv181) : jS)) rfl ?_
    refine jl_s (S' := ((37, [(4, .int (b3)), (3, .int 3), (2, .int 0), (0, .ref 64), (1, .int (xs 1))], [.int 32, .int (b3)], jzv181) : jS)) rfl ?_
    refine jl_ict (e := jm20) (o := 10) rfl (h2) (t := 47) rfl ?_
    exact jl_r (r := (.inr 154, jzv182)) rfl
  · refine jl_s (S' := ((5, [(3, .int 3), (2, .int 0), (4, .int (b2)), (0, .ref 64), (1, .int (xs 1))], [.int 3], jzv181) : jS)) rfl ?_
    refine jl_s (S' := ((6, [(3, .int 3), (2, .int 0), (4, .int (b2)), (0, .ref 64), (1, .int (xs 1))], [.int 4, .int 3], jzv181) : jS)) rfl ?_
    refine jl_s (S' := ((9, [(3, .int 3), (2, .int 0), (4, .int (b2)), (0, .ref 64), (1, .int (xs 1))], [], jzv181) : jS)) rfl ?_
    refine jl_s (S' := ((10, [(3, .int 3), (2, .int 0), (4, .int (b2)), (0, .ref 64), (1, .int (xs 1))], [.int (xs 1)], jzv181) : jS)) rfl ?_
    refine jl_s (S' := ((12, [(3, .int 3), (2, .int 0), (4, .int (b2)), (0, .ref 64), (1, .int (xs 1))], [.int 8, .int (xs 1)], jzv181) : jS)) rfl ?_
    refine jl_s (S' := ((13, [(3, .int 3), (2, .int 0), (4, .int (b2)), (0, .ref 64), (1, .int (xs 1))], [.int 3, .int 8, .int (xs 1)], jzv181) : jS)) rfl ?_
    refine jl_s (S' := ((14, [(3, .int 3), (2, .int 0), (4, .int (b2)), (0, .ref 64), (1, .int (xs 1))], [.int 24, .int (xs 1)], jzv181) : jS)) rfl ?_
    refine jl_s (S' := ((15, [(3, .int 3), (2, .int 0), (4, .int (b2)), (0, .ref 64), (1, .int (xs 1))], [.int ((Int32.toUInt32 (xs 1) >>> (Int32.toUInt32 24 &&& Int32.toUInt32 31)).toInt32)], jzv181) : jS)) rfl ?_
    refine jl_s (S' := ((18, [(3, .int 3), (2, .int 0), (4, .int (b2)), (0, .ref 64), (1, .int (xs 1))], [.int 255, .int ((Int32.toUInt32 (xs 1) >>> (Int32.toUInt32 24 &&& Int32.toUInt32 31)).toInt32)], jzv181) : jS)) rfl ?_
    refine jl_s (S' := ((19, [(3, .int 3), (2, .int 0), (4, .int (b2)), (0, .ref 64), (1, .int (xs 1))], [.int (((Int32.toUInt32 (xs 1) >>> (Int32.toUInt32 24 &&& Int32.toUInt32 31)).toInt32) &&& 255)], jzv181) : jS)) rfl ?_
    rw [e]
    refine jl_s (S' := ((21, [(4, .int (b3)), (3, .int 3), (2, .int 0), (0, .ref 64), (1, .int (xs 1))], [], jzv181) : jS)) rfl ?_
    refine jl_s (S' := ((23, [(4, .int (b3)), (3, .int 3), (2, .int 0), (0, .ref 64), (1, .int (xs 1))], [.int (b3)], jzv181) : jS)) rfl ?_
    refine jl_iff (e := jm20) (o := 34) rfl (h.1.1) ?_
    refine jl_s (S' := ((28, [(4, .int (b3)), (3, .int 3), (2, .int 0), (0, .ref 64), (1, .int (xs 1))], [.int (b3)], jzv181) : jS)) rfl ?_
    refine jl_s (S' := ((30, [(4, .int (b3)), (3, .int 3), (2, .int 0), (0, .ref 64), (1, .int (xs 1))], [.int 10, .int (b3)], jzv181) : jS)) rfl ?_
    refine jl_icf (e := jm20) (o := 27) rfl (h1) ?_
    refine jl_s (S' := ((35, [(4, .int (b3)), (3, .int 3), (2, .int 0), (0, .ref 64), (1, .int (xs 1))], [.int (b3)], jzv181) : jS)) rfl ?_
    refine jl_s (S' := ((37, [(4, .int (b3)), (3, .int 3), (2, .int 0), (0, .ref 64), (1, .int (xs 1))], [.int 32, .int (b3)], jzv181) : jS)) rfl ?_
    refine jl_icf (e := jm20) (o := 10) rfl (h2) ?_
    refine jl_s (S' := ((42, [(4, .int (b3)), (3, .int 3), (2, .int 0), (0, .ref 64), (1, .int (xs 1))], [.int (b3)], jzv181) : jS)) rfl ?_
    refine jl_s (S' := ((44, [(4, .int (b3)), (3, .int 3), (2, .int 0), (0, .ref 64), (1, .int (xs 1))], [.int 126, .int (b3)], jzv181) : jS)) rfl ?_
    refine jl_icf (e := jm20) (o := 13) rfl (h3) ?_
    exact jl_r (r := (.inr 154, jzv182)) rfl
set_option maxHeartbeats 4000000 in
set_option maxRecDepth 100000 in
theorem jzci476 (xs : Nat → Int32) (b0 b1 b2 b3 : Int32) (e3 : ((Int32.toUInt32 (xs 1) >>> (Int32.toUInt32 24 &&& Int32.toUInt32 31)).toInt32) &&& 255 = b3) (h : jbI3 b3) {f : Nat} : jLoop (jRun ((4, xs) : jX) 2000 37) ((4, xs) : jX) jm20 (f + 60) ((4, [(3, .int 3), (2, .int 0), (4, .int (b2)), (0, .ref 64), (1, .int (xs 1))], [], jzv181) : jS) = some (.inr 154, jzv182) := by
  exact jzq475 xs b0 b1 b2 b3 e3 h
set_option maxHeartbeats 4000000 in
set_option maxRecDepth 100000 in
theorem jzq479 (xs : Nat → Int32) (b0 b1 b2 b3 : Int32) (e : ((Int32.toUInt32 (xs 1) >>> (Int32.toUInt32 24 &&& Int32.toUInt32 31)).toInt32) &&& 255 = b3) (h : jbi b3) {f : Nat} : jLoop (jRun ((4, xs) : jX) 2000 37) ((4, xs) : jX) jm20 (f + 23) ((4, [(3, .int 3), (2, .int 1), (4, .int (b2)), (0, .ref 64), (1, .int (xs 1))], [], jzv181) : jS) = some (.inr 154, jzv182) := by
  obtain ⟨-, h1, h2 | ⟨h2, h3, h4⟩⟩ := id h
  · refine jl_s (S' := ((5, [(3, .int 3), (2, .int 1), (4, .int (b2)), (0, .ref 64), (1, .int (xs 1))], [.int 3], jzv181) : jS)) rfl ?_
    refine jl_s (S' := ((6, [(3, .int 3), (2, .int 1), (4, .int (b2)), (0, .ref 64), (1, .int (xs 1))], [.int 4, .int 3], jzv181) : jS)) rfl ?_
    refine jl_s (S' := ((9, [(3, .int 3), (2, .int 1), (4, .int (b2)), (0, .ref 64), (1, .int (xs 1))], [], jzv181) : jS)) rfl ?_
    refine jl_s (S' := ((10, [(3, .int 3), (2, .int 1), (4, .int (b2)), (0, .ref 64), (1, .int (xs 1))], [.int (xs 1)], jzv181) : jS)) rfl ?_
    refine jl_s (S' := ((12, [(3, .int 3), (2, .int 1), (4, .int (b2)), (0, .ref 64), (1, .int (xs 1))], [.int 8, .int (xs 1)], jzv181) : jS)) rfl ?_
    refine jl_s (S' := ((13, [(3, .int 3), (2, .int 1), (4, .int (b2)), (0, .ref 64), (1, .int (xs 1))], [.int 3, .int 8, .int (xs 1)], jzv181) : jS)) rfl ?_
    refine jl_s (S' := ((14, [(3, .int 3), (2, .int 1), (4, .int (b2)), (0, .ref 64), (1, .int (xs 1))], [.int 24, .int (xs 1)], jzv181) : jS)) rfl ?_
    refine jl_s (S' := ((15, [(3, .int 3), (2, .int 1), (4, .int (b2)), (0, .ref 64), (1, .int (xs 1))], [.int ((Int32.toUInt32 (xs 1) >>> (Int32.toUInt32 24 &&& Int32.toUInt32 31)).toInt32)], jzv181) : jS)) rfl ?_
    refine jl_s (S' := ((18, [(3, .int 3), (2, .int 1), (4, .int (b2)), (0, .ref 64), (1, .int (xs 1))], [.int 255, .int ((Int32.toUInt32 (xs 1) >>> (Int32.toUInt32 24 &&& Int32.toUInt32 31)).toInt32)], jzv181) : jS)) rfl ?_
    refine jl_s (S' := ((19, [(3, .int 3), (2, .int 1), (4, .int (b2)), (0, .ref 64), (1, .int (xs 1))], [.int (((Int32.toUInt32 (xs 1) >>> (Int32.toUInt32 24 &&& Int32.toUInt32 31)).toInt32) &&& 255)], jzv181) : jS)) rfl ?_
    rw [e]
    refine jl_s (S' := ((21, [(4, .int (b3)), (3, .int 3), (2, .int 1), (0, .ref 64), (1, .int (xs 1))], [], jzv181) : jS)) rfl ?_
    refine jl_s (S' := ((23, [(4, .int (b3)), (3, .int 3), (2, .int 1), (0, .ref 64), (1, .int (xs 1))], [.int (b3)], jzv181) : jS)) rfl ?_
    refine jl_iff (e := jm20) (o := 34) rfl (h.1.1) ?_
    refine jl_s (S' := ((28, [(4, .int (b3)), (3, .int 3), (2, .int 1), (0, .ref 64), (1, .int (xs 1))], [.int (b3)], jzv181) : jS)) rfl ?_
    refine jl_s (S' := ((30, [(4, .int (b3)), (3, .int 3), (2, .int 1), (0, .ref 64), (1, .int (xs 1))], [.int 10, .int (b3)], jzv181) : jS)) rfl ?_
    refine jl_icf (e := jm20) (o := 27) rfl (h1) ?_
    refine jl_s (S' := ((35, [(4, .int (b3)), (3, .int 3), (2, .int 1), (0, .ref 64), (1, .int (xs 1))], [.int (b3)], jzv181) : jS)) rfl ?_
    refine jl_s (S' := ((37, [(4, .int (b3)), (3, .int 3), (2, .int 1), (0, .ref 64), (1, .int (xs 1))], [.int 32, .int (b3)], jzv181) : jS)) rfl ?_
    refine jl_ict (e := jm20) (o := 10) rfl (h2) (t := 47) rfl ?_
    exact jl_r (r := (.inr 154, jzv182)) rfl
  · refine jl_s (S' := ((5, [(3, .int 3), (2, .int 1), (4, .int (b2)), (0, .ref 64), (1, .int (xs 1))], [.int 3], jzv181) : jS)) rfl ?_
    refine jl_s (S' := ((6, [(3, .int 3), (2, .int 1), (4, .int (b2)), (0, .ref 64), (1, .int (xs 1))], [.int 4, .int 3], jzv181) : jS)) rfl ?_
    refine jl_s (S' := ((9, [(3, .int 3), (2, .int 1), (4, .int (b2)), (0, .ref 64), (1, .int (xs 1))], [], jzv181) : jS)) rfl ?_
    refine jl_s (S' := ((10, [(3, .int 3), (2, .int 1), (4, .int (b2)), (0, .ref 64), (1, .int (xs 1))], [.int (xs 1)], jzv181) : jS)) rfl ?_
    refine jl_s (S' := ((12, [(3, .int 3), (2, .int 1), (4, .int (b2)), (0, .ref 64), (1, .int (xs 1))], [.int 8, .int (xs 1)], jzv181) : jS)) rfl ?_
    refine jl_s (S' := ((13, [(3, .int 3), (2, .int 1), (4, .int (b2)), (0, .ref 64), (1, .int (xs 1))], [.int 3, .int 8, .int (xs 1)], jzv181) : jS)) rfl ?_
    refine jl_s (S' := ((14, [(3, .int 3), (2, .int 1), (4, .int (b2)), (0, .ref 64), (1, .int (xs 1))], [.int 24, .int (xs 1)], jzv181) : jS)) rfl ?_
    refine jl_s (S' := ((15, [(3, .int 3), (2, .int 1), (4, .int (b2)), (0, .ref 64), (1, .int (xs 1))], [.int ((Int32.toUInt32 (xs 1) >>> (Int32.toUInt32 24 &&& Int32.toUInt32 31)).toInt32)], jzv181) : jS)) rfl ?_
    refine jl_s (S' := ((18, [(3, .int 3), (2, .int 1), (4, .int (b2)), (0, .ref 64), (1, .int (xs 1))], [.int 255, .int ((Int32.toUInt32 (xs 1) >>> (Int32.toUInt32 24 &&& Int32.toUInt32 31)).toInt32)], jzv181) : jS)) rfl ?_
    refine jl_s (S' := ((19, [(3, .int 3), (2, .int 1), (4, .int (b2)), (0, .ref 64), (1, .int (xs 1))], [.int (((Int32.toUInt32 (xs 1) >>> (Int32.toUInt32 24 &&& Int32.toUInt32 31)).toInt32) &&& 255)], jzv181) : jS)) rfl ?_
    rw [e]
    refine jl_s (S' := ((21, [(4, .int (b3)), (3, .int 3), (2, .int 1), (0, .ref 64), (1, .int (xs 1))], [], jzv181) : jS)) rfl ?_
    refine jl_s (S' := ((23, [(4, .int (b3)), (3, .int 3), (2, .int 1), (0, .ref 64), (1, .int (xs 1))], [.int (b3)], jzv181) : jS)) rfl ?_
    refine jl_iff (e := jm20) (o := 34) rfl (h.1.1) ?_
    refine jl_s (S' := ((28, [(4, .int (b3)), (3, .int 3), (2, .int 1), (0, .ref 64), (1, .int (xs 1))], [.int (b3)], jzv181) : jS)) rfl ?_
    refine jl_s (S' := ((30, [(4, .int (b3)), (3, .int 3), (2, .int 1), (0, .ref 64), (1, .int (xs 1))], [.int 10, .int (b3)], jzv181) : jS)) rfl ?_
    refine jl_icf (e := jm20) (o := 27) rfl (h1) ?_
    refine jl_s (S' := ((35, [(4, .int (b3)), (3, .int 3), (2, .int 1), (0, .ref 64), (1, .int (xs 1))], [.int (b3)], jzv181) : jS)) rfl ?_
    refine jl_s (S' := ((37, [(4, .int (b3)), (3, .int 3), (2, .int 1), (0, .ref 64), (1, .int (xs 1))], [.int 32, .int (b3)], jzv181) : jS)) rfl ?_
    refine jl_icf (e := jm20) (o := 10) rfl (h2) ?_
    refine jl_s (S' := ((42, [(4, .int (b3)), (3, .int 3), (2, .int 1), (0, .ref 64), (1, .int (xs 1))], [.int (b3)], jzv181) : jS)) rfl ?_
    refine jl_s (S' := ((44, [(4, .int (b3)), (3, .int 3), (2, .int 1), (0, .ref 64), (1, .int (xs 1))], [.int 126, .int (b3)], jzv181) : jS)) rfl ?_
    refine jl_icf (e := jm20) (o := 13) rfl (h3) ?_
    exact jl_r (r := (.inr 154, jzv182)) rfl
set_option maxHeartbeats 4000000 in
set_option maxRecDepth 100000 in
theorem jzci480 (xs : Nat → Int32) (b0 b1 b2 b3 : Int32) (e3 : ((Int32.toUInt32 (xs 1) >>> (Int32.toUInt32 24 &&& Int32.toUInt32 31)).toInt32) &&& 255 = b3) (h : jbI3 b3) {f : Nat} : jLoop (jRun ((4, xs) : jX) 2000 37) ((4, xs) : jX) jm20 (f + 60) ((4, [(3, .int 3), (2, .int 1), (4, .int (b2)), (0, .ref 64), (1, .int (xs 1))], [], jzv181) : jS) = some (.inr 154, jzv182) := by
  exact jzq479 xs b0 b1 b2 b3 e3 h
set_option maxHeartbeats 4000000 in
set_option maxRecDepth 100000 in
theorem jzci481 (xs : Nat → Int32) (b0 b1 b2 b3 : Int32) (e2 : ((Int32.toUInt32 (xs 1) >>> (Int32.toUInt32 16 &&& Int32.toUInt32 31)).toInt32) &&& 255 = b2) (e3 : ((Int32.toUInt32 (xs 1) >>> (Int32.toUInt32 24 &&& Int32.toUInt32 31)).toInt32) &&& 255 = b3) (h : jbI2 b2 b3) {f : Nat} : jLoop (jRun ((4, xs) : jX) 2000 37) ((4, xs) : jX) jm20 (f + 120) ((4, [(3, .int 2), (2, .int 0), (4, .int (b1)), (0, .ref 64), (1, .int (xs 1))], [], jzv181) : jS) = some (.inr 154, jzv182) := by
  rcases h with h | ⟨h | h, h'⟩
  · exact jzq472 xs b0 b1 b2 b3 e2 h
  · exact jzq273 xs b0 b1 b2 b3 e2 h (jzci476 xs b0 b1 b2 b3 e3 h')
  · exact jzq305 xs b0 b1 b2 b3 e2 h (jzci480 xs b0 b1 b2 b3 e3 h')
set_option maxHeartbeats 4000000 in
set_option maxRecDepth 100000 in
theorem jzq484 (xs : Nat → Int32) (b0 b1 b2 b3 : Int32) (e : ((Int32.toUInt32 (xs 1) >>> (Int32.toUInt32 16 &&& Int32.toUInt32 31)).toInt32) &&& 255 = b2) (h : jbi b2) {f : Nat} : jLoop (jRun ((4, xs) : jX) 2000 37) ((4, xs) : jX) jm20 (f + 23) ((4, [(3, .int 2), (2, .int 1), (4, .int (b1)), (0, .ref 64), (1, .int (xs 1))], [], jzv181) : jS) = some (.inr 154, jzv182) := by
  obtain ⟨-, h1, h2 | ⟨h2, h3, h4⟩⟩ := id h
  · refine jl_s (S' := ((5, [(3, .int 2), (2, .int 1), (4, .int (b1)), (0, .ref 64), (1, .int (xs 1))], [.int 2], jzv181) : jS)) rfl ?_
    refine jl_s (S' := ((6, [(3, .int 2), (2, .int 1), (4, .int (b1)), (0, .ref 64), (1, .int (xs 1))], [.int 4, .int 2], jzv181) : jS)) rfl ?_
    refine jl_s (S' := ((9, [(3, .int 2), (2, .int 1), (4, .int (b1)), (0, .ref 64), (1, .int (xs 1))], [], jzv181) : jS)) rfl ?_
    refine jl_s (S' := ((10, [(3, .int 2), (2, .int 1), (4, .int (b1)), (0, .ref 64), (1, .int (xs 1))], [.int (xs 1)], jzv181) : jS)) rfl ?_
    refine jl_s (S' := ((12, [(3, .int 2), (2, .int 1), (4, .int (b1)), (0, .ref 64), (1, .int (xs 1))], [.int 8, .int (xs 1)], jzv181) : jS)) rfl ?_
    refine jl_s (S' := ((13, [(3, .int 2), (2, .int 1), (4, .int (b1)), (0, .ref 64), (1, .int (xs 1))], [.int 2, .int 8, .int (xs 1)], jzv181) : jS)) rfl ?_
    refine jl_s (S' := ((14, [(3, .int 2), (2, .int 1), (4, .int (b1)), (0, .ref 64), (1, .int (xs 1))], [.int 16, .int (xs 1)], jzv181) : jS)) rfl ?_
    refine jl_s (S' := ((15, [(3, .int 2), (2, .int 1), (4, .int (b1)), (0, .ref 64), (1, .int (xs 1))], [.int ((Int32.toUInt32 (xs 1) >>> (Int32.toUInt32 16 &&& Int32.toUInt32 31)).toInt32)], jzv181) : jS)) rfl ?_
    refine jl_s (S' := ((18, [(3, .int 2), (2, .int 1), (4, .int (b1)), (0, .ref 64), (1, .int (xs 1))], [.int 255, .int ((Int32.toUInt32 (xs 1) >>> (Int32.toUInt32 16 &&& Int32.toUInt32 31)).toInt32)], jzv181) : jS)) rfl ?_
    refine jl_s (S' := ((19, [(3, .int 2), (2, .int 1), (4, .int (b1)), (0, .ref 64), (1, .int (xs 1))], [.int (((Int32.toUInt32 (xs 1) >>> (Int32.toUInt32 16 &&& Int32.toUInt32 31)).toInt32) &&& 255)], jzv181) : jS)) rfl ?_
    rw [e]
    refine jl_s (S' := ((21, [(4, .int (b2)), (3, .int 2), (2, .int 1), (0, .ref 64), (1, .int (xs 1))], [], jzv181) : jS)) rfl ?_
    refine jl_s (S' := ((23, [(4, .int (b2)), (3, .int 2), (2, .int 1), (0, .ref 64), (1, .int (xs 1))], [.int (b2)], jzv181) : jS)) rfl ?_
    refine jl_iff (e := jm20) (o := 34) rfl (h.1.1) ?_
    refine jl_s (S' := ((28, [(4, .int (b2)), (3, .int 2), (2, .int 1), (0, .ref 64), (1, .int (xs 1))], [.int (b2)], jzv181) : jS)) rfl ?_
    refine jl_s (S' := ((30, [(4, .int (b2)), (3, .int 2), (2, .int 1), (0, .ref 64), (1, .int (xs 1))], [.int 10, .int (b2)], jzv181) : jS)) rfl ?_
    refine jl_icf (e := jm20) (o := 27) rfl (h1) ?_
    refine jl_s (S' := ((35, [(4, .int (b2)), (3, .int 2), (2, .int 1), (0, .ref 64), (1, .int (xs 1))], [.int (b2)], jzv181) : jS)) rfl ?_
    refine jl_s (S' := ((37, [(4, .int (b2)), (3, .int 2), (2, .int 1), (0, .ref 64), (1, .int (xs 1))], [.int 32, .int (b2)], jzv181) : jS)) rfl ?_
    refine jl_ict (e := jm20) (o := 10) rfl (h2) (t := 47) rfl ?_
    exact jl_r (r := (.inr 154, jzv182)) rfl
  · refine jl_s (S' := ((5, [(3, .int 2), (2, .int 1), (4, .int (b1)), (0, .ref 64), (1, .int (xs 1))], [.int 2], jzv181) : jS)) rfl ?_
    refine jl_s (S' := ((6, [(3, .int 2), (2, .int 1), (4, .int (b1)), (0, .ref 64), (1, .int (xs 1))], [.int 4, .int 2], jzv181) : jS)) rfl ?_
    refine jl_s (S' := ((9, [(3, .int 2), (2, .int 1), (4, .int (b1)), (0, .ref 64), (1, .int (xs 1))], [], jzv181) : jS)) rfl ?_
    refine jl_s (S' := ((10, [(3, .int 2), (2, .int 1), (4, .int (b1)), (0, .ref 64), (1, .int (xs 1))], [.int (xs 1)], jzv181) : jS)) rfl ?_
    refine jl_s (S' := ((12, [(3, .int 2), (2, .int 1), (4, .int (b1)), (0, .ref 64), (1, .int (xs 1))], [.int 8, .int (xs 1)], jzv181) : jS)) rfl ?_
    refine jl_s (S' := ((13, [(3, .int 2), (2, .int 1), (4, .int (b1)), (0, .ref 64), (1, .int (xs 1))], [.int 2, .int 8, .int (xs 1)], jzv181) : jS)) rfl ?_
    refine jl_s (S' := ((14, [(3, .int 2), (2, .int 1), (4, .int (b1)), (0, .ref 64), (1, .int (xs 1))], [.int 16, .int (xs 1)], jzv181) : jS)) rfl ?_
    refine jl_s (S' := ((15, [(3, .int 2), (2, .int 1), (4, .int (b1)), (0, .ref 64), (1, .int (xs 1))], [.int ((Int32.toUInt32 (xs 1) >>> (Int32.toUInt32 16 &&& Int32.toUInt32 31)).toInt32)], jzv181) : jS)) rfl ?_
    refine jl_s (S' := ((18, [(3, .int 2), (2, .int 1), (4, .int (b1)), (0, .ref 64), (1, .int (xs 1))], [.int 255, .int ((Int32.toUInt32 (xs 1) >>> (Int32.toUInt32 16 &&& Int32.toUInt32 31)).toInt32)], jzv181) : jS)) rfl ?_
    refine jl_s (S' := ((19, [(3, .int 2), (2, .int 1), (4, .int (b1)), (0, .ref 64), (1, .int (xs 1))], [.int (((Int32.toUInt32 (xs 1) >>> (Int32.toUInt32 16 &&& Int32.toUInt32 31)).toInt32) &&& 255)], jzv181) : jS)) rfl ?_
    rw [e]
    refine jl_s (S' := ((21, [(4, .int (b2)), (3, .int 2), (2, .int 1), (0, .ref 64), (1, .int (xs 1))], [], jzv181) : jS)) rfl ?_
    refine jl_s (S' := ((23, [(4, .int (b2)), (3, .int 2), (2, .int 1), (0, .ref 64), (1, .int (xs 1))], [.int (b2)], jzv181) : jS)) rfl ?_
    refine jl_iff (e := jm20) (o := 34) rfl (h.1.1) ?_
    refine jl_s (S' := ((28, [(4, .int (b2)), (3, .int 2), (2, .int 1), (0, .ref 64), (1, .int (xs 1))], [.int (b2)], jzv181) : jS)) rfl ?_
    refine jl_s (S' := ((30, [(4, .int (b2)), (3, .int 2), (2, .int 1), (0, .ref 64), (1, .int (xs 1))], [.int 10, .int (b2)], jzv181) : jS)) rfl ?_
    refine jl_icf (e := jm20) (o := 27) rfl (h1) ?_
    refine jl_s (S' := ((35, [(4, .int (b2)), (3, .int 2), (2, .int 1), (0, .ref 64), (1, .int (xs 1))], [.int (b2)], jzv181) : jS)) rfl ?_
    refine jl_s (S' := ((37, [(4, .int (b2)), (3, .int 2), (2, .int 1), (0, .ref 64), (1, .int (xs 1))], [.int 32, .int (b2)], jzv181) : jS)) rfl ?_
    refine jl_icf (e := jm20) (o := 10) rfl (h2) ?_
    refine jl_s (S' := ((42, [(4, .int (b2)), (3, .int 2), (2, .int 1), (0, .ref 64), (1, .int (xs 1))], [.int (b2)], jzv181) : jS)) rfl ?_
    refine jl_s (S' := ((44, [(4, .int (b2)), (3, .int 2), (2, .int 1), (0, .ref 64), (1, .int (xs 1))], [.int 126, .int (b2)], jzv181) : jS)) rfl ?_
    refine jl_icf (e := jm20) (o := 13) rfl (h3) ?_
    exact jl_r (r := (.inr 154, jzv182)) rfl
set_option maxHeartbeats 4000000 in
set_option maxRecDepth 100000 in
theorem jzq487 (xs : Nat → Int32) (b0 b1 b2 b3 : Int32) (e : ((Int32.toUInt32 (xs 1) >>> (Int32.toUInt32 24 &&& Int32.toUInt32 31)).toInt32) &&& 255 = b3) (h : jbi b3) {f : Nat} : jLoop (jRun ((4, xs) : jX) 2000 37) ((4, xs) : jX) jm20 (f + 23) ((4, [(3, .int 3), (2, .int 2), (4, .int (b2)), (0, .ref 64), (1, .int (xs 1))], [], jzv181) : jS) = some (.inr 154, jzv182) := by
  obtain ⟨-, h1, h2 | ⟨h2, h3, h4⟩⟩ := id h
  · refine jl_s (S' := ((5, [(3, .int 3), (2, .int 2), (4, .int (b2)), (0, .ref 64), (1, .int (xs 1))], [.int 3], jzv181) : jS)) rfl ?_
    refine jl_s (S' := ((6, [(3, .int 3), (2, .int 2), (4, .int (b2)), (0, .ref 64), (1, .int (xs 1))], [.int 4, .int 3], jzv181) : jS)) rfl ?_
    refine jl_s (S' := ((9, [(3, .int 3), (2, .int 2), (4, .int (b2)), (0, .ref 64), (1, .int (xs 1))], [], jzv181) : jS)) rfl ?_
    refine jl_s (S' := ((10, [(3, .int 3), (2, .int 2), (4, .int (b2)), (0, .ref 64), (1, .int (xs 1))], [.int (xs 1)], jzv181) : jS)) rfl ?_
    refine jl_s (S' := ((12, [(3, .int 3), (2, .int 2), (4, .int (b2)), (0, .ref 64), (1, .int (xs 1))], [.int 8, .int (xs 1)], jzv181) : jS)) rfl ?_
    refine jl_s (S' := ((13, [(3, .int 3), (2, .int 2), (4, .int (b2)), (0, .ref 64), (1, .int (xs 1))], [.int 3, .int 8, .int (xs 1)], jzv181) : jS)) rfl ?_
    refine jl_s (S' := ((14, [(3, .int 3), (2, .int 2), (4, .int (b2)), (0, .ref 64), (1, .int (xs 1))], [.int 24, .int (xs 1)], jzv181) : jS)) rfl ?_
    refine jl_s (S' := ((15, [(3, .int 3), (2, .int 2), (4, .int (b2)), (0, .ref 64), (1, .int (xs 1))], [.int ((Int32.toUInt32 (xs 1) >>> (Int32.toUInt32 24 &&& Int32.toUInt32 31)).toInt32)], jzv181) : jS)) rfl ?_
    refine jl_s (S' := ((18, [(3, .int 3), (2, .int 2), (4, .int (b2)), (0, .ref 64), (1, .int (xs 1))], [.int 255, .int ((Int32.toUInt32 (xs 1) >>> (Int32.toUInt32 24 &&& Int32.toUInt32 31)).toInt32)], jzv181) : jS)) rfl ?_
    refine jl_s (S' := ((19, [(3, .int 3), (2, .int 2), (4, .int (b2)), (0, .ref 64), (1, .int (xs 1))], [.int (((Int32.toUInt32 (xs 1) >>> (Int32.toUInt32 24 &&& Int32.toUInt32 31)).toInt32) &&& 255)], jzv181) : jS)) rfl ?_
    rw [e]
    refine jl_s (S' := ((21, [(4, .int (b3)), (3, .int 3), (2, .int 2), (0, .ref 64), (1, .int (xs 1))], [], jzv181) : jS)) rfl ?_
    refine jl_s (S' := ((23, [(4, .int (b3)), (3, .int 3), (2, .int 2), (0, .ref 64), (1, .int (xs 1))], [.int (b3)], jzv181) : jS)) rfl ?_
    refine jl_iff (e := jm20) (o := 34) rfl (h.1.1) ?_
    refine jl_s (S' := ((28, [(4, .int (b3)), (3, .int 3), (2, .int 2), (0, .ref 64), (1, .int (xs 1))], [.int (b3)], jzv181) : jS)) rfl ?_
    refine jl_s (S' := ((30, [(4, .int (b3)), (3, .int 3), (2, .int 2), (0, .ref 64), (1, .int (xs 1))], [.int 10, .int (b3)], jzv181) : jS)) rfl ?_
    refine jl_icf (e := jm20) (o := 27) rfl (h1) ?_
    refine jl_s (S' := ((35, [(4, .int (b3)), (3, .int 3), (2, .int 2), (0, .ref 64), (1, .int (xs 1))], [.int (b3)], jzv181) : jS)) rfl ?_
    refine jl_s (S' := ((37, [(4, .int (b3)), (3, .int 3), (2, .int 2), (0, .ref 64), (1, .int (xs 1))], [.int 32, .int (b3)], jzv181) : jS)) rfl ?_
    refine jl_ict (e := jm20) (o := 10) rfl (h2) (t := 47) rfl ?_
    exact jl_r (r := (.inr 154, jzv182)) rfl
  · refine jl_s (S' := ((5, [(3, .int 3), (2, .int 2), (4, .int (b2)), (0, .ref 64), (1, .int (xs 1))], [.int 3], jzv181) : jS)) rfl ?_
    refine jl_s (S' := ((6, [(3, .int 3), (2, .int 2), (4, .int (b2)), (0, .ref 64), (1, .int (xs 1))], [.int 4, .int 3], jzv181) : jS)) rfl ?_
    refine jl_s (S' := ((9, [(3, .int 3), (2, .int 2), (4, .int (b2)), (0, .ref 64), (1, .int (xs 1))], [], jzv181) : jS)) rfl ?_
    refine jl_s (S' := ((10, [(3, .int 3), (2, .int 2), (4, .int (b2)), (0, .ref 64), (1, .int (xs 1))], [.int (xs 1)], jzv181) : jS)) rfl ?_
    refine jl_s (S' := ((12, [(3, .int 3), (2, .int 2), (4, .int (b2)), (0, .ref 64), (1, .int (xs 1))], [.int 8, .int (xs 1)], jzv181) : jS)) rfl ?_
    refine jl_s (S' := ((13, [(3, .int 3), (2, .int 2), (4, .int (b2)), (0, .ref 64), (1, .int (xs 1))], [.int 3, .int 8, .int (xs 1)], jzv181) : jS)) rfl ?_
    refine jl_s (S' := ((14, [(3, .int 3), (2, .int 2), (4, .int (b2)), (0, .ref 64), (1, .int (xs 1))], [.int 24, .int (xs 1)], jzv181) : jS)) rfl ?_
    refine jl_s (S' := ((15, [(3, .int 3), (2, .int 2), (4, .int (b2)), (0, .ref 64), (1, .int (xs 1))], [.int ((Int32.toUInt32 (xs 1) >>> (Int32.toUInt32 24 &&& Int32.toUInt32 31)).toInt32)], jzv181) : jS)) rfl ?_
    refine jl_s (S' := ((18, [(3, .int 3), (2, .int 2), (4, .int (b2)), (0, .ref 64), (1, .int (xs 1))], [.int 255, .int ((Int32.toUInt32 (xs 1) >>> (Int32.toUInt32 24 &&& Int32.toUInt32 31)).toInt32)], jzv181) : jS)) rfl ?_
    refine jl_s (S' := ((19, [(3, .int 3), (2, .int 2), (4, .int (b2)), (0, .ref 64), (1, .int (xs 1))], [.int (((Int32.toUInt32 (xs 1) >>> (Int32.toUInt32 24 &&& Int32.toUInt32 31)).toInt32) &&& 255)], jzv181) : jS)) rfl ?_
    rw [e]
    refine jl_s (S' := ((21, [(4, .int (b3)), (3, .int 3), (2, .int 2), (0, .ref 64), (1, .int (xs 1))], [], jzv181) : jS)) rfl ?_
    refine jl_s (S' := ((23, [(4, .int (b3)), (3, .int 3), (2, .int 2), (0, .ref 64), (1, .int (xs 1))], [.int (b3)], jzv181) : jS)) rfl ?_
    refine jl_iff (e := jm20) (o := 34) rfl (h.1.1) ?_
    refine jl_s (S' := ((28, [(4, .int (b3)), (3, .int 3), (2, .int 2), (0, .ref 64), (1, .int (xs 1))], [.int (b3)], jzv181) : jS)) rfl ?_
    refine jl_s (S' := ((30, [(4, .int (b3)), (3, .int 3), (2, .int 2), (0, .ref 64), (1, .int (xs 1))], [.int 10, .int (b3)], jzv181) : jS)) rfl ?_
    refine jl_icf (e := jm20) (o := 27) rfl (h1) ?_
    refine jl_s (S' := ((35, [(4, .int (b3)), (3, .int 3), (2, .int 2), (0, .ref 64), (1, .int (xs 1))], [.int (b3)], jzv181) : jS)) rfl ?_
    refine jl_s (S' := ((37, [(4, .int (b3)), (3, .int 3), (2, .int 2), (0, .ref 64), (1, .int (xs 1))], [.int 32, .int (b3)], jzv181) : jS)) rfl ?_
    refine jl_icf (e := jm20) (o := 10) rfl (h2) ?_
    refine jl_s (S' := ((42, [(4, .int (b3)), (3, .int 3), (2, .int 2), (0, .ref 64), (1, .int (xs 1))], [.int (b3)], jzv181) : jS)) rfl ?_
    refine jl_s (S' := ((44, [(4, .int (b3)), (3, .int 3), (2, .int 2), (0, .ref 64), (1, .int (xs 1))], [.int 126, .int (b3)], jzv181) : jS)) rfl ?_
    refine jl_icf (e := jm20) (o := 13) rfl (h3) ?_
    exact jl_r (r := (.inr 154, jzv182)) rfl
set_option maxHeartbeats 4000000 in
set_option maxRecDepth 100000 in
theorem jzci488 (xs : Nat → Int32) (b0 b1 b2 b3 : Int32) (e3 : ((Int32.toUInt32 (xs 1) >>> (Int32.toUInt32 24 &&& Int32.toUInt32 31)).toInt32) &&& 255 = b3) (h : jbI3 b3) {f : Nat} : jLoop (jRun ((4, xs) : jX) 2000 37) ((4, xs) : jX) jm20 (f + 60) ((4, [(3, .int 3), (2, .int 2), (4, .int (b2)), (0, .ref 64), (1, .int (xs 1))], [], jzv181) : jS) = some (.inr 154, jzv182) := by
  exact jzq487 xs b0 b1 b2 b3 e3 h
set_option maxHeartbeats 4000000 in
set_option maxRecDepth 100000 in
theorem jzci489 (xs : Nat → Int32) (b0 b1 b2 b3 : Int32) (e2 : ((Int32.toUInt32 (xs 1) >>> (Int32.toUInt32 16 &&& Int32.toUInt32 31)).toInt32) &&& 255 = b2) (e3 : ((Int32.toUInt32 (xs 1) >>> (Int32.toUInt32 24 &&& Int32.toUInt32 31)).toInt32) &&& 255 = b3) (h : jbI2 b2 b3) {f : Nat} : jLoop (jRun ((4, xs) : jX) 2000 37) ((4, xs) : jX) jm20 (f + 120) ((4, [(3, .int 2), (2, .int 1), (4, .int (b1)), (0, .ref 64), (1, .int (xs 1))], [], jzv181) : jS) = some (.inr 154, jzv182) := by
  rcases h with h | ⟨h | h, h'⟩
  · exact jzq484 xs b0 b1 b2 b3 e2 h
  · exact jzq333 xs b0 b1 b2 b3 e2 h (jzci480 xs b0 b1 b2 b3 e3 h')
  · exact jzq352 xs b0 b1 b2 b3 e2 h (jzci488 xs b0 b1 b2 b3 e3 h')
set_option maxHeartbeats 4000000 in
set_option maxRecDepth 100000 in
theorem jzci490 (xs : Nat → Int32) (b0 b1 b2 b3 : Int32) (e1 : ((Int32.toUInt32 (xs 1) >>> (Int32.toUInt32 8 &&& Int32.toUInt32 31)).toInt32) &&& 255 = b1) (e2 : ((Int32.toUInt32 (xs 1) >>> (Int32.toUInt32 16 &&& Int32.toUInt32 31)).toInt32) &&& 255 = b2) (e3 : ((Int32.toUInt32 (xs 1) >>> (Int32.toUInt32 24 &&& Int32.toUInt32 31)).toInt32) &&& 255 = b3) (h : jbI1 b1 b2 b3) {f : Nat} : jLoop (jRun ((4, xs) : jX) 2000 37) ((4, xs) : jX) jm20 (f + 180) ((4, [(3, .int 1), (2, .int 0), (4, .int (b0)), (0, .ref 64), (1, .int (xs 1))], [], jzv181) : jS) = some (.inr 154, jzv182) := by
  rcases h with h | ⟨h | h, h'⟩
  · exact jzq469 xs b0 b1 b2 b3 e1 h
  · exact jzq271 xs b0 b1 b2 b3 e1 h (jzci481 xs b0 b1 b2 b3 e2 e3 h')
  · exact jzq331 xs b0 b1 b2 b3 e1 h (jzci489 xs b0 b1 b2 b3 e2 e3 h')
set_option maxHeartbeats 4000000 in
set_option maxRecDepth 100000 in
theorem jzq493 (xs : Nat → Int32) (b0 b1 b2 b3 : Int32) (e : ((Int32.toUInt32 (xs 1) >>> (Int32.toUInt32 8 &&& Int32.toUInt32 31)).toInt32) &&& 255 = b1) (h : jbi b1) {f : Nat} : jLoop (jRun ((4, xs) : jX) 2000 37) ((4, xs) : jX) jm20 (f + 23) ((4, [(3, .int 1), (2, .int 1), (4, .int (b0)), (0, .ref 64), (1, .int (xs 1))], [], jzv181) : jS) = some (.inr 154, jzv182) := by
  obtain ⟨-, h1, h2 | ⟨h2, h3, h4⟩⟩ := id h
  · refine jl_s (S' := ((5, [(3, .int 1), (2, .int 1), (4, .int (b0)), (0, .ref 64), (1, .int (xs 1))], [.int 1], jzv181) : jS)) rfl ?_
    refine jl_s (S' := ((6, [(3, .int 1), (2, .int 1), (4, .int (b0)), (0, .ref 64), (1, .int (xs 1))], [.int 4, .int 1], jzv181) : jS)) rfl ?_
    refine jl_s (S' := ((9, [(3, .int 1), (2, .int 1), (4, .int (b0)), (0, .ref 64), (1, .int (xs 1))], [], jzv181) : jS)) rfl ?_
    refine jl_s (S' := ((10, [(3, .int 1), (2, .int 1), (4, .int (b0)), (0, .ref 64), (1, .int (xs 1))], [.int (xs 1)], jzv181) : jS)) rfl ?_
    refine jl_s (S' := ((12, [(3, .int 1), (2, .int 1), (4, .int (b0)), (0, .ref 64), (1, .int (xs 1))], [.int 8, .int (xs 1)], jzv181) : jS)) rfl ?_
    refine jl_s (S' := ((13, [(3, .int 1), (2, .int 1), (4, .int (b0)), (0, .ref 64), (1, .int (xs 1))], [.int 1, .int 8, .int (xs 1)], jzv181) : jS)) rfl ?_
    refine jl_s (S' := ((14, [(3, .int 1), (2, .int 1), (4, .int (b0)), (0, .ref 64), (1, .int (xs 1))], [.int 8, .int (xs 1)], jzv181) : jS)) rfl ?_
    refine jl_s (S' := ((15, [(3, .int 1), (2, .int 1), (4, .int (b0)), (0, .ref 64), (1, .int (xs 1))], [.int ((Int32.toUInt32 (xs 1) >>> (Int32.toUInt32 8 &&& Int32.toUInt32 31)).toInt32)], jzv181) : jS)) rfl ?_
    refine jl_s (S' := ((18, [(3, .int 1), (2, .int 1), (4, .int (b0)), (0, .ref 64), (1, .int (xs 1))], [.int 255, .int ((Int32.toUInt32 (xs 1) >>> (Int32.toUInt32 8 &&& Int32.toUInt32 31)).toInt32)], jzv181) : jS)) rfl ?_
    refine jl_s (S' := ((19, [(3, .int 1), (2, .int 1), (4, .int (b0)), (0, .ref 64), (1, .int (xs 1))], [.int (((Int32.toUInt32 (xs 1) >>> (Int32.toUInt32 8 &&& Int32.toUInt32 31)).toInt32) &&& 255)], jzv181) : jS)) rfl ?_
    rw [e]
    refine jl_s (S' := ((21, [(4, .int (b1)), (3, .int 1), (2, .int 1), (0, .ref 64), (1, .int (xs 1))], [], jzv181) : jS)) rfl ?_
    refine jl_s (S' := ((23, [(4, .int (b1)), (3, .int 1), (2, .int 1), (0, .ref 64), (1, .int (xs 1))], [.int (b1)], jzv181) : jS)) rfl ?_
    refine jl_iff (e := jm20) (o := 34) rfl (h.1.1) ?_
    refine jl_s (S' := ((28, [(4, .int (b1)), (3, .int 1), (2, .int 1), (0, .ref 64), (1, .int (xs 1))], [.int (b1)], jzv181) : jS)) rfl ?_
    refine jl_s (S' := ((30, [(4, .int (b1)), (3, .int 1), (2, .int 1), (0, .ref 64), (1, .int (xs 1))], [.int 10, .int (b1)], jzv181) : jS)) rfl ?_
    refine jl_icf (e := jm20) (o := 27) rfl (h1) ?_
    refine jl_s (S' := ((35, [(4, .int (b1)), (3, .int 1), (2, .int 1), (0, .ref 64), (1, .int (xs 1))], [.int (b1)], jzv181) : jS)) rfl ?_
    refine jl_s (S' := ((37, [(4, .int (b1)), (3, .int 1), (2, .int 1), (0, .ref 64), (1, .int (xs 1))], [.int 32, .int (b1)], jzv181) : jS)) rfl ?_
    refine jl_ict (e := jm20) (o := 10) rfl (h2) (t := 47) rfl ?_
    exact jl_r (r := (.inr 154, jzv182)) rfl
  · refine jl_s (S' := ((5, [(3, .int 1), (2, .int 1), (4, .int (b0)), (0, .ref 64), (1, .int (xs 1))], [.int 1], jzv181) : jS)) rfl ?_
    refine jl_s (S' := ((6, [(3, .int 1), (2, .int 1), (4, .int (b0)), (0, .ref 64), (1, .int (xs 1))], [.int 4, .int 1], jzv181) : jS)) rfl ?_
    refine jl_s (S' := ((9, [(3, .int 1), (2, .int 1), (4, .int (b0)), (0, .ref 64), (1, .int (xs 1))], [], jzv181) : jS)) rfl ?_
    refine jl_s (S' := ((10, [(3, .int 1), (2, .int 1), (4, .int (b0)), (0, .ref 64), (1, .int (xs 1))], [.int (xs 1)], jzv181) : jS)) rfl ?_
    refine jl_s (S' := ((12, [(3, .int 1), (2, .int 1), (4, .int (b0)), (0, .ref 64), (1, .int (xs 1))], [.int 8, .int (xs 1)], jzv181) : jS)) rfl ?_
    refine jl_s (S' := ((13, [(3, .int 1), (2, .int 1), (4, .int (b0)), (0, .ref 64), (1, .int (xs 1))], [.int 1, .int 8, .int (xs 1)], jzv181) : jS)) rfl ?_
    refine jl_s (S' := ((14, [(3, .int 1), (2, .int 1), (4, .int (b0)), (0, .ref 64), (1, .int (xs 1))], [.int 8, .int (xs 1)], jzv181) : jS)) rfl ?_
    refine jl_s (S' := ((15, [(3, .int 1), (2, .int 1), (4, .int (b0)), (0, .ref 64), (1, .int (xs 1))], [.int ((Int32.toUInt32 (xs 1) >>> (Int32.toUInt32 8 &&& Int32.toUInt32 31)).toInt32)], jzv181) : jS)) rfl ?_
    refine jl_s (S' := ((18, [(3, .int 1), (2, .int 1), (4, .int (b0)), (0, .ref 64), (1, .int (xs 1))], [.int 255, .int ((Int32.toUInt32 (xs 1) >>> (Int32.toUInt32 8 &&& Int32.toUInt32 31)).toInt32)], jzv181) : jS)) rfl ?_
    refine jl_s (S' := ((19, [(3, .int 1), (2, .int 1), (4, .int (b0)), (0, .ref 64), (1, .int (xs 1))], [.int (((Int32.toUInt32 (xs 1) >>> (Int32.toUInt32 8 &&& Int32.toUInt32 31)).toInt32) &&& 255)], jzv181) : jS)) rfl ?_
    rw [e]
    refine jl_s (S' := ((21, [(4, .int (b1)), (3, .int 1), (2, .int 1), (0, .ref 64), (1, .int (xs 1))], [], jzv181) : jS)) rfl ?_
    refine jl_s (S' := ((23, [(4, .int (b1)), (3, .int 1), (2, .int 1), (0, .ref 64), (1, .int (xs 1))], [.int (b1)], jzv181) : jS)) rfl ?_
    refine jl_iff (e := jm20) (o := 34) rfl (h.1.1) ?_
    refine jl_s (S' := ((28, [(4, .int (b1)), (3, .int 1), (2, .int 1), (0, .ref 64), (1, .int (xs 1))], [.int (b1)], jzv181) : jS)) rfl ?_
    refine jl_s (S' := ((30, [(4, .int (b1)), (3, .int 1), (2, .int 1), (0, .ref 64), (1, .int (xs 1))], [.int 10, .int (b1)], jzv181) : jS)) rfl ?_
    refine jl_icf (e := jm20) (o := 27) rfl (h1) ?_
    refine jl_s (S' := ((35, [(4, .int (b1)), (3, .int 1), (2, .int 1), (0, .ref 64), (1, .int (xs 1))], [.int (b1)], jzv181) : jS)) rfl ?_
    refine jl_s (S' := ((37, [(4, .int (b1)), (3, .int 1), (2, .int 1), (0, .ref 64), (1, .int (xs 1))], [.int 32, .int (b1)], jzv181) : jS)) rfl ?_
    refine jl_icf (e := jm20) (o := 10) rfl (h2) ?_
    refine jl_s (S' := ((42, [(4, .int (b1)), (3, .int 1), (2, .int 1), (0, .ref 64), (1, .int (xs 1))], [.int (b1)], jzv181) : jS)) rfl ?_
    refine jl_s (S' := ((44, [(4, .int (b1)), (3, .int 1), (2, .int 1), (0, .ref 64), (1, .int (xs 1))], [.int 126, .int (b1)], jzv181) : jS)) rfl ?_
    refine jl_icf (e := jm20) (o := 13) rfl (h3) ?_
    exact jl_r (r := (.inr 154, jzv182)) rfl
set_option maxHeartbeats 4000000 in
set_option maxRecDepth 100000 in
theorem jzq496 (xs : Nat → Int32) (b0 b1 b2 b3 : Int32) (e : ((Int32.toUInt32 (xs 1) >>> (Int32.toUInt32 16 &&& Int32.toUInt32 31)).toInt32) &&& 255 = b2) (h : jbi b2) {f : Nat} : jLoop (jRun ((4, xs) : jX) 2000 37) ((4, xs) : jX) jm20 (f + 23) ((4, [(3, .int 2), (2, .int 2), (4, .int (b1)), (0, .ref 64), (1, .int (xs 1))], [], jzv181) : jS) = some (.inr 154, jzv182) := by
  obtain ⟨-, h1, h2 | ⟨h2, h3, h4⟩⟩ := id h
  · refine jl_s (S' := ((5, [(3, .int 2), (2, .int 2), (4, .int (b1)), (0, .ref 64), (1, .int (xs 1))], [.int 2], jzv181) : jS)) rfl ?_
    refine jl_s (S' := ((6, [(3, .int 2), (2, .int 2), (4, .int (b1)), (0, .ref 64), (1, .int (xs 1))], [.int 4, .int 2], jzv181) : jS)) rfl ?_
    refine jl_s (S' := ((9, [(3, .int 2), (2, .int 2), (4, .int (b1)), (0, .ref 64), (1, .int (xs 1))], [], jzv181) : jS)) rfl ?_
    refine jl_s (S' := ((10, [(3, .int 2), (2, .int 2), (4, .int (b1)), (0, .ref 64), (1, .int (xs 1))], [.int (xs 1)], jzv181) : jS)) rfl ?_
    refine jl_s (S' := ((12, [(3, .int 2), (2, .int 2), (4, .int (b1)), (0, .ref 64), (1, .int (xs 1))], [.int 8, .int (xs 1)], jzv181) : jS)) rfl ?_
    refine jl_s (S' := ((13, [(3, .int 2), (2, .int 2), (4, .int (b1)), (0, .ref 64), (1, .int (xs 1))], [.int 2, .int 8, .int (xs 1)], jzv181) : jS)) rfl ?_
    refine jl_s (S' := ((14, [(3, .int 2), (2, .int 2), (4, .int (b1)), (0, .ref 64), (1, .int (xs 1))], [.int 16, .int (xs 1)], jzv181) : jS)) rfl ?_
    refine jl_s (S' := ((15, [(3, .int 2), (2, .int 2), (4, .int (b1)), (0, .ref 64), (1, .int (xs 1))], [.int ((Int32.toUInt32 (xs 1) >>> (Int32.toUInt32 16 &&& Int32.toUInt32 31)).toInt32)], jzv181) : jS)) rfl ?_
    refine jl_s (S' := ((18, [(3, .int 2), (2, .int 2), (4, .int (b1)), (0, .ref 64), (1, .int (xs 1))], [.int 255, .int ((Int32.toUInt32 (xs 1) >>> (Int32.toUInt32 16 &&& Int32.toUInt32 31)).toInt32)], jzv181) : jS)) rfl ?_
    refine jl_s (S' := ((19, [(3, .int 2), (2, .int 2), (4, .int (b1)), (0, .ref 64), (1, .int (xs 1))], [.int (((Int32.toUInt32 (xs 1) >>> (Int32.toUInt32 16 &&& Int32.toUInt32 31)).toInt32) &&& 255)], jzv181) : jS)) rfl ?_
    rw [e]
    refine jl_s (S' := ((21, [(4, .int (b2)), (3, .int 2), (2, .int 2), (0, .ref 64), (1, .int (xs 1))], [], jzv181) : jS)) rfl ?_
    refine jl_s (S' := ((23, [(4, .int (b2)), (3, .int 2), (2, .int 2), (0, .ref 64), (1, .int (xs 1))], [.int (b2)], jzv181) : jS)) rfl ?_
    refine jl_iff (e := jm20) (o := 34) rfl (h.1.1) ?_
    refine jl_s (S' := ((28, [(4, .int (b2)), (3, .int 2), (2, .int 2), (0, .ref 64), (1, .int (xs 1))], [.int (b2)], jzv181) : jS)) rfl ?_
    refine jl_s (S' := ((30, [(4, .int (b2)), (3, .int 2), (2, .int 2), (0, .ref 64), (1, .int (xs 1))], [.int 10, .int (b2)], jzv181) : jS)) rfl ?_
    refine jl_icf (e := jm20) (o := 27) rfl (h1) ?_
    refine jl_s (S' := ((35, [(4, .int (b2)), (3, .int 2), (2, .int 2), (0, .ref 64), (1, .int (xs 1))], [.int (b2)], jzv181) : jS)) rfl ?_
    refine jl_s (S' := ((37, [(4, .int (b2)), (3, .int 2), (2, .int 2), (0, .ref 64), (1, .int (xs 1))], [.int 32, .int (b2)], jzv181) : jS)) rfl ?_
    refine jl_ict (e := jm20) (o := 10) rfl (h2) (t := 47) rfl ?_
    exact jl_r (r := (.inr 154, jzv182)) rfl
  · refine jl_s (S' := ((5, [(3, .int 2), (2, .int 2), (4, .int (b1)), (0, .ref 64), (1, .int (xs 1))], [.int 2], jzv181) : jS)) rfl ?_
    refine jl_s (S' := ((6, [(3, .int 2), (2, .int 2), (4, .int (b1)), (0, .ref 64), (1, .int (xs 1))], [.int 4, .int 2], jzv181) : jS)) rfl ?_
    refine jl_s (S' := ((9, [(3, .int 2), (2, .int 2), (4, .int (b1)), (0, .ref 64), (1, .int (xs 1))], [], jzv181) : jS)) rfl ?_
    refine jl_s (S' := ((10, [(3, .int 2), (2, .int 2), (4, .int (b1)), (0, .ref 64), (1, .int (xs 1))], [.int (xs 1)], jzv181) : jS)) rfl ?_
    refine jl_s (S' := ((12, [(3, .int 2), (2, .int 2), (4, .int (b1)), (0, .ref 64), (1, .int (xs 1))], [.int 8, .int (xs 1)], jzv181) : jS)) rfl ?_
    refine jl_s (S' := ((13, [(3, .int 2), (2, .int 2), (4, .int (b1)), (0, .ref 64), (1, .int (xs 1))], [.int 2, .int 8, .int (xs 1)], jzv181) : jS)) rfl ?_
    refine jl_s (S' := ((14, [(3, .int 2), (2, .int 2), (4, .int (b1)), (0, .ref 64), (1, .int (xs 1))], [.int 16, .int (xs 1)], jzv181) : jS)) rfl ?_
    refine jl_s (S' := ((15, [(3, .int 2), (2, .int 2), (4, .int (b1)), (0, .ref 64), (1, .int (xs 1))], [.int ((Int32.toUInt32 (xs 1) >>> (Int32.toUInt32 16 &&& Int32.toUInt32 31)).toInt32)], jzv181) : jS)) rfl ?_
    refine jl_s (S' := ((18, [(3, .int 2), (2, .int 2), (4, .int (b1)), (0, .ref 64), (1, .int (xs 1))], [.int 255, .int ((Int32.toUInt32 (xs 1) >>> (Int32.toUInt32 16 &&& Int32.toUInt32 31)).toInt32)], jzv181) : jS)) rfl ?_
    refine jl_s (S' := ((19, [(3, .int 2), (2, .int 2), (4, .int (b1)), (0, .ref 64), (1, .int (xs 1))], [.int (((Int32.toUInt32 (xs 1) >>> (Int32.toUInt32 16 &&& Int32.toUInt32 31)).toInt32) &&& 255)], jzv181) : jS)) rfl ?_
    rw [e]
    refine jl_s (S' := ((21, [(4, .int (b2)), (3, .int 2), (2, .int 2), (0, .ref 64), (1, .int (xs 1))], [], jzv181) : jS)) rfl ?_
    refine jl_s (S' := ((23, [(4, .int (b2)), (3, .int 2), (2, .int 2), (0, .ref 64), (1, .int (xs 1))], [.int (b2)], jzv181) : jS)) rfl ?_
    refine jl_iff (e := jm20) (o := 34) rfl (h.1.1) ?_
    refine jl_s (S' := ((28, [(4, .int (b2)), (3, .int 2), (2, .int 2), (0, .ref 64), (1, .int (xs 1))], [.int (b2)], jzv181) : jS)) rfl ?_
    refine jl_s (S' := ((30, [(4, .int (b2)), (3, .int 2), (2, .int 2), (0, .ref 64), (1, .int (xs 1))], [.int 10, .int (b2)], jzv181) : jS)) rfl ?_
    refine jl_icf (e := jm20) (o := 27) rfl (h1) ?_
    refine jl_s (S' := ((35, [(4, .int (b2)), (3, .int 2), (2, .int 2), (0, .ref 64), (1, .int (xs 1))], [.int (b2)], jzv181) : jS)) rfl ?_
    refine jl_s (S' := ((37, [(4, .int (b2)), (3, .int 2), (2, .int 2), (0, .ref 64), (1, .int (xs 1))], [.int 32, .int (b2)], jzv181) : jS)) rfl ?_
    refine jl_icf (e := jm20) (o := 10) rfl (h2) ?_
    refine jl_s (S' := ((42, [(4, .int (b2)), (3, .int 2), (2, .int 2), (0, .ref 64), (1, .int (xs 1))], [.int (b2)], jzv181) : jS)) rfl ?_
    refine jl_s (S' := ((44, [(4, .int (b2)), (3, .int 2), (2, .int 2), (0, .ref 64), (1, .int (xs 1))], [.int 126, .int (b2)], jzv181) : jS)) rfl ?_
    refine jl_icf (e := jm20) (o := 13) rfl (h3) ?_
    exact jl_r (r := (.inr 154, jzv182)) rfl
set_option maxHeartbeats 4000000 in
set_option maxRecDepth 100000 in
theorem jzq499 (xs : Nat → Int32) (b0 b1 b2 b3 : Int32) (e : ((Int32.toUInt32 (xs 1) >>> (Int32.toUInt32 24 &&& Int32.toUInt32 31)).toInt32) &&& 255 = b3) (h : jbi b3) {f : Nat} : jLoop (jRun ((4, xs) : jX) 2000 37) ((4, xs) : jX) jm20 (f + 23) ((4, [(3, .int 3), (2, .int 3), (4, .int (b2)), (0, .ref 64), (1, .int (xs 1))], [], jzv181) : jS) = some (.inr 154, jzv182) := by
  obtain ⟨-, h1, h2 | ⟨h2, h3, h4⟩⟩ := id h
  · refine jl_s (S' := ((5, [(3, .int 3), (2, .int 3), (4, .int (b2)), (0, .ref 64), (1, .int (xs 1))], [.int 3], jzv181) : jS)) rfl ?_
    refine jl_s (S' := ((6, [(3, .int 3), (2, .int 3), (4, .int (b2)), (0, .ref 64), (1, .int (xs 1))], [.int 4, .int 3], jzv181) : jS)) rfl ?_
    refine jl_s (S' := ((9, [(3, .int 3), (2, .int 3), (4, .int (b2)), (0, .ref 64), (1, .int (xs 1))], [], jzv181) : jS)) rfl ?_
    refine jl_s (S' := ((10, [(3, .int 3), (2, .int 3), (4, .int (b2)), (0, .ref 64), (1, .int (xs 1))], [.int (xs 1)], jzv181) : jS)) rfl ?_
    refine jl_s (S' := ((12, [(3, .int 3), (2, .int 3), (4, .int (b2)), (0, .ref 64), (1, .int (xs 1))], [.int 8, .int (xs 1)], jzv181) : jS)) rfl ?_
    refine jl_s (S' := ((13, [(3, .int 3), (2, .int 3), (4, .int (b2)), (0, .ref 64), (1, .int (xs 1))], [.int 3, .int 8, .int (xs 1)], jzv181) : jS)) rfl ?_
    refine jl_s (S' := ((14, [(3, .int 3), (2, .int 3), (4, .int (b2)), (0, .ref 64), (1, .int (xs 1))], [.int 24, .int (xs 1)], jzv181) : jS)) rfl ?_
    refine jl_s (S' := ((15, [(3, .int 3), (2, .int 3), (4, .int (b2)), (0, .ref 64), (1, .int (xs 1))], [.int ((Int32.toUInt32 (xs 1) >>> (Int32.toUInt32 24 &&& Int32.toUInt32 31)).toInt32)], jzv181) : jS)) rfl ?_
    refine jl_s (S' := ((18, [(3, .int 3), (2, .int 3), (4, .int (b2)), (0, .ref 64), (1, .int (xs 1))], [.int 255, .int ((Int32.toUInt32 (xs 1) >>> (Int32.toUInt32 24 &&& Int32.toUInt32 31)).toInt32)], jzv181) : jS)) rfl ?_
    refine jl_s (S' := ((19, [(3, .int 3), (2, .int 3), (4, .int (b2)), (0, .ref 64), (1, .int (xs 1))], [.int (((Int32.toUInt32 (xs 1) >>> (Int32.toUInt32 24 &&& Int32.toUInt32 31)).toInt32) &&& 255)], jzv181) : jS)) rfl ?_
    rw [e]
    refine jl_s (S' := ((21, [(4, .int (b3)), (3, .int 3), (2, .int 3), (0, .ref 64), (1, .int (xs 1))], [], jzv181) : jS)) rfl ?_
    refine jl_s (S' := ((23, [(4, .int (b3)), (3, .int 3), (2, .int 3), (0, .ref 64), (1, .int (xs 1))], [.int (b3)], jzv181) : jS)) rfl ?_
    refine jl_iff (e := jm20) (o := 34) rfl (h.1.1) ?_
    refine jl_s (S' := ((28, [(4, .int (b3)), (3, .int 3), (2, .int 3), (0, .ref 64), (1, .int (xs 1))], [.int (b3)], jzv181) : jS)) rfl ?_
    refine jl_s (S' := ((30, [(4, .int (b3)), (3, .int 3), (2, .int 3), (0, .ref 64), (1, .int (xs 1))], [.int 10, .int (b3)], jzv181) : jS)) rfl ?_
    refine jl_icf (e := jm20) (o := 27) rfl (h1) ?_
    refine jl_s (S' := ((35, [(4, .int (b3)), (3, .int 3), (2, .int 3), (0, .ref 64), (1, .int (xs 1))], [.int (b3)], jzv181) : jS)) rfl ?_
    refine jl_s (S' := ((37, [(4, .int (b3)), (3, .int 3), (2, .int 3), (0, .ref 64), (1, .int (xs 1))], [.int 32, .int (b3)], jzv181) : jS)) rfl ?_
    refine jl_ict (e := jm20) (o := 10) rfl (h2) (t := 47) rfl ?_
    exact jl_r (r := (.inr 154, jzv182)) rfl
  · refine jl_s (S' := ((5, [(3, .int 3), (2, .int 3), (4, .int (b2)), (0, .ref 64), (1, .int (xs 1))], [.int 3], jzv181) : jS)) rfl ?_
    refine jl_s (S' := ((6, [(3, .int 3), (2, .int 3), (4, .int (b2)), (0, .ref 64), (1, .int (xs 1))], [.int 4, .int 3], jzv181) : jS)) rfl ?_
    refine jl_s (S' := ((9, [(3, .int 3), (2, .int 3), (4, .int (b2)), (0, .ref 64), (1, .int (xs 1))], [], jzv181) : jS)) rfl ?_
    refine jl_s (S' := ((10, [(3, .int 3), (2, .int 3), (4, .int (b2)), (0, .ref 64), (1, .int (xs 1))], [.int (xs 1)], jzv181) : jS)) rfl ?_
    refine jl_s (S' := ((12, [(3, .int 3), (2, .int 3), (4, .int (b2)), (0, .ref 64), (1, .int (xs 1))], [.int 8, .int (xs 1)], jzv181) : jS)) rfl ?_
    refine jl_s (S' := ((13, [(3, .int 3), (2, .int 3), (4, .int (b2)), (0, .ref 64), (1, .int (xs 1))], [.int 3, .int 8, .int (xs 1)], jzv181) : jS)) rfl ?_
    refine jl_s (S' := ((14, [(3, .int 3), (2, .int 3), (4, .int (b2)), (0, .ref 64), (1, .int (xs 1))], [.int 24, .int (xs 1)], jzv181) : jS)) rfl ?_
    refine jl_s (S' := ((15, [(3, .int 3), (2, .int 3), (4, .int (b2)), (0, .ref 64), (1, .int (xs 1))], [.int ((Int32.toUInt32 (xs 1) >>> (Int32.toUInt32 24 &&& Int32.toUInt32 31)).toInt32)], jzv181) : jS)) rfl ?_
    refine jl_s (S' := ((18, [(3, .int 3), (2, .int 3), (4, .int (b2)), (0, .ref 64), (1, .int (xs 1))], [.int 255, .int ((Int32.toUInt32 (xs 1) >>> (Int32.toUInt32 24 &&& Int32.toUInt32 31)).toInt32)], jzv181) : jS)) rfl ?_
    refine jl_s (S' := ((19, [(3, .int 3), (2, .int 3), (4, .int (b2)), (0, .ref 64), (1, .int (xs 1))], [.int (((Int32.toUInt32 (xs 1) >>> (Int32.toUInt32 24 &&& Int32.toUInt32 31)).toInt32) &&& 255)], jzv181) : jS)) rfl ?_
    rw [e]
    refine jl_s (S' := ((21, [(4, .int (b3)), (3, .int 3), (2, .int 3), (0, .ref 64), (1, .int (xs 1))], [], jzv181) : jS)) rfl ?_
    refine jl_s (S' := ((23, [(4, .int (b3)), (3, .int 3), (2, .int 3), (0, .ref 64), (1, .int (xs 1))], [.int (b3)], jzv181) : jS)) rfl ?_
    refine jl_iff (e := jm20) (o := 34) rfl (h.1.1) ?_
    refine jl_s (S' := ((28, [(4, .int (b3)), (3, .int 3), (2, .int 3), (0, .ref 64), (1, .int (xs 1))], [.int (b3)], jzv181) : jS)) rfl ?_
    refine jl_s (S' := ((30, [(4, .int (b3)), (3, .int 3), (2, .int 3), (0, .ref 64), (1, .int (xs 1))], [.int 10, .int (b3)], jzv181) : jS)) rfl ?_
    refine jl_icf (e := jm20) (o := 27) rfl (h1) ?_
    refine jl_s (S' := ((35, [(4, .int (b3)), (3, .int 3), (2, .int 3), (0, .ref 64), (1, .int (xs 1))], [.int (b3)], jzv181) : jS)) rfl ?_
    refine jl_s (S' := ((37, [(4, .int (b3)), (3, .int 3), (2, .int 3), (0, .ref 64), (1, .int (xs 1))], [.int 32, .int (b3)], jzv181) : jS)) rfl ?_
    refine jl_icf (e := jm20) (o := 10) rfl (h2) ?_
    refine jl_s (S' := ((42, [(4, .int (b3)), (3, .int 3), (2, .int 3), (0, .ref 64), (1, .int (xs 1))], [.int (b3)], jzv181) : jS)) rfl ?_
    refine jl_s (S' := ((44, [(4, .int (b3)), (3, .int 3), (2, .int 3), (0, .ref 64), (1, .int (xs 1))], [.int 126, .int (b3)], jzv181) : jS)) rfl ?_
    refine jl_icf (e := jm20) (o := 13) rfl (h3) ?_
    exact jl_r (r := (.inr 154, jzv182)) rfl
set_option maxHeartbeats 4000000 in
set_option maxRecDepth 100000 in
theorem jzci500 (xs : Nat → Int32) (b0 b1 b2 b3 : Int32) (e3 : ((Int32.toUInt32 (xs 1) >>> (Int32.toUInt32 24 &&& Int32.toUInt32 31)).toInt32) &&& 255 = b3) (h : jbI3 b3) {f : Nat} : jLoop (jRun ((4, xs) : jX) 2000 37) ((4, xs) : jX) jm20 (f + 60) ((4, [(3, .int 3), (2, .int 3), (4, .int (b2)), (0, .ref 64), (1, .int (xs 1))], [], jzv181) : jS) = some (.inr 154, jzv182) := by
  exact jzq499 xs b0 b1 b2 b3 e3 h
set_option maxHeartbeats 4000000 in
set_option maxRecDepth 100000 in
theorem jzci501 (xs : Nat → Int32) (b0 b1 b2 b3 : Int32) (e2 : ((Int32.toUInt32 (xs 1) >>> (Int32.toUInt32 16 &&& Int32.toUInt32 31)).toInt32) &&& 255 = b2) (e3 : ((Int32.toUInt32 (xs 1) >>> (Int32.toUInt32 24 &&& Int32.toUInt32 31)).toInt32) &&& 255 = b3) (h : jbI2 b2 b3) {f : Nat} : jLoop (jRun ((4, xs) : jX) 2000 37) ((4, xs) : jX) jm20 (f + 120) ((4, [(3, .int 2), (2, .int 2), (4, .int (b1)), (0, .ref 64), (1, .int (xs 1))], [], jzv181) : jS) = some (.inr 154, jzv182) := by
  rcases h with h | ⟨h | h, h'⟩
  · exact jzq496 xs b0 b1 b2 b3 e2 h
  · exact jzq421 xs b0 b1 b2 b3 e2 h (jzci488 xs b0 b1 b2 b3 e3 h')
  · exact jzq440 xs b0 b1 b2 b3 e2 h (jzci500 xs b0 b1 b2 b3 e3 h')
set_option maxHeartbeats 4000000 in
set_option maxRecDepth 100000 in
theorem jzci502 (xs : Nat → Int32) (b0 b1 b2 b3 : Int32) (e1 : ((Int32.toUInt32 (xs 1) >>> (Int32.toUInt32 8 &&& Int32.toUInt32 31)).toInt32) &&& 255 = b1) (e2 : ((Int32.toUInt32 (xs 1) >>> (Int32.toUInt32 16 &&& Int32.toUInt32 31)).toInt32) &&& 255 = b2) (e3 : ((Int32.toUInt32 (xs 1) >>> (Int32.toUInt32 24 &&& Int32.toUInt32 31)).toInt32) &&& 255 = b3) (h : jbI1 b1 b2 b3) {f : Nat} : jLoop (jRun ((4, xs) : jX) 2000 37) ((4, xs) : jX) jm20 (f + 180) ((4, [(3, .int 1), (2, .int 1), (4, .int (b0)), (0, .ref 64), (1, .int (xs 1))], [], jzv181) : jS) = some (.inr 154, jzv182) := by
  rcases h with h | ⟨h | h, h'⟩
  · exact jzq493 xs b0 b1 b2 b3 e1 h
  · exact jzq380 xs b0 b1 b2 b3 e1 h (jzci489 xs b0 b1 b2 b3 e2 e3 h')
  · exact jzq419 xs b0 b1 b2 b3 e1 h (jzci501 xs b0 b1 b2 b3 e2 e3 h')
set_option maxHeartbeats 4000000 in
set_option maxRecDepth 100000 in
theorem jzci503 (xs : Nat → Int32) (b0 b1 b2 b3 : Int32) (e0 : ((Int32.toUInt32 (xs 1) >>> (Int32.toUInt32 0 &&& Int32.toUInt32 31)).toInt32) &&& 255 = b0) (e1 : ((Int32.toUInt32 (xs 1) >>> (Int32.toUInt32 8 &&& Int32.toUInt32 31)).toInt32) &&& 255 = b1) (e2 : ((Int32.toUInt32 (xs 1) >>> (Int32.toUInt32 16 &&& Int32.toUInt32 31)).toInt32) &&& 255 = b2) (e3 : ((Int32.toUInt32 (xs 1) >>> (Int32.toUInt32 24 &&& Int32.toUInt32 31)).toInt32) &&& 255 = b3) (h : jbI0 b0 b1 b2 b3) {f : Nat} : jLoop (jRun ((4, xs) : jX) 2000 37) ((4, xs) : jX) jm20 (f + 240) ((4, [(3, .int 0), (2, .int 0), (0, .ref 64), (1, .int (xs 1))], [], jzv181) : jS) = some (.inr 154, jzv182) := by
  rcases h with h | ⟨h | h, h'⟩
  · exact jzq466 xs b0 b1 b2 b3 e0 h
  · exact jzq269 xs b0 b1 b2 b3 e0 h (jzci490 xs b0 b1 b2 b3 e1 e2 e3 h')
  · exact jzq378 xs b0 b1 b2 b3 e0 h (jzci502 xs b0 b1 b2 b3 e1 e2 e3 h')
set_option maxHeartbeats 4000000 in
set_option maxRecDepth 100000 in
theorem jzcp_I (xs : Nat → Int32) (b0 b1 b2 b3 : Int32) (e0 : ((Int32.toUInt32 (xs 1) >>> (Int32.toUInt32 0 &&& Int32.toUInt32 31)).toInt32) &&& 255 = b0) (e1 : ((Int32.toUInt32 (xs 1) >>> (Int32.toUInt32 8 &&& Int32.toUInt32 31)).toInt32) &&& 255 = b1) (e2 : ((Int32.toUInt32 (xs 1) >>> (Int32.toUInt32 16 &&& Int32.toUInt32 31)).toInt32) &&& 255 = b2) (e3 : ((Int32.toUInt32 (xs 1) >>> (Int32.toUInt32 24 &&& Int32.toUInt32 31)).toInt32) &&& 255 = b3) (h : jbI0 b0 b1 b2 b3) : jRun ((4, xs) : jX) 2000 38 20 [.ref 64, .int (xs 1)] jzv181 = some (.inr 154, jzv182) := by
  refine jr_run (e := jm20) rfl (Nat.le_of_ble_eq_true rfl) ?_
  refine jzq267 xs b0 b1 b2 b3 ?_
  exact jzci503 xs b0 b1 b2 b3 e0 e1 e2 e3 h
