def jzc119 : jC := .inr (13, [])
def jzv182 : jH := [jzc5, jzc2, jzc117, jzc7, jzc9, jzc9, jzc9, jzc9, jzc9, jzc17, jzc19, jzc19, jzc19, jzc19, jzc19, jzc19, jzc19, jzc19, jzc28, jzc28, jzc28, jzc28, jzc28, jzc28, jzc28, jzc28, jzc28, jzc28, jzc28, jzc28, jzc28, jzc28, jzc43, jzc43, jzc43, jzc43, jzc43, jzc49, jzc49, jzc52, jzc52, jzc52, jzc56, jzc56, jzc59, jzc56, jzc62, jzc28, jzc28, jzc28, jzc28, jzc28, jzc69, jzc71, jzc73, jzc43, jzc76, jzc52, jzc52, jzc80, jzc80, jzc80, jzc84, jzc52, jzc52, jzc52, jzc52, jzc52, jzc52, jzc52, jzc93, jzc93, jzc52, jzc52, jzc98, jzc100, jzc93, jzc52, jzc52, jzc52, jzc52, jzc107, jzc109, jzc111, jzc100, jzc100, jzc100, jzc111, jzc111, jzc118, jzc119]
set_option maxHeartbeats 4000000 in
set_option maxRecDepth 100000 in
theorem jzl4 (xs : Nat → Int32) (hop : xs 0 &&& 31 = 1) (h1 : Op.ifCond.holds .lt (xs 1) = true) (h2 : Op.if_icmp.holds .lt (xs 1) 0 = true) : jRun ((4, xs) : jX) 2000 38 21 [.ref 64, .int (xs 1)] jzv181 = some (.inr 154, jzv182) := by
  refine jr_run (e := jm21) rfl (Nat.le_of_ble_eq_true rfl) ?_
  refine jl_s (S' := ((1, [(0, .ref 64), (1, .int (xs 1))], [.int (xs 1)], jzv181) : jS)) rfl ?_
  refine jl_ift (e := jm21) (o := 11) rfl (h1) (t := 12) rfl ?_
  exact jl_r (r := (.inr 154, jzv182)) rfl
set_option maxHeartbeats 4000000 in
set_option maxRecDepth 100000 in
theorem jzl5 (xs : Nat → Int32) (hop : xs 0 &&& 31 = 1) (h1 : Op.ifCond.holds .lt (xs 1) = true) (h2 : Op.if_icmp.holds .lt (xs 1) 0 = true) : jRun ((4, xs) : jX) 2000 39 1 [.ref 64, .int (xs 1)] jzv181 = some (.inl (some (.int 1)), jzv182) := by
  refine jr_run (e := jm1) rfl (Nat.le_of_ble_eq_true rfl) ?_
  refine jl_s (S' := ((1, [(0, .ref 64), (1, .int (xs 1))], [.ref 64], jzv181) : jS)) rfl ?_
  refine jl_s (S' := ((2, [(0, .ref 64), (1, .int (xs 1))], [.int (xs 1), .ref 64], jzv181) : jS)) rfl ?_
  refine jl_c (t := 21) (as := [.ref 64, .int (xs 1)]) (V := jzv181) (r := (.inr 154, jzv182)) (S' := ((8, [(0, .ref 64), (1, .int (xs 1))], [.ref 154], jzv182) : jS)) rfl (jzl4 xs hop h1 h2) rfl ?_
  refine jl_s (S' := ((9, [(2, .ref 154), (0, .ref 64), (1, .int (xs 1))], [], jzv182) : jS)) rfl ?_
  refine jl_s (S' := ((10, [(2, .ref 154), (0, .ref 64), (1, .int (xs 1))], [.int 1], jzv182) : jS)) rfl ?_
  exact jl_r (r := (.inl (some (.int 1)), jzv182)) rfl
set_option maxHeartbeats 4000000 in
set_option maxRecDepth 100000 in
theorem jzl6 (xs : Nat → Int32) (hop : xs 0 &&& 31 = 1) (h1 : Op.ifCond.holds .lt (xs 1) = true) (h2 : Op.if_icmp.holds .lt (xs 1) 0 = true) : jRun ((4, xs) : jX) 2000 38 246 [.int (xs 1), .int 0, .int 0] jzv182 = some (.inl (some (.int 0)), jzv182) := by
  refine jr_run (e := jm246) rfl (Nat.le_of_ble_eq_true rfl) ?_
  refine jl_s (S' := ((1, [(0, .int (xs 1)), (1, .int 0), (2, .int 0)], [.int (xs 1)], jzv182) : jS)) rfl ?_
  refine jl_s (S' := ((2, [(0, .int (xs 1)), (1, .int 0), (2, .int 0)], [.int 0, .int (xs 1)], jzv182) : jS)) rfl ?_
  refine jl_ict (e := jm246) (o := 12) rfl (h2) (t := 14) rfl ?_
  refine jl_s (S' := ((15, [(0, .int (xs 1)), (1, .int 0), (2, .int 0)], [.int 0], jzv182) : jS)) rfl ?_
  exact jl_r (r := (.inl (some (.int 0)), jzv182)) rfl
def jzc120 : jC := .inr (12, [.int 1, .ref 67, .int 0, .int 0, .ref 68, .ref 69, .ref 70, .ref 71, .ref 72, .int 0, .int 0, .int 0, .int 0, .int 0, .long 0, .int 0, .int 0, .int (-1), .int (-1), .int 0, .ref 73, .ref 74, .ref 75, .ref 76, .ref 77, .ref 78, .ref 79, .ref 80, .int 0, .int 0, .ref 81, .int 0, .ref 82, .ref 83, .ref 84, .ref 85, .ref 86, .ref 87, .ref 88, .ref 89, .ref 90, .ref 91, .ref 92, .ref 93, .ref 94, .ref 95, .int 0, .ref 96, .ref 97, .ref 98, .ref 99, .ref 100, .int 0, .ref 101, .ref 102, .ref 103, .ref 104, .ref 105, .int 0, .int 0, .int 0, .int 0, .int 0, .ref 106, .ref 107, .ref 108, .ref 109, .int 0, .int 0, .ref 110, .int 0, .ref 111, .ref 112, .ref 113, .ref 114, .ref 115, .ref 116, .int 0, .ref 117, .int 0, .ref 118, .int 0, .ref 119, .ref 120, .ref 121, .ref 122, .ref 123, .ref 124, .ref 125, .int 0, .ref 126, .ref 127, .ref 128, .ref 129, .ref 130, .ref 131, .ref 132, .ref 133, .ref 134, .ref 135, .ref 136, .ref 137, .ref 138, .ref 139, .ref 140, .ref 141, .ref 142, .ref 143, .ref 144, .ref 145, .int 0, .int 0, .ref 146, .int 0, .ref 147, .ref 148, .ref 149, .ref 150, .ref 151, .ref 152, .int 0, .int 0])
def jzv183 : jH := [jzc5, jzc2, jzc120, jzc7, jzc9, jzc9, jzc9, jzc9, jzc9, jzc17, jzc19, jzc19, jzc19, jzc19, jzc19, jzc19, jzc19, jzc19, jzc28, jzc28, jzc28, jzc28, jzc28, jzc28, jzc28, jzc28, jzc28, jzc28, jzc28, jzc28, jzc28, jzc28, jzc43, jzc43, jzc43, jzc43, jzc43, jzc49, jzc49, jzc52, jzc52, jzc52, jzc56, jzc56, jzc59, jzc56, jzc62, jzc28, jzc28, jzc28, jzc28, jzc28, jzc69, jzc71, jzc73, jzc43, jzc76, jzc52, jzc52, jzc80, jzc80, jzc80, jzc84, jzc52, jzc52, jzc52, jzc52, jzc52, jzc52, jzc52, jzc93, jzc93, jzc52, jzc52, jzc98, jzc100, jzc93, jzc52, jzc52, jzc52, jzc52, jzc107, jzc109, jzc111, jzc100, jzc100, jzc100, jzc111, jzc111, jzc118, jzc119]
set_option maxHeartbeats 4000000 in
set_option maxRecDepth 100000 in
theorem jzl7 (xs : Nat → Int32) (hop : xs 0 &&& 31 = 1) (h1 : Op.ifCond.holds .lt (xs 1) = true) (h2 : Op.if_icmp.holds .lt (xs 1) 0 = true) : jRun ((4, xs) : jX) 2000 38 245 [.ref 66, .int 1, .int 0, .int 0] jzv182 = some (.inl (some (.int 1)), jzv183) := by
  refine jr_run (e := jm245) rfl (Nat.le_of_ble_eq_true rfl) ?_
  refine jl_s (S' := ((1, [(0, .ref 66), (1, .int 1), (2, .int 0), (3, .int 0)], [.ref 66], jzv182) : jS)) rfl ?_
  refine jl_s (S' := ((2, [(0, .ref 66), (1, .int 1), (2, .int 0), (3, .int 0)], [.int 1, .ref 66], jzv182) : jS)) rfl ?_
  refine jl_s (S' := ((5, [(0, .ref 66), (1, .int 1), (2, .int 0), (3, .int 0)], [.ref 66], jzv182) : jS)) rfl ?_
  refine jl_s (S' := ((6, [(0, .ref 66), (1, .int 1), (2, .int 0), (3, .int 0)], [.int 1, .ref 66], jzv182) : jS)) rfl ?_
  refine jl_s (S' := ((26, [(0, .ref 66), (1, .int 1), (2, .int 0), (3, .int 0)], [.int 1, .ref 66], jzv182) : jS)) rfl ?_
  refine jl_s (S' := ((29, [(0, .ref 66), (1, .int 1), (2, .int 0), (3, .int 0)], [], jzv183) : jS)) rfl ?_
  refine jl_s (S' := ((30, [(0, .ref 66), (1, .int 1), (2, .int 0), (3, .int 0)], [.ref 66], jzv183) : jS)) rfl ?_
  refine jl_s (S' := ((33, [(0, .ref 66), (1, .int 1), (2, .int 0), (3, .int 0)], [.int 1], jzv183) : jS)) rfl ?_
  refine jl_s (S' := ((36, [(0, .ref 66), (1, .int 1), (2, .int 0), (3, .int 0)], [], jzv183) : jS)) rfl ?_
  refine jl_s (S' := ((37, [(0, .ref 66), (1, .int 1), (2, .int 0), (3, .int 0)], [.int 1], jzv183) : jS)) rfl ?_
  refine jl_s (S' := ((41, [(0, .ref 66), (1, .int 1), (2, .int 0), (3, .int 0)], [.int 1], jzv183) : jS)) rfl ?_
  exact jl_r (r := (.inl (some (.int 1)), jzv183)) rfl
set_option maxHeartbeats 4000000 in
set_option maxRecDepth 100000 in
theorem jzl8 (xs : Nat → Int32) (hop : xs 0 &&& 31 = 1) (h1 : Op.ifCond.holds .lt (xs 1) = true) (h2 : Op.if_icmp.holds .lt (xs 1) 0 = true) : jRun ((4, xs) : jX) 2000 39 249 [.ref 66, .int (xs 1)] jzv182 = some (.inl none, jzv183) := by
  refine jr_run (e := jm249) rfl (Nat.le_of_ble_eq_true rfl) ?_
  refine jl_s (S' := ((1, [(0, .ref 66), (1, .int (xs 1))], [.ref 66], jzv182) : jS)) rfl ?_
  refine jl_s (S' := ((2, [(0, .ref 66), (1, .int (xs 1))], [.int (xs 1), .ref 66], jzv182) : jS)) rfl ?_
  refine jl_s (S' := ((3, [(0, .ref 66), (1, .int (xs 1))], [.int 0, .int (xs 1), .ref 66], jzv182) : jS)) rfl ?_
  refine jl_s (S' := ((4, [(0, .ref 66), (1, .int (xs 1))], [.ref 66, .int 0, .int (xs 1), .ref 66], jzv182) : jS)) rfl ?_
  refine jl_s (S' := ((7, [(0, .ref 66), (1, .int (xs 1))], [.int 0, .int 0, .int (xs 1), .ref 66], jzv182) : jS)) rfl ?_
  refine jl_c (t := 246) (as := [.int (xs 1), .int 0, .int 0]) (V := jzv182) (r := (.inl (some (.int 0)), jzv182)) (S' := ((10, [(0, .ref 66), (1, .int (xs 1))], [.int 0, .ref 66], jzv182) : jS)) rfl (jzl6 xs hop h1 h2) rfl ?_
  refine jl_s (S' := ((13, [(0, .ref 66), (1, .int (xs 1))], [.ref 66], jzv182) : jS)) rfl ?_
  refine jl_s (S' := ((14, [(0, .ref 66), (1, .int (xs 1))], [.int 1, .ref 66], jzv182) : jS)) rfl ?_
  refine jl_s (S' := ((18, [(0, .ref 66), (1, .int (xs 1))], [.int 1, .ref 66], jzv182) : jS)) rfl ?_
  refine jl_s (S' := ((19, [(0, .ref 66), (1, .int (xs 1))], [.int 0, .int 1, .ref 66], jzv182) : jS)) rfl ?_
  refine jl_s (S' := ((20, [(0, .ref 66), (1, .int (xs 1))], [.int 0, .int 0, .int 1, .ref 66], jzv182) : jS)) rfl ?_
  refine jl_c (t := 245) (as := [.ref 66, .int 1, .int 0, .int 0]) (V := jzv182) (r := (.inl (some (.int 1)), jzv183)) (S' := ((23, [(0, .ref 66), (1, .int (xs 1))], [.int 1], jzv183) : jS)) rfl (jzl7 xs hop h1 h2) rfl ?_
  refine jl_s (S' := ((31, [(0, .ref 66), (1, .int (xs 1))], [], jzv183) : jS)) rfl ?_
  exact jl_r (r := (.inl none, jzv183)) rfl
set_option maxHeartbeats 4000000 in
set_option maxRecDepth 100000 in
theorem jzl9 (xs : Nat → Int32) (hop : xs 0 &&& 31 = 1) (h1 : Op.ifCond.holds .lt (xs 1) = true) (h2 : Op.if_icmp.holds .lt (xs 1) 0 = true) : jRun ((4, xs) : jX) 2000 39 244 [.ref 66] jzv183 = some (.inl (some (.int 1)), jzv183) := by
  refine jr_run (e := jm244) rfl (Nat.le_of_ble_eq_true rfl) ?_
  refine jl_s (S' := ((1, [(0, .ref 66)], [.ref 66], jzv183) : jS)) rfl ?_
  refine jl_s (S' := ((4, [(0, .ref 66)], [.int 1], jzv183) : jS)) rfl ?_
  exact jl_r (r := (.inl (some (.int 1)), jzv183)) rfl
set_option maxHeartbeats 4000000 in
set_option maxRecDepth 100000 in
theorem jzl10 (xs : Nat → Int32) (hop : xs 0 &&& 31 = 1) (h1 : Op.ifCond.holds .lt (xs 1) = true) (h2 : Op.if_icmp.holds .lt (xs 1) 0 = true) : jLoop (jRun ((4, xs) : jX) 2000 39) ((4, xs) : jX) jm18 1000 ((23, [(4, .int 0), (3, .ref 153), (2, .ref 66), (1, .ref 64), (0, .ref 63)], [], jzv181) : jS) = some (.inl (some (.int 1)), jzv183) := by
  refine jl_s (S' := ((25, [(4, .int 0), (3, .ref 153), (2, .ref 66), (1, .ref 64), (0, .ref 63)], [.int 0], jzv181) : jS)) rfl ?_
  refine jl_s (S' := ((26, [(4, .int 0), (3, .ref 153), (2, .ref 66), (1, .ref 64), (0, .ref 63)], [.ref 63, .int 0], jzv181) : jS)) rfl ?_
  refine jl_s (S' := ((27, [(4, .int 0), (3, .ref 153), (2, .ref 66), (1, .ref 64), (0, .ref 63)], [.int 4, .int 0], jzv181) : jS)) rfl ?_
  refine jl_s (S' := ((28, [(4, .int 0), (3, .ref 153), (2, .ref 66), (1, .ref 64), (0, .ref 63)], [.int 4, .int 4, .int 0], jzv181) : jS)) rfl ?_
  refine jl_s (S' := ((29, [(4, .int 0), (3, .ref 153), (2, .ref 66), (1, .ref 64), (0, .ref 63)], [.int 0, .int 0], jzv181) : jS)) rfl ?_
  refine jl_s (S' := ((32, [(4, .int 0), (3, .ref 153), (2, .ref 66), (1, .ref 64), (0, .ref 63)], [], jzv181) : jS)) rfl ?_
  refine jl_s (S' := ((33, [(4, .int 0), (3, .ref 153), (2, .ref 66), (1, .ref 64), (0, .ref 63)], [.ref 63], jzv181) : jS)) rfl ?_
  refine jl_s (S' := ((35, [(4, .int 0), (3, .ref 153), (2, .ref 66), (1, .ref 64), (0, .ref 63)], [.int 0, .ref 63], jzv181) : jS)) rfl ?_
  refine jl_s (S' := ((36, [(4, .int 0), (3, .ref 153), (2, .ref 66), (1, .ref 64), (0, .ref 63)], [.int (xs 0)], jzv181) : jS)) rfl ?_
  refine jl_s (S' := ((38, [(4, .int 0), (3, .ref 153), (2, .ref 66), (1, .ref 64), (0, .ref 63)], [.int 31, .int (xs 0)], jzv181) : jS)) rfl ?_
  refine jl_s (S' := ((39, [(4, .int 0), (3, .ref 153), (2, .ref 66), (1, .ref 64), (0, .ref 63)], [.int ((xs 0) &&& 31)], jzv181) : jS)) rfl ?_
  rw [hop]
  refine jl_s (S' := ((184, [(4, .int 0), (3, .ref 153), (2, .ref 66), (1, .ref 64), (0, .ref 63)], [], jzv181) : jS)) rfl ?_
  refine jl_s (S' := ((185, [(4, .int 0), (3, .ref 153), (2, .ref 66), (1, .ref 64), (0, .ref 63)], [.ref 64], jzv181) : jS)) rfl ?_
  refine jl_s (S' := ((186, [(4, .int 0), (3, .ref 153), (2, .ref 66), (1, .ref 64), (0, .ref 63)], [.ref 63, .ref 64], jzv181) : jS)) rfl ?_
  refine jl_s (S' := ((188, [(4, .int 0), (3, .ref 153), (2, .ref 66), (1, .ref 64), (0, .ref 63)], [.int 0, .ref 63, .ref 64], jzv181) : jS)) rfl ?_
  refine jl_s (S' := ((189, [(4, .int 0), (3, .ref 153), (2, .ref 66), (1, .ref 64), (0, .ref 63)], [.int 1, .int 0, .ref 63, .ref 64], jzv181) : jS)) rfl ?_
  refine jl_s (S' := ((190, [(4, .int 0), (3, .ref 153), (2, .ref 66), (1, .ref 64), (0, .ref 63)], [.int 1, .ref 63, .ref 64], jzv181) : jS)) rfl ?_
  refine jl_s (S' := ((191, [(4, .int 0), (3, .ref 153), (2, .ref 66), (1, .ref 64), (0, .ref 63)], [.int (xs 1), .ref 64], jzv181) : jS)) rfl ?_
  refine jl_c (t := 1) (as := [.ref 64, .int (xs 1)]) (V := jzv181) (r := (.inl (some (.int 1)), jzv182)) (S' := ((194, [(4, .int 0), (3, .ref 153), (2, .ref 66), (1, .ref 64), (0, .ref 63)], [.int 1], jzv182) : jS)) rfl (jzl5 xs hop h1 h2) rfl ?_
  refine jl_s (S' := ((196, [(5, .int 1), (4, .int 0), (3, .ref 153), (2, .ref 66), (1, .ref 64), (0, .ref 63)], [], jzv182) : jS)) rfl ?_
  refine jl_s (S' := ((197, [(5, .int 1), (4, .int 0), (3, .ref 153), (2, .ref 66), (1, .ref 64), (0, .ref 63)], [.ref 66], jzv182) : jS)) rfl ?_
  refine jl_s (S' := ((198, [(5, .int 1), (4, .int 0), (3, .ref 153), (2, .ref 66), (1, .ref 64), (0, .ref 63)], [.ref 63, .ref 66], jzv182) : jS)) rfl ?_
  refine jl_s (S' := ((200, [(5, .int 1), (4, .int 0), (3, .ref 153), (2, .ref 66), (1, .ref 64), (0, .ref 63)], [.int 0, .ref 63, .ref 66], jzv182) : jS)) rfl ?_
  refine jl_s (S' := ((201, [(5, .int 1), (4, .int 0), (3, .ref 153), (2, .ref 66), (1, .ref 64), (0, .ref 63)], [.int 1, .int 0, .ref 63, .ref 66], jzv182) : jS)) rfl ?_
  refine jl_s (S' := ((202, [(5, .int 1), (4, .int 0), (3, .ref 153), (2, .ref 66), (1, .ref 64), (0, .ref 63)], [.int 1, .ref 63, .ref 66], jzv182) : jS)) rfl ?_
  refine jl_s (S' := ((203, [(5, .int 1), (4, .int 0), (3, .ref 153), (2, .ref 66), (1, .ref 64), (0, .ref 63)], [.int (xs 1), .ref 66], jzv182) : jS)) rfl ?_
  refine jl_c (t := 249) (as := [.ref 66, .int (xs 1)]) (V := jzv182) (r := (.inl none, jzv183)) (S' := ((206, [(5, .int 1), (4, .int 0), (3, .ref 153), (2, .ref 66), (1, .ref 64), (0, .ref 63)], [], jzv183) : jS)) rfl (jzl8 xs hop h1 h2) rfl ?_
  refine jl_s (S' := ((207, [(5, .int 1), (4, .int 0), (3, .ref 153), (2, .ref 66), (1, .ref 64), (0, .ref 63)], [.ref 66], jzv183) : jS)) rfl ?_
  refine jl_c (t := 244) (as := [.ref 66]) (V := jzv183) (r := (.inl (some (.int 1)), jzv183)) (S' := ((210, [(5, .int 1), (4, .int 0), (3, .ref 153), (2, .ref 66), (1, .ref 64), (0, .ref 63)], [.int 1], jzv183) : jS)) rfl (jzl9 xs hop h1 h2) rfl ?_
  refine jl_s (S' := ((212, [(5, .int 1), (4, .int 0), (3, .ref 153), (2, .ref 66), (1, .ref 64), (0, .ref 63)], [.int 1, .int 1], jzv183) : jS)) rfl ?_
  refine jl_s (S' := ((217, [(5, .int 1), (4, .int 0), (3, .ref 153), (2, .ref 66), (1, .ref 64), (0, .ref 63)], [], jzv183) : jS)) rfl ?_
  refine jl_s (S' := ((1193, [(5, .int 1), (4, .int 0), (3, .ref 153), (2, .ref 66), (1, .ref 64), (0, .ref 63)], [], jzv183) : jS)) rfl ?_
  refine jl_s (S' := ((1196, [(4, .int 4), (5, .int 1), (3, .ref 153), (2, .ref 66), (1, .ref 64), (0, .ref 63)], [], jzv183) : jS)) rfl ?_
  refine jl_s (S' := ((23, [(4, .int 4), (5, .int 1), (3, .ref 153), (2, .ref 66), (1, .ref 64), (0, .ref 63)], [], jzv183) : jS)) rfl ?_
  refine jl_s (S' := ((25, [(4, .int 4), (5, .int 1), (3, .ref 153), (2, .ref 66), (1, .ref 64), (0, .ref 63)], [.int 4], jzv183) : jS)) rfl ?_
  refine jl_s (S' := ((26, [(4, .int 4), (5, .int 1), (3, .ref 153), (2, .ref 66), (1, .ref 64), (0, .ref 63)], [.ref 63, .int 4], jzv183) : jS)) rfl ?_
  refine jl_s (S' := ((27, [(4, .int 4), (5, .int 1), (3, .ref 153), (2, .ref 66), (1, .ref 64), (0, .ref 63)], [.int 4, .int 4], jzv183) : jS)) rfl ?_
  refine jl_s (S' := ((28, [(4, .int 4), (5, .int 1), (3, .ref 153), (2, .ref 66), (1, .ref 64), (0, .ref 63)], [.int 4, .int 4, .int 4], jzv183) : jS)) rfl ?_
  refine jl_s (S' := ((29, [(4, .int 4), (5, .int 1), (3, .ref 153), (2, .ref 66), (1, .ref 64), (0, .ref 63)], [.int 0, .int 4], jzv183) : jS)) rfl ?_
  refine jl_s (S' := ((1199, [(4, .int 4), (5, .int 1), (3, .ref 153), (2, .ref 66), (1, .ref 64), (0, .ref 63)], [], jzv183) : jS)) rfl ?_
  refine jl_s (S' := ((1200, [(4, .int 4), (5, .int 1), (3, .ref 153), (2, .ref 66), (1, .ref 64), (0, .ref 63)], [.int 1], jzv183) : jS)) rfl ?_
  exact jl_r (r := (.inl (some (.int 1)), jzv183)) rfl
-- op 1 n: jzl10
set_option maxHeartbeats 4000000 in
set_option maxRecDepth 100000 in
theorem jzl11 (xs : Nat → Int32) (hop : xs 0 &&& 31 = 1) (h1 : Op.ifCond.holds .lt (xs 1) = false) (h2 : Op.if_icmp.holds .le (xs 1) 0 = false) (h3 : Op.if_icmp.holds .lt (xs 1) 0 = false) (h4 : Op.if_icmp.holds .gt (xs 1) 0 = true) : jRun ((4, xs) : jX) 2000 38 21 [.ref 64, .int (xs 1)] jzv181 = some (.inr 154, jzv182) := by
  refine jr_run (e := jm21) rfl (Nat.le_of_ble_eq_true rfl) ?_
  refine jl_s (S' := ((1, [(0, .ref 64), (1, .int (xs 1))], [.int (xs 1)], jzv181) : jS)) rfl ?_
  refine jl_iff (e := jm21) (o := 11) rfl (h1) ?_
  refine jl_s (S' := ((5, [(0, .ref 64), (1, .int (xs 1))], [.int (xs 1)], jzv181) : jS)) rfl ?_
  refine jl_s (S' := ((6, [(0, .ref 64), (1, .int (xs 1))], [.ref 64, .int (xs 1)], jzv181) : jS)) rfl ?_
  refine jl_s (S' := ((9, [(0, .ref 64), (1, .int (xs 1))], [.int 0, .int (xs 1)], jzv181) : jS)) rfl ?_
  refine jl_icf (e := jm21) (o := 13) rfl (h2) ?_
  exact jl_r (r := (.inr 154, jzv182)) rfl
set_option maxHeartbeats 4000000 in
set_option maxRecDepth 100000 in
theorem jzl12 (xs : Nat → Int32) (hop : xs 0 &&& 31 = 1) (h1 : Op.ifCond.holds .lt (xs 1) = false) (h2 : Op.if_icmp.holds .le (xs 1) 0 = false) (h3 : Op.if_icmp.holds .lt (xs 1) 0 = false) (h4 : Op.if_icmp.holds .gt (xs 1) 0 = true) : jRun ((4, xs) : jX) 2000 39 1 [.ref 64, .int (xs 1)] jzv181 = some (.inl (some (.int 1)), jzv182) := by
  refine jr_run (e := jm1) rfl (Nat.le_of_ble_eq_true rfl) ?_
  refine jl_s (S' := ((1, [(0, .ref 64), (1, .int (xs 1))], [.ref 64], jzv181) : jS)) rfl ?_
  refine jl_s (S' := ((2, [(0, .ref 64), (1, .int (xs 1))], [.int (xs 1), .ref 64], jzv181) : jS)) rfl ?_
  refine jl_c (t := 21) (as := [.ref 64, .int (xs 1)]) (V := jzv181) (r := (.inr 154, jzv182)) (S' := ((8, [(0, .ref 64), (1, .int (xs 1))], [.ref 154], jzv182) : jS)) rfl (jzl11 xs hop h1 h2 h3 h4) rfl ?_
  refine jl_s (S' := ((9, [(2, .ref 154), (0, .ref 64), (1, .int (xs 1))], [], jzv182) : jS)) rfl ?_
  refine jl_s (S' := ((10, [(2, .ref 154), (0, .ref 64), (1, .int (xs 1))], [.int 1], jzv182) : jS)) rfl ?_
  exact jl_r (r := (.inl (some (.int 1)), jzv182)) rfl
set_option maxHeartbeats 4000000 in
set_option maxRecDepth 100000 in
theorem jzl13 (xs : Nat → Int32) (hop : xs 0 &&& 31 = 1) (h1 : Op.ifCond.holds .lt (xs 1) = false) (h2 : Op.if_icmp.holds .le (xs 1) 0 = false) (h3 : Op.if_icmp.holds .lt (xs 1) 0 = false) (h4 : Op.if_icmp.holds .gt (xs 1) 0 = true) : jRun ((4, xs) : jX) 2000 38 246 [.int (xs 1), .int 0, .int 0] jzv182 = some (.inl (some (.int 0)), jzv182) := by
  refine jr_run (e := jm246) rfl (Nat.le_of_ble_eq_true rfl) ?_
  refine jl_s (S' := ((1, [(0, .int (xs 1)), (1, .int 0), (2, .int 0)], [.int (xs 1)], jzv182) : jS)) rfl ?_
  refine jl_s (S' := ((2, [(0, .int (xs 1)), (1, .int 0), (2, .int 0)], [.int 0, .int (xs 1)], jzv182) : jS)) rfl ?_
  refine jl_icf (e := jm246) (o := 12) rfl (h3) ?_
  refine jl_s (S' := ((6, [(0, .int (xs 1)), (1, .int 0), (2, .int 0)], [.int (xs 1)], jzv182) : jS)) rfl ?_
  refine jl_s (S' := ((7, [(0, .int (xs 1)), (1, .int 0), (2, .int 0)], [.int 0, .int (xs 1)], jzv182) : jS)) rfl ?_
  refine jl_ict (e := jm246) (o := 7) rfl (h4) (t := 14) rfl ?_
  refine jl_s (S' := ((15, [(0, .int (xs 1)), (1, .int 0), (2, .int 0)], [.int 0], jzv182) : jS)) rfl ?_
  exact jl_r (r := (.inl (some (.int 0)), jzv182)) rfl
set_option maxHeartbeats 4000000 in
set_option maxRecDepth 100000 in
theorem jzl14 (xs : Nat → Int32) (hop : xs 0 &&& 31 = 1) (h1 : Op.ifCond.holds .lt (xs 1) = false) (h2 : Op.if_icmp.holds .le (xs 1) 0 = false) (h3 : Op.if_icmp.holds .lt (xs 1) 0 = false) (h4 : Op.if_icmp.holds .gt (xs 1) 0 = true) : jRun ((4, xs) : jX) 2000 38 245 [.ref 66, .int 1, .int 0, .int 0] jzv182 = some (.inl (some (.int 1)), jzv183) := by
  refine jr_run (e := jm245) rfl (Nat.le_of_ble_eq_true rfl) ?_
  refine jl_s (S' := ((1, [(0, .ref 66), (1, .int 1), (2, .int 0), (3, .int 0)], [.ref 66], jzv182) : jS)) rfl ?_
  refine jl_s (S' := ((2, [(0, .ref 66), (1, .int 1), (2, .int 0), (3, .int 0)], [.int 1, .ref 66], jzv182) : jS)) rfl ?_
  refine jl_s (S' := ((5, [(0, .ref 66), (1, .int 1), (2, .int 0), (3, .int 0)], [.ref 66], jzv182) : jS)) rfl ?_
  refine jl_s (S' := ((6, [(0, .ref 66), (1, .int 1), (2, .int 0), (3, .int 0)], [.int 1, .ref 66], jzv182) : jS)) rfl ?_
  refine jl_s (S' := ((26, [(0, .ref 66), (1, .int 1), (2, .int 0), (3, .int 0)], [.int 1, .ref 66], jzv182) : jS)) rfl ?_
  refine jl_s (S' := ((29, [(0, .ref 66), (1, .int 1), (2, .int 0), (3, .int 0)], [], jzv183) : jS)) rfl ?_
  refine jl_s (S' := ((30, [(0, .ref 66), (1, .int 1), (2, .int 0), (3, .int 0)], [.ref 66], jzv183) : jS)) rfl ?_
  refine jl_s (S' := ((33, [(0, .ref 66), (1, .int 1), (2, .int 0), (3, .int 0)], [.int 1], jzv183) : jS)) rfl ?_
  refine jl_s (S' := ((36, [(0, .ref 66), (1, .int 1), (2, .int 0), (3, .int 0)], [], jzv183) : jS)) rfl ?_
  refine jl_s (S' := ((37, [(0, .ref 66), (1, .int 1), (2, .int 0), (3, .int 0)], [.int 1], jzv183) : jS)) rfl ?_
  refine jl_s (S' := ((41, [(0, .ref 66), (1, .int 1), (2, .int 0), (3, .int 0)], [.int 1], jzv183) : jS)) rfl ?_
  exact jl_r (r := (.inl (some (.int 1)), jzv183)) rfl
set_option maxHeartbeats 4000000 in
set_option maxRecDepth 100000 in
theorem jzl15 (xs : Nat → Int32) (hop : xs 0 &&& 31 = 1) (h1 : Op.ifCond.holds .lt (xs 1) = false) (h2 : Op.if_icmp.holds .le (xs 1) 0 = false) (h3 : Op.if_icmp.holds .lt (xs 1) 0 = false) (h4 : Op.if_icmp.holds .gt (xs 1) 0 = true) : jRun ((4, xs) : jX) 2000 39 249 [.ref 66, .int (xs 1)] jzv182 = some (.inl none, jzv183) := by
  refine jr_run (e := jm249) rfl (Nat.le_of_ble_eq_true rfl) ?_
  refine jl_s (S' := ((1, [(0, .ref 66), (1, .int (xs 1))], [.ref 66], jzv182) : jS)) rfl ?_
  refine jl_s (S' := ((2, [(0, .ref 66), (1, .int (xs 1))], [.int (xs 1), .ref 66], jzv182) : jS)) rfl ?_
  refine jl_s (S' := ((3, [(0, .ref 66), (1, .int (xs 1))], [.int 0, .int (xs 1), .ref 66], jzv182) : jS)) rfl ?_
  refine jl_s (S' := ((4, [(0, .ref 66), (1, .int (xs 1))], [.ref 66, .int 0, .int (xs 1), .ref 66], jzv182) : jS)) rfl ?_
  refine jl_s (S' := ((7, [(0, .ref 66), (1, .int (xs 1))], [.int 0, .int 0, .int (xs 1), .ref 66], jzv182) : jS)) rfl ?_
  refine jl_c (t := 246) (as := [.int (xs 1), .int 0, .int 0]) (V := jzv182) (r := (.inl (some (.int 0)), jzv182)) (S' := ((10, [(0, .ref 66), (1, .int (xs 1))], [.int 0, .ref 66], jzv182) : jS)) rfl (jzl13 xs hop h1 h2 h3 h4) rfl ?_
  refine jl_s (S' := ((13, [(0, .ref 66), (1, .int (xs 1))], [.ref 66], jzv182) : jS)) rfl ?_
  refine jl_s (S' := ((14, [(0, .ref 66), (1, .int (xs 1))], [.int 1, .ref 66], jzv182) : jS)) rfl ?_
  refine jl_s (S' := ((18, [(0, .ref 66), (1, .int (xs 1))], [.int 1, .ref 66], jzv182) : jS)) rfl ?_
  refine jl_s (S' := ((19, [(0, .ref 66), (1, .int (xs 1))], [.int 0, .int 1, .ref 66], jzv182) : jS)) rfl ?_
  refine jl_s (S' := ((20, [(0, .ref 66), (1, .int (xs 1))], [.int 0, .int 0, .int 1, .ref 66], jzv182) : jS)) rfl ?_
  refine jl_c (t := 245) (as := [.ref 66, .int 1, .int 0, .int 0]) (V := jzv182) (r := (.inl (some (.int 1)), jzv183)) (S' := ((23, [(0, .ref 66), (1, .int (xs 1))], [.int 1], jzv183) : jS)) rfl (jzl14 xs hop h1 h2 h3 h4) rfl ?_
  refine jl_s (S' := ((31, [(0, .ref 66), (1, .int (xs 1))], [], jzv183) : jS)) rfl ?_
  exact jl_r (r := (.inl none, jzv183)) rfl
set_option maxHeartbeats 4000000 in
set_option maxRecDepth 100000 in
theorem jzl16 (xs : Nat → Int32) (hop : xs 0 &&& 31 = 1) (h1 : Op.ifCond.holds .lt (xs 1) = false) (h2 : Op.if_icmp.holds .le (xs 1) 0 = false) (h3 : Op.if_icmp.holds .lt (xs 1) 0 = false) (h4 : Op.if_icmp.holds .gt (xs 1) 0 = true) : jRun ((4, xs) : jX) 2000 39 244 [.ref 66] jzv183 = some (.inl (some (.int 1)), jzv183) := by
  refine jr_run (e := jm244) rfl (Nat.le_of_ble_eq_true rfl) ?_
  refine jl_s (S' := ((1, [(0, .ref 66)], [.ref 66], jzv183) : jS)) rfl ?_
  refine jl_s (S' := ((4, [(0, .ref 66)], [.int 1], jzv183) : jS)) rfl ?_
  exact jl_r (r := (.inl (some (.int 1)), jzv183)) rfl
set_option maxHeartbeats 4000000 in
set_option maxRecDepth 100000 in
theorem jzl17 (xs : Nat → Int32) (hop : xs 0 &&& 31 = 1) (h1 : Op.ifCond.holds .lt (xs 1) = false) (h2 : Op.if_icmp.holds .le (xs 1) 0 = false) (h3 : Op.if_icmp.holds .lt (xs 1) 0 = false) (h4 : Op.if_icmp.holds .gt (xs 1) 0 = true) : jLoop (jRun ((4, xs) : jX) 2000 39) ((4, xs) : jX) jm18 1000 ((23, [(4, .int 0), (3, .ref 153), (2, .ref 66), (1, .ref 64), (0, .ref 63)], [], jzv181) : jS) = some (.inl (some (.int 1)), jzv183) := by
  refine jl_s (S' := ((25, [(4, .int 0), (3, .ref 153), (2, .ref 66), (1, .ref 64), (0, .ref 63)], [.int 0], jzv181) : jS)) rfl ?_
  refine jl_s (S' := ((26, [(4, .int 0), (3, .ref 153), (2, .ref 66), (1, .ref 64), (0, .ref 63)], [.ref 63, .int 0], jzv181) : jS)) rfl ?_
  refine jl_s (S' := ((27, [(4, .int 0), (3, .ref 153), (2, .ref 66), (1, .ref 64), (0, .ref 63)], [.int 4, .int 0], jzv181) : jS)) rfl ?_
  refine jl_s (S' := ((28, [(4, .int 0), (3, .ref 153), (2, .ref 66), (1, .ref 64), (0, .ref 63)], [.int 4, .int 4, .int 0], jzv181) : jS)) rfl ?_
  refine jl_s (S' := ((29, [(4, .int 0), (3, .ref 153), (2, .ref 66), (1, .ref 64), (0, .ref 63)], [.int 0, .int 0], jzv181) : jS)) rfl ?_
  refine jl_s (S' := ((32, [(4, .int 0), (3, .ref 153), (2, .ref 66), (1, .ref 64), (0, .ref 63)], [], jzv181) : jS)) rfl ?_
  refine jl_s (S' := ((33, [(4, .int 0), (3, .ref 153), (2, .ref 66), (1, .ref 64), (0, .ref 63)], [.ref 63], jzv181) : jS)) rfl ?_
  refine jl_s (S' := ((35, [(4, .int 0), (3, .ref 153), (2, .ref 66), (1, .ref 64), (0, .ref 63)], [.int 0, .ref 63], jzv181) : jS)) rfl ?_
  refine jl_s (S' := ((36, [(4, .int 0), (3, .ref 153), (2, .ref 66), (1, .ref 64), (0, .ref 63)], [.int (xs 0)], jzv181) : jS)) rfl ?_
  refine jl_s (S' := ((38, [(4, .int 0), (3, .ref 153), (2, .ref 66), (1, .ref 64), (0, .ref 63)], [.int 31, .int (xs 0)], jzv181) : jS)) rfl ?_
  refine jl_s (S' := ((39, [(4, .int 0), (3, .ref 153), (2, .ref 66), (1, .ref 64), (0, .ref 63)], [.int ((xs 0) &&& 31)], jzv181) : jS)) rfl ?_
  rw [hop]
  refine jl_s (S' := ((184, [(4, .int 0), (3, .ref 153), (2, .ref 66), (1, .ref 64), (0, .ref 63)], [], jzv181) : jS)) rfl ?_
  refine jl_s (S' := ((185, [(4, .int 0), (3, .ref 153), (2, .ref 66), (1, .ref 64), (0, .ref 63)], [.ref 64], jzv181) : jS)) rfl ?_
  refine jl_s (S' := ((186, [(4, .int 0), (3, .ref 153), (2, .ref 66), (1, .ref 64), (0, .ref 63)], [.ref 63, .ref 64], jzv181) : jS)) rfl ?_
  refine jl_s (S' := ((188, [(4, .int 0), (3, .ref 153), (2, .ref 66), (1, .ref 64), (0, .ref 63)], [.int 0, .ref 63, .ref 64], jzv181) : jS)) rfl ?_
  refine jl_s (S' := ((189, [(4, .int 0), (3, .ref 153), (2, .ref 66), (1, .ref 64), (0, .ref 63)], [.int 1, .int 0, .ref 63, .ref 64], jzv181) : jS)) rfl ?_
  refine jl_s (S' := ((190, [(4, .int 0), (3, .ref 153), (2, .ref 66), (1, .ref 64), (0, .ref 63)], [.int 1, .ref 63, .ref 64], jzv181) : jS)) rfl ?_
  refine jl_s (S' := ((191, [(4, .int 0), (3, .ref 153), (2, .ref 66), (1, .ref 64), (0, .ref 63)], [.int (xs 1), .ref 64], jzv181) : jS)) rfl ?_
  refine jl_c (t := 1) (as := [.ref 64, .int (xs 1)]) (V := jzv181) (r := (.inl (some (.int 1)), jzv182)) (S' := ((194, [(4, .int 0), (3, .ref 153), (2, .ref 66), (1, .ref 64), (0, .ref 63)], [.int 1], jzv182) : jS)) rfl (jzl12 xs hop h1 h2 h3 h4) rfl ?_
  refine jl_s (S' := ((196, [(5, .int 1), (4, .int 0), (3, .ref 153), (2, .ref 66), (1, .ref 64), (0, .ref 63)], [], jzv182) : jS)) rfl ?_
  refine jl_s (S' := ((197, [(5, .int 1), (4, .int 0), (3, .ref 153), (2, .ref 66), (1, .ref 64), (0, .ref 63)], [.ref 66], jzv182) : jS)) rfl ?_
  refine jl_s (S' := ((198, [(5, .int 1), (4, .int 0), (3, .ref 153), (2, .ref 66), (1, .ref 64), (0, .ref 63)], [.ref 63, .ref 66], jzv182) : jS)) rfl ?_
  refine jl_s (S' := ((200, [(5, .int 1), (4, .int 0), (3, .ref 153), (2, .ref 66), (1, .ref 64), (0, .ref 63)], [.int 0, .ref 63, .ref 66], jzv182) : jS)) rfl ?_
  refine jl_s (S' := ((201, [(5, .int 1), (4, .int 0), (3, .ref 153), (2, .ref 66), (1, .ref 64), (0, .ref 63)], [.int 1, .int 0, .ref 63, .ref 66], jzv182) : jS)) rfl ?_
  refine jl_s (S' := ((202, [(5, .int 1), (4, .int 0), (3, .ref 153), (2, .ref 66), (1, .ref 64), (0, .ref 63)], [.int 1, .ref 63, .ref 66], jzv182) : jS)) rfl ?_
  refine jl_s (S' := ((203, [(5, .int 1), (4, .int 0), (3, .ref 153), (2, .ref 66), (1, .ref 64), (0, .ref 63)], [.int (xs 1), .ref 66], jzv182) : jS)) rfl ?_
  refine jl_c (t := 249) (as := [.ref 66, .int (xs 1)]) (V := jzv182) (r := (.inl none, jzv183)) (S' := ((206, [(5, .int 1), (4, .int 0), (3, .ref 153), (2, .ref 66), (1, .ref 64), (0, .ref 63)], [], jzv183) : jS)) rfl (jzl15 xs hop h1 h2 h3 h4) rfl ?_
  refine jl_s (S' := ((207, [(5, .int 1), (4, .int 0), (3, .ref 153), (2, .ref 66), (1, .ref 64), (0, .ref 63)], [.ref 66], jzv183) : jS)) rfl ?_
  refine jl_c (t := 244) (as := [.ref 66]) (V := jzv183) (r := (.inl (some (.int 1)), jzv183)) (S' := ((210, [(5, .int 1), (4, .int 0), (3, .ref 153), (2, .ref 66), (1, .ref 64), (0, .ref 63)], [.int 1], jzv183) : jS)) rfl (jzl16 xs hop h1 h2 h3 h4) rfl ?_
  refine jl_s (S' := ((212, [(5, .int 1), (4, .int 0), (3, .ref 153), (2, .ref 66), (1, .ref 64), (0, .ref 63)], [.int 1, .int 1], jzv183) : jS)) rfl ?_
  refine jl_s (S' := ((217, [(5, .int 1), (4, .int 0), (3, .ref 153), (2, .ref 66), (1, .ref 64), (0, .ref 63)], [], jzv183) : jS)) rfl ?_
  refine jl_s (S' := ((1193, [(5, .int 1), (4, .int 0), (3, .ref 153), (2, .ref 66), (1, .ref 64), (0, .ref 63)], [], jzv183) : jS)) rfl ?_
  refine jl_s (S' := ((1196, [(4, .int 4), (5, .int 1), (3, .ref 153), (2, .ref 66), (1, .ref 64), (0, .ref 63)], [], jzv183) : jS)) rfl ?_
  refine jl_s (S' := ((23, [(4, .int 4), (5, .int 1), (3, .ref 153), (2, .ref 66), (1, .ref 64), (0, .ref 63)], [], jzv183) : jS)) rfl ?_
  refine jl_s (S' := ((25, [(4, .int 4), (5, .int 1), (3, .ref 153), (2, .ref 66), (1, .ref 64), (0, .ref 63)], [.int 4], jzv183) : jS)) rfl ?_
  refine jl_s (S' := ((26, [(4, .int 4), (5, .int 1), (3, .ref 153), (2, .ref 66), (1, .ref 64), (0, .ref 63)], [.ref 63, .int 4], jzv183) : jS)) rfl ?_
  refine jl_s (S' := ((27, [(4, .int 4), (5, .int 1), (3, .ref 153), (2, .ref 66), (1, .ref 64), (0, .ref 63)], [.int 4, .int 4], jzv183) : jS)) rfl ?_
  refine jl_s (S' := ((28, [(4, .int 4), (5, .int 1), (3, .ref 153), (2, .ref 66), (1, .ref 64), (0, .ref 63)], [.int 4, .int 4, .int 4], jzv183) : jS)) rfl ?_
  refine jl_s (S' := ((29, [(4, .int 4), (5, .int 1), (3, .ref 153), (2, .ref 66), (1, .ref 64), (0, .ref 63)], [.int 0, .int 4], jzv183) : jS)) rfl ?_
  refine jl_s (S' := ((1199, [(4, .int 4), (5, .int 1), (3, .ref 153), (2, .ref 66), (1, .ref 64), (0, .ref 63)], [], jzv183) : jS)) rfl ?_
  refine jl_s (S' := ((1200, [(4, .int 4), (5, .int 1), (3, .ref 153), (2, .ref 66), (1, .ref 64), (0, .ref 63)], [.int 1], jzv183) : jS)) rfl ?_
  exact jl_r (r := (.inl (some (.int 1)), jzv183)) rfl
-- op 1 p: jzl17
set_option maxHeartbeats 4000000 in
set_option maxRecDepth 100000 in
theorem jzl18 (xs : Nat → Int32) (hop : xs 0 &&& 31 = 1)  (hw : xs 1 = 0) : jRun ((4, xs) : jX) 2000 38 21 [.ref 64, .int 0] jzv181 = some (.inl none, jzv181) := by
  refine jr_run (e := jm21) rfl (Nat.le_of_ble_eq_true rfl) ?_
  refine jl_s (S' := ((1, [(0, .ref 64), (1, .int 0)], [.int 0], jzv181) : jS)) rfl ?_
  refine jl_s (S' := ((4, [(0, .ref 64), (1, .int 0)], [], jzv181) : jS)) rfl ?_
  refine jl_s (S' := ((5, [(0, .ref 64), (1, .int 0)], [.int 0], jzv181) : jS)) rfl ?_
  refine jl_s (S' := ((6, [(0, .ref 64), (1, .int 0)], [.ref 64, .int 0], jzv181) : jS)) rfl ?_
  refine jl_s (S' := ((9, [(0, .ref 64), (1, .int 0)], [.int 0, .int 0], jzv181) : jS)) rfl ?_
  refine jl_s (S' := ((22, [(0, .ref 64), (1, .int 0)], [], jzv181) : jS)) rfl ?_
  refine jl_s (S' := ((23, [(0, .ref 64), (1, .int 0)], [.ref 64], jzv181) : jS)) rfl ?_
  refine jl_s (S' := ((24, [(0, .ref 64), (1, .int 0)], [.int 0, .ref 64], jzv181) : jS)) rfl ?_
  refine jl_s (S' := ((27, [(0, .ref 64), (1, .int 0)], [], jzv181) : jS)) rfl ?_
  exact jl_r (r := (.inl none, jzv181)) rfl
set_option maxHeartbeats 4000000 in
set_option maxRecDepth 100000 in
theorem jzl19 (xs : Nat → Int32) (hop : xs 0 &&& 31 = 1)  (hw : xs 1 = 0) : jRun ((4, xs) : jX) 2000 39 1 [.ref 64, .int 0] jzv181 = some (.inl (some (.int 0)), jzv181) := by
  refine jr_run (e := jm1) rfl (Nat.le_of_ble_eq_true rfl) ?_
  refine jl_s (S' := ((1, [(0, .ref 64), (1, .int 0)], [.ref 64], jzv181) : jS)) rfl ?_
  refine jl_s (S' := ((2, [(0, .ref 64), (1, .int 0)], [.int 0, .ref 64], jzv181) : jS)) rfl ?_
  refine jl_c (t := 21) (as := [.ref 64, .int 0]) (V := jzv181) (r := (.inl none, jzv181)) (S' := ((5, [(0, .ref 64), (1, .int 0)], [], jzv181) : jS)) rfl (jzl18 xs hop  hw) rfl ?_
  refine jl_s (S' := ((11, [(0, .ref 64), (1, .int 0)], [], jzv181) : jS)) rfl ?_
  refine jl_s (S' := ((12, [(0, .ref 64), (1, .int 0)], [.int 0], jzv181) : jS)) rfl ?_
  exact jl_r (r := (.inl (some (.int 0)), jzv181)) rfl
set_option maxHeartbeats 4000000 in
set_option maxRecDepth 100000 in
theorem jzl20 (xs : Nat → Int32) (hop : xs 0 &&& 31 = 1)  (hw : xs 1 = 0) : jRun ((4, xs) : jX) 2000 38 246 [.int 0, .int 0, .int 0] jzv181 = some (.inl (some (.int 1)), jzv181) := by
  refine jr_run (e := jm246) rfl (Nat.le_of_ble_eq_true rfl) ?_
  refine jl_s (S' := ((1, [(0, .int 0), (1, .int 0), (2, .int 0)], [.int 0], jzv181) : jS)) rfl ?_
  refine jl_s (S' := ((2, [(0, .int 0), (1, .int 0), (2, .int 0)], [.int 0, .int 0], jzv181) : jS)) rfl ?_
  refine jl_s (S' := ((5, [(0, .int 0), (1, .int 0), (2, .int 0)], [], jzv181) : jS)) rfl ?_
  refine jl_s (S' := ((6, [(0, .int 0), (1, .int 0), (2, .int 0)], [.int 0], jzv181) : jS)) rfl ?_
  refine jl_s (S' := ((7, [(0, .int 0), (1, .int 0), (2, .int 0)], [.int 0, .int 0], jzv181) : jS)) rfl ?_
  refine jl_s (S' := ((10, [(0, .int 0), (1, .int 0), (2, .int 0)], [], jzv181) : jS)) rfl ?_
  refine jl_s (S' := ((11, [(0, .int 0), (1, .int 0), (2, .int 0)], [.int 1], jzv181) : jS)) rfl ?_
  refine jl_s (S' := ((15, [(0, .int 0), (1, .int 0), (2, .int 0)], [.int 1], jzv181) : jS)) rfl ?_
  exact jl_r (r := (.inl (some (.int 1)), jzv181)) rfl
set_option maxHeartbeats 4000000 in
set_option maxRecDepth 100000 in
theorem jzl21 (xs : Nat → Int32) (hop : xs 0 &&& 31 = 1)  (hw : xs 1 = 0) : jRun ((4, xs) : jX) 2000 38 245 [.ref 66, .int 0, .int 0, .int 0] jzv181 = some (.inl (some (.int 0)), jzv181) := by
  refine jr_run (e := jm245) rfl (Nat.le_of_ble_eq_true rfl) ?_
  refine jl_s (S' := ((1, [(0, .ref 66), (1, .int 0), (2, .int 0), (3, .int 0)], [.ref 66], jzv181) : jS)) rfl ?_
  refine jl_s (S' := ((2, [(0, .ref 66), (1, .int 0), (2, .int 0), (3, .int 0)], [.int 0, .ref 66], jzv181) : jS)) rfl ?_
  refine jl_s (S' := ((9, [(0, .ref 66), (1, .int 0), (2, .int 0), (3, .int 0)], [.ref 66], jzv181) : jS)) rfl ?_
  refine jl_s (S' := ((10, [(0, .ref 66), (1, .int 0), (2, .int 0), (3, .int 0)], [.int 0, .ref 66], jzv181) : jS)) rfl ?_
  refine jl_s (S' := ((17, [(0, .ref 66), (1, .int 0), (2, .int 0), (3, .int 0)], [.ref 66], jzv181) : jS)) rfl ?_
  refine jl_s (S' := ((18, [(0, .ref 66), (1, .int 0), (2, .int 0), (3, .int 0)], [.int 0, .ref 66], jzv181) : jS)) rfl ?_
  refine jl_s (S' := ((25, [(0, .ref 66), (1, .int 0), (2, .int 0), (3, .int 0)], [.ref 66], jzv181) : jS)) rfl ?_
  refine jl_s (S' := ((26, [(0, .ref 66), (1, .int 0), (2, .int 0), (3, .int 0)], [.int 0, .ref 66], jzv181) : jS)) rfl ?_
  refine jl_s (S' := ((29, [(0, .ref 66), (1, .int 0), (2, .int 0), (3, .int 0)], [], jzv181) : jS)) rfl ?_
  refine jl_s (S' := ((30, [(0, .ref 66), (1, .int 0), (2, .int 0), (3, .int 0)], [.ref 66], jzv181) : jS)) rfl ?_
  refine jl_s (S' := ((33, [(0, .ref 66), (1, .int 0), (2, .int 0), (3, .int 0)], [.int 0], jzv181) : jS)) rfl ?_
  refine jl_s (S' := ((40, [(0, .ref 66), (1, .int 0), (2, .int 0), (3, .int 0)], [], jzv181) : jS)) rfl ?_
  refine jl_s (S' := ((41, [(0, .ref 66), (1, .int 0), (2, .int 0), (3, .int 0)], [.int 0], jzv181) : jS)) rfl ?_
  exact jl_r (r := (.inl (some (.int 0)), jzv181)) rfl
set_option maxHeartbeats 4000000 in
set_option maxRecDepth 100000 in
theorem jzl22 (xs : Nat → Int32) (hop : xs 0 &&& 31 = 1)  (hw : xs 1 = 0) : jRun ((4, xs) : jX) 2000 39 249 [.ref 66, .int 0] jzv181 = some (.inl none, jzv181) := by
  refine jr_run (e := jm249) rfl (Nat.le_of_ble_eq_true rfl) ?_
  refine jl_s (S' := ((1, [(0, .ref 66), (1, .int 0)], [.ref 66], jzv181) : jS)) rfl ?_
  refine jl_s (S' := ((2, [(0, .ref 66), (1, .int 0)], [.int 0, .ref 66], jzv181) : jS)) rfl ?_
  refine jl_s (S' := ((3, [(0, .ref 66), (1, .int 0)], [.int 0, .int 0, .ref 66], jzv181) : jS)) rfl ?_
  refine jl_s (S' := ((4, [(0, .ref 66), (1, .int 0)], [.ref 66, .int 0, .int 0, .ref 66], jzv181) : jS)) rfl ?_
  refine jl_s (S' := ((7, [(0, .ref 66), (1, .int 0)], [.int 0, .int 0, .int 0, .ref 66], jzv181) : jS)) rfl ?_
  refine jl_c (t := 246) (as := [.int 0, .int 0, .int 0]) (V := jzv181) (r := (.inl (some (.int 1)), jzv181)) (S' := ((10, [(0, .ref 66), (1, .int 0)], [.int 1, .ref 66], jzv181) : jS)) rfl (jzl20 xs hop  hw) rfl ?_
  refine jl_s (S' := ((17, [(0, .ref 66), (1, .int 0)], [.ref 66], jzv181) : jS)) rfl ?_
  refine jl_s (S' := ((18, [(0, .ref 66), (1, .int 0)], [.int 0, .ref 66], jzv181) : jS)) rfl ?_
  refine jl_s (S' := ((19, [(0, .ref 66), (1, .int 0)], [.int 0, .int 0, .ref 66], jzv181) : jS)) rfl ?_
  refine jl_s (S' := ((20, [(0, .ref 66), (1, .int 0)], [.int 0, .int 0, .int 0, .ref 66], jzv181) : jS)) rfl ?_
  refine jl_c (t := 245) (as := [.ref 66, .int 0, .int 0, .int 0]) (V := jzv181) (r := (.inl (some (.int 0)), jzv181)) (S' := ((23, [(0, .ref 66), (1, .int 0)], [.int 0], jzv181) : jS)) rfl (jzl21 xs hop  hw) rfl ?_
  refine jl_s (S' := ((26, [(0, .ref 66), (1, .int 0)], [], jzv181) : jS)) rfl ?_
  refine jl_s (S' := ((27, [(0, .ref 66), (1, .int 0)], [.ref 66], jzv181) : jS)) rfl ?_
  refine jl_s (S' := ((28, [(0, .ref 66), (1, .int 0)], [.int 0, .ref 66], jzv181) : jS)) rfl ?_
  refine jl_s (S' := ((31, [(0, .ref 66), (1, .int 0)], [], jzv181) : jS)) rfl ?_
  exact jl_r (r := (.inl none, jzv181)) rfl
set_option maxHeartbeats 4000000 in
set_option maxRecDepth 100000 in
theorem jzl23 (xs : Nat → Int32) (hop : xs 0 &&& 31 = 1)  (hw : xs 1 = 0) : jRun ((4, xs) : jX) 2000 39 244 [.ref 66] jzv181 = some (.inl (some (.int 0)), jzv181) := by
  refine jr_run (e := jm244) rfl (Nat.le_of_ble_eq_true rfl) ?_
  refine jl_s (S' := ((1, [(0, .ref 66)], [.ref 66], jzv181) : jS)) rfl ?_
  refine jl_s (S' := ((4, [(0, .ref 66)], [.int 0], jzv181) : jS)) rfl ?_
  exact jl_r (r := (.inl (some (.int 0)), jzv181)) rfl
set_option maxHeartbeats 4000000 in
set_option maxRecDepth 100000 in
theorem jzl24 (xs : Nat → Int32) (hop : xs 0 &&& 31 = 1)  (hw : xs 1 = 0) : jLoop (jRun ((4, xs) : jX) 2000 39) ((4, xs) : jX) jm18 1000 ((23, [(4, .int 0), (3, .ref 153), (2, .ref 66), (1, .ref 64), (0, .ref 63)], [], jzv181) : jS) = some (.inl (some (.int 1)), jzv181) := by
  refine jl_s (S' := ((25, [(4, .int 0), (3, .ref 153), (2, .ref 66), (1, .ref 64), (0, .ref 63)], [.int 0], jzv181) : jS)) rfl ?_
  refine jl_s (S' := ((26, [(4, .int 0), (3, .ref 153), (2, .ref 66), (1, .ref 64), (0, .ref 63)], [.ref 63, .int 0], jzv181) : jS)) rfl ?_
  refine jl_s (S' := ((27, [(4, .int 0), (3, .ref 153), (2, .ref 66), (1, .ref 64), (0, .ref 63)], [.int 4, .int 0], jzv181) : jS)) rfl ?_
  refine jl_s (S' := ((28, [(4, .int 0), (3, .ref 153), (2, .ref 66), (1, .ref 64), (0, .ref 63)], [.int 4, .int 4, .int 0], jzv181) : jS)) rfl ?_
  refine jl_s (S' := ((29, [(4, .int 0), (3, .ref 153), (2, .ref 66), (1, .ref 64), (0, .ref 63)], [.int 0, .int 0], jzv181) : jS)) rfl ?_
  refine jl_s (S' := ((32, [(4, .int 0), (3, .ref 153), (2, .ref 66), (1, .ref 64), (0, .ref 63)], [], jzv181) : jS)) rfl ?_
  refine jl_s (S' := ((33, [(4, .int 0), (3, .ref 153), (2, .ref 66), (1, .ref 64), (0, .ref 63)], [.ref 63], jzv181) : jS)) rfl ?_
  refine jl_s (S' := ((35, [(4, .int 0), (3, .ref 153), (2, .ref 66), (1, .ref 64), (0, .ref 63)], [.int 0, .ref 63], jzv181) : jS)) rfl ?_
  refine jl_s (S' := ((36, [(4, .int 0), (3, .ref 153), (2, .ref 66), (1, .ref 64), (0, .ref 63)], [.int (xs 0)], jzv181) : jS)) rfl ?_
  refine jl_s (S' := ((38, [(4, .int 0), (3, .ref 153), (2, .ref 66), (1, .ref 64), (0, .ref 63)], [.int 31, .int (xs 0)], jzv181) : jS)) rfl ?_
  refine jl_s (S' := ((39, [(4, .int 0), (3, .ref 153), (2, .ref 66), (1, .ref 64), (0, .ref 63)], [.int ((xs 0) &&& 31)], jzv181) : jS)) rfl ?_
  rw [hop]
  refine jl_s (S' := ((184, [(4, .int 0), (3, .ref 153), (2, .ref 66), (1, .ref 64), (0, .ref 63)], [], jzv181) : jS)) rfl ?_
  refine jl_s (S' := ((185, [(4, .int 0), (3, .ref 153), (2, .ref 66), (1, .ref 64), (0, .ref 63)], [.ref 64], jzv181) : jS)) rfl ?_
  refine jl_s (S' := ((186, [(4, .int 0), (3, .ref 153), (2, .ref 66), (1, .ref 64), (0, .ref 63)], [.ref 63, .ref 64], jzv181) : jS)) rfl ?_
  refine jl_s (S' := ((188, [(4, .int 0), (3, .ref 153), (2, .ref 66), (1, .ref 64), (0, .ref 63)], [.int 0, .ref 63, .ref 64], jzv181) : jS)) rfl ?_
  refine jl_s (S' := ((189, [(4, .int 0), (3, .ref 153), (2, .ref 66), (1, .ref 64), (0, .ref 63)], [.int 1, .int 0, .ref 63, .ref 64], jzv181) : jS)) rfl ?_
  refine jl_s (S' := ((190, [(4, .int 0), (3, .ref 153), (2, .ref 66), (1, .ref 64), (0, .ref 63)], [.int 1, .ref 63, .ref 64], jzv181) : jS)) rfl ?_
  refine jl_s (S' := ((191, [(4, .int 0), (3, .ref 153), (2, .ref 66), (1, .ref 64), (0, .ref 63)], [.int (xs 1), .ref 64], jzv181) : jS)) rfl ?_
  rw [hw]
  refine jl_c (t := 1) (as := [.ref 64, .int 0]) (V := jzv181) (r := (.inl (some (.int 0)), jzv181)) (S' := ((194, [(4, .int 0), (3, .ref 153), (2, .ref 66), (1, .ref 64), (0, .ref 63)], [.int 0], jzv181) : jS)) rfl (jzl19 xs hop  hw) rfl ?_
  refine jl_s (S' := ((196, [(5, .int 0), (4, .int 0), (3, .ref 153), (2, .ref 66), (1, .ref 64), (0, .ref 63)], [], jzv181) : jS)) rfl ?_
  refine jl_s (S' := ((197, [(5, .int 0), (4, .int 0), (3, .ref 153), (2, .ref 66), (1, .ref 64), (0, .ref 63)], [.ref 66], jzv181) : jS)) rfl ?_
  refine jl_s (S' := ((198, [(5, .int 0), (4, .int 0), (3, .ref 153), (2, .ref 66), (1, .ref 64), (0, .ref 63)], [.ref 63, .ref 66], jzv181) : jS)) rfl ?_
  refine jl_s (S' := ((200, [(5, .int 0), (4, .int 0), (3, .ref 153), (2, .ref 66), (1, .ref 64), (0, .ref 63)], [.int 0, .ref 63, .ref 66], jzv181) : jS)) rfl ?_
  refine jl_s (S' := ((201, [(5, .int 0), (4, .int 0), (3, .ref 153), (2, .ref 66), (1, .ref 64), (0, .ref 63)], [.int 1, .int 0, .ref 63, .ref 66], jzv181) : jS)) rfl ?_
  refine jl_s (S' := ((202, [(5, .int 0), (4, .int 0), (3, .ref 153), (2, .ref 66), (1, .ref 64), (0, .ref 63)], [.int 1, .ref 63, .ref 66], jzv181) : jS)) rfl ?_
  refine jl_s (S' := ((203, [(5, .int 0), (4, .int 0), (3, .ref 153), (2, .ref 66), (1, .ref 64), (0, .ref 63)], [.int (xs 1), .ref 66], jzv181) : jS)) rfl ?_
  rw [hw]
  refine jl_c (t := 249) (as := [.ref 66, .int 0]) (V := jzv181) (r := (.inl none, jzv181)) (S' := ((206, [(5, .int 0), (4, .int 0), (3, .ref 153), (2, .ref 66), (1, .ref 64), (0, .ref 63)], [], jzv181) : jS)) rfl (jzl22 xs hop  hw) rfl ?_
  refine jl_s (S' := ((207, [(5, .int 0), (4, .int 0), (3, .ref 153), (2, .ref 66), (1, .ref 64), (0, .ref 63)], [.ref 66], jzv181) : jS)) rfl ?_
  refine jl_c (t := 244) (as := [.ref 66]) (V := jzv181) (r := (.inl (some (.int 0)), jzv181)) (S' := ((210, [(5, .int 0), (4, .int 0), (3, .ref 153), (2, .ref 66), (1, .ref 64), (0, .ref 63)], [.int 0], jzv181) : jS)) rfl (jzl23 xs hop  hw) rfl ?_
  refine jl_s (S' := ((212, [(5, .int 0), (4, .int 0), (3, .ref 153), (2, .ref 66), (1, .ref 64), (0, .ref 63)], [.int 0, .int 0], jzv181) : jS)) rfl ?_
  refine jl_s (S' := ((217, [(5, .int 0), (4, .int 0), (3, .ref 153), (2, .ref 66), (1, .ref 64), (0, .ref 63)], [], jzv181) : jS)) rfl ?_
  refine jl_s (S' := ((1193, [(5, .int 0), (4, .int 0), (3, .ref 153), (2, .ref 66), (1, .ref 64), (0, .ref 63)], [], jzv181) : jS)) rfl ?_
  refine jl_s (S' := ((1196, [(4, .int 4), (5, .int 0), (3, .ref 153), (2, .ref 66), (1, .ref 64), (0, .ref 63)], [], jzv181) : jS)) rfl ?_
  refine jl_s (S' := ((23, [(4, .int 4), (5, .int 0), (3, .ref 153), (2, .ref 66), (1, .ref 64), (0, .ref 63)], [], jzv181) : jS)) rfl ?_
  refine jl_s (S' := ((25, [(4, .int 4), (5, .int 0), (3, .ref 153), (2, .ref 66), (1, .ref 64), (0, .ref 63)], [.int 4], jzv181) : jS)) rfl ?_
  refine jl_s (S' := ((26, [(4, .int 4), (5, .int 0), (3, .ref 153), (2, .ref 66), (1, .ref 64), (0, .ref 63)], [.ref 63, .int 4], jzv181) : jS)) rfl ?_
  refine jl_s (S' := ((27, [(4, .int 4), (5, .int 0), (3, .ref 153), (2, .ref 66), (1, .ref 64), (0, .ref 63)], [.int 4, .int 4], jzv181) : jS)) rfl ?_
  refine jl_s (S' := ((28, [(4, .int 4), (5, .int 0), (3, .ref 153), (2, .ref 66), (1, .ref 64), (0, .ref 63)], [.int 4, .int 4, .int 4], jzv181) : jS)) rfl ?_
  refine jl_s (S' := ((29, [(4, .int 4), (5, .int 0), (3, .ref 153), (2, .ref 66), (1, .ref 64), (0, .ref 63)], [.int 0, .int 4], jzv181) : jS)) rfl ?_
  refine jl_s (S' := ((1199, [(4, .int 4), (5, .int 0), (3, .ref 153), (2, .ref 66), (1, .ref 64), (0, .ref 63)], [], jzv181) : jS)) rfl ?_
  refine jl_s (S' := ((1200, [(4, .int 4), (5, .int 0), (3, .ref 153), (2, .ref 66), (1, .ref 64), (0, .ref 63)], [.int 1], jzv181) : jS)) rfl ?_
  exact jl_r (r := (.inl (some (.int 1)), jzv181)) rfl
-- op 1 0: jzl24
set_option maxHeartbeats 4000000 in
set_option maxRecDepth 100000 in
theorem jzl25 (xs : Nat → Int32) (hop : xs 0 &&& 31 = 3) (h1 : Op.ifCond.holds .lt (xs 1) = true) (h2 : Op.if_icmp.holds .lt (xs 1) 0 = true) : jRun ((4, xs) : jX) 2000 38 23 [.ref 64, .int (xs 1)] jzv181 = some (.inr 154, jzv182) := by
  refine jr_run (e := jm23) rfl (Nat.le_of_ble_eq_true rfl) ?_
  refine jl_s (S' := ((1, [(0, .ref 64), (1, .int (xs 1))], [.int (xs 1)], jzv181) : jS)) rfl ?_
  refine jl_ift (e := jm23) (o := 8) rfl (h1) (t := 9) rfl ?_
  exact jl_r (r := (.inr 154, jzv182)) rfl
set_option maxHeartbeats 4000000 in
set_option maxRecDepth 100000 in
theorem jzl26 (xs : Nat → Int32) (hop : xs 0 &&& 31 = 3) (h1 : Op.ifCond.holds .lt (xs 1) = true) (h2 : Op.if_icmp.holds .lt (xs 1) 0 = true) : jRun ((4, xs) : jX) 2000 39 2 [.ref 64, .int (xs 1), .ref 153] jzv181 = some (.inl (some (.int 1)), jzv182) := by
  refine jr_run (e := jm2) rfl (Nat.le_of_ble_eq_true rfl) ?_
  refine jl_s (S' := ((1, [(0, .ref 64), (1, .int (xs 1)), (2, .ref 153)], [.ref 153], jzv181) : jS)) rfl ?_
  refine jl_s (S' := ((2, [(0, .ref 64), (1, .int (xs 1)), (2, .ref 153)], [.int 0, .ref 153], jzv181) : jS)) rfl ?_
  refine jl_s (S' := ((3, [(0, .ref 64), (1, .int (xs 1)), (2, .ref 153)], [.ref 64, .int 0, .ref 153], jzv181) : jS)) rfl ?_
  refine jl_s (S' := ((4, [(0, .ref 64), (1, .int (xs 1)), (2, .ref 153)], [.int (xs 1), .ref 64, .int 0, .ref 153], jzv181) : jS)) rfl ?_
  refine jl_c (t := 23) (as := [.ref 64, .int (xs 1)]) (V := jzv181) (r := (.inr 154, jzv182)) (S' := ((12, [(0, .ref 64), (1, .int (xs 1)), (2, .ref 153)], [.ref 154], jzv182) : jS)) rfl (jzl25 xs hop h1 h2) rfl ?_
  refine jl_s (S' := ((13, [(3, .ref 154), (0, .ref 64), (1, .int (xs 1)), (2, .ref 153)], [], jzv182) : jS)) rfl ?_
  refine jl_s (S' := ((14, [(3, .ref 154), (0, .ref 64), (1, .int (xs 1)), (2, .ref 153)], [.int 1], jzv182) : jS)) rfl ?_
  exact jl_r (r := (.inl (some (.int 1)), jzv182)) rfl
set_option maxHeartbeats 4000000 in
set_option maxRecDepth 100000 in
theorem jzl27 (xs : Nat → Int32) (hop : xs 0 &&& 31 = 3) (h1 : Op.ifCond.holds .lt (xs 1) = true) (h2 : Op.if_icmp.holds .lt (xs 1) 0 = true) : jRun ((4, xs) : jX) 2000 38 246 [.int (xs 1), .int 0, .int 2] jzv182 = some (.inl (some (.int 0)), jzv182) := by
  refine jr_run (e := jm246) rfl (Nat.le_of_ble_eq_true rfl) ?_
  refine jl_s (S' := ((1, [(0, .int (xs 1)), (1, .int 0), (2, .int 2)], [.int (xs 1)], jzv182) : jS)) rfl ?_
  refine jl_s (S' := ((2, [(0, .int (xs 1)), (1, .int 0), (2, .int 2)], [.int 0, .int (xs 1)], jzv182) : jS)) rfl ?_
  refine jl_ict (e := jm246) (o := 12) rfl (h2) (t := 14) rfl ?_
  refine jl_s (S' := ((15, [(0, .int (xs 1)), (1, .int 0), (2, .int 2)], [.int 0], jzv182) : jS)) rfl ?_
  exact jl_r (r := (.inl (some (.int 0)), jzv182)) rfl
set_option maxHeartbeats 4000000 in
set_option maxRecDepth 100000 in
theorem jzl28 (xs : Nat → Int32) (hop : xs 0 &&& 31 = 3) (h1 : Op.ifCond.holds .lt (xs 1) = true) (h2 : Op.if_icmp.holds .lt (xs 1) 0 = true) : jRun ((4, xs) : jX) 2000 38 245 [.ref 66, .int 1, .int 0, .int 0] jzv182 = some (.inl (some (.int 1)), jzv183) := by
  refine jr_run (e := jm245) rfl (Nat.le_of_ble_eq_true rfl) ?_
  refine jl_s (S' := ((1, [(0, .ref 66), (1, .int 1), (2, .int 0), (3, .int 0)], [.ref 66], jzv182) : jS)) rfl ?_
  refine jl_s (S' := ((2, [(0, .ref 66), (1, .int 1), (2, .int 0), (3, .int 0)], [.int 1, .ref 66], jzv182) : jS)) rfl ?_
  refine jl_s (S' := ((5, [(0, .ref 66), (1, .int 1), (2, .int 0), (3, .int 0)], [.ref 66], jzv182) : jS)) rfl ?_
  refine jl_s (S' := ((6, [(0, .ref 66), (1, .int 1), (2, .int 0), (3, .int 0)], [.int 1, .ref 66], jzv182) : jS)) rfl ?_
  refine jl_s (S' := ((26, [(0, .ref 66), (1, .int 1), (2, .int 0), (3, .int 0)], [.int 1, .ref 66], jzv182) : jS)) rfl ?_
  refine jl_s (S' := ((29, [(0, .ref 66), (1, .int 1), (2, .int 0), (3, .int 0)], [], jzv183) : jS)) rfl ?_
  refine jl_s (S' := ((30, [(0, .ref 66), (1, .int 1), (2, .int 0), (3, .int 0)], [.ref 66], jzv183) : jS)) rfl ?_
  refine jl_s (S' := ((33, [(0, .ref 66), (1, .int 1), (2, .int 0), (3, .int 0)], [.int 1], jzv183) : jS)) rfl ?_
  refine jl_s (S' := ((36, [(0, .ref 66), (1, .int 1), (2, .int 0), (3, .int 0)], [], jzv183) : jS)) rfl ?_
  refine jl_s (S' := ((37, [(0, .ref 66), (1, .int 1), (2, .int 0), (3, .int 0)], [.int 1], jzv183) : jS)) rfl ?_
  refine jl_s (S' := ((41, [(0, .ref 66), (1, .int 1), (2, .int 0), (3, .int 0)], [.int 1], jzv183) : jS)) rfl ?_
  exact jl_r (r := (.inl (some (.int 1)), jzv183)) rfl
set_option maxHeartbeats 4000000 in
set_option maxRecDepth 100000 in
theorem jzl29 (xs : Nat → Int32) (hop : xs 0 &&& 31 = 3) (h1 : Op.ifCond.holds .lt (xs 1) = true) (h2 : Op.if_icmp.holds .lt (xs 1) 0 = true) : jRun ((4, xs) : jX) 2000 39 367 [.ref 66, .int (xs 1)] jzv182 = some (.inl (some (.int 0)), jzv183) := by
  refine jr_run (e := jm367) rfl (Nat.le_of_ble_eq_true rfl) ?_
  refine jl_s (S' := ((1, [(0, .ref 66), (1, .int (xs 1))], [.ref 66], jzv182) : jS)) rfl ?_
  refine jl_s (S' := ((2, [(0, .ref 66), (1, .int (xs 1))], [.int (xs 1), .ref 66], jzv182) : jS)) rfl ?_
  refine jl_s (S' := ((3, [(0, .ref 66), (1, .int (xs 1))], [.int 0, .int (xs 1), .ref 66], jzv182) : jS)) rfl ?_
  refine jl_s (S' := ((4, [(0, .ref 66), (1, .int (xs 1))], [.int 2, .int 0, .int (xs 1), .ref 66], jzv182) : jS)) rfl ?_
  refine jl_c (t := 246) (as := [.int (xs 1), .int 0, .int 2]) (V := jzv182) (r := (.inl (some (.int 0)), jzv182)) (S' := ((7, [(0, .ref 66), (1, .int (xs 1))], [.int 0, .ref 66], jzv182) : jS)) rfl (jzl27 xs hop h1 h2) rfl ?_
  refine jl_s (S' := ((10, [(0, .ref 66), (1, .int (xs 1))], [.ref 66], jzv182) : jS)) rfl ?_
  refine jl_s (S' := ((11, [(0, .ref 66), (1, .int (xs 1))], [.int 1, .ref 66], jzv182) : jS)) rfl ?_
  refine jl_s (S' := ((15, [(0, .ref 66), (1, .int (xs 1))], [.int 1, .ref 66], jzv182) : jS)) rfl ?_
  refine jl_s (S' := ((16, [(0, .ref 66), (1, .int (xs 1))], [.int 0, .int 1, .ref 66], jzv182) : jS)) rfl ?_
  refine jl_s (S' := ((17, [(0, .ref 66), (1, .int (xs 1))], [.int 0, .int 0, .int 1, .ref 66], jzv182) : jS)) rfl ?_
  refine jl_c (t := 245) (as := [.ref 66, .int 1, .int 0, .int 0]) (V := jzv182) (r := (.inl (some (.int 1)), jzv183)) (S' := ((20, [(0, .ref 66), (1, .int (xs 1))], [.int 1], jzv183) : jS)) rfl (jzl28 xs hop h1 h2) rfl ?_
  refine jl_s (S' := ((23, [(0, .ref 66), (1, .int (xs 1))], [], jzv183) : jS)) rfl ?_
  refine jl_s (S' := ((24, [(0, .ref 66), (1, .int (xs 1))], [.int 0], jzv183) : jS)) rfl ?_
  exact jl_r (r := (.inl (some (.int 0)), jzv183)) rfl
set_option maxHeartbeats 4000000 in
set_option maxRecDepth 100000 in
theorem jzl30 (xs : Nat → Int32) (hop : xs 0 &&& 31 = 3) (h1 : Op.ifCond.holds .lt (xs 1) = true) (h2 : Op.if_icmp.holds .lt (xs 1) 0 = true) : jRun ((4, xs) : jX) 2000 39 244 [.ref 66] jzv183 = some (.inl (some (.int 1)), jzv183) := by
  refine jr_run (e := jm244) rfl (Nat.le_of_ble_eq_true rfl) ?_
  refine jl_s (S' := ((1, [(0, .ref 66)], [.ref 66], jzv183) : jS)) rfl ?_
  refine jl_s (S' := ((4, [(0, .ref 66)], [.int 1], jzv183) : jS)) rfl ?_
  exact jl_r (r := (.inl (some (.int 1)), jzv183)) rfl
set_option maxHeartbeats 4000000 in
set_option maxRecDepth 100000 in
theorem jzl31 (xs : Nat → Int32) (hop : xs 0 &&& 31 = 3) (h1 : Op.ifCond.holds .lt (xs 1) = true) (h2 : Op.if_icmp.holds .lt (xs 1) 0 = true) : jLoop (jRun ((4, xs) : jX) 2000 39) ((4, xs) : jX) jm18 1000 ((23, [(4, .int 0), (3, .ref 153), (2, .ref 66), (1, .ref 64), (0, .ref 63)], [], jzv181) : jS) = some (.inl (some (.int 1)), jzv183) := by
  refine jl_s (S' := ((25, [(4, .int 0), (3, .ref 153), (2, .ref 66), (1, .ref 64), (0, .ref 63)], [.int 0], jzv181) : jS)) rfl ?_
  refine jl_s (S' := ((26, [(4, .int 0), (3, .ref 153), (2, .ref 66), (1, .ref 64), (0, .ref 63)], [.ref 63, .int 0], jzv181) : jS)) rfl ?_
  refine jl_s (S' := ((27, [(4, .int 0), (3, .ref 153), (2, .ref 66), (1, .ref 64), (0, .ref 63)], [.int 4, .int 0], jzv181) : jS)) rfl ?_
  refine jl_s (S' := ((28, [(4, .int 0), (3, .ref 153), (2, .ref 66), (1, .ref 64), (0, .ref 63)], [.int 4, .int 4, .int 0], jzv181) : jS)) rfl ?_
  refine jl_s (S' := ((29, [(4, .int 0), (3, .ref 153), (2, .ref 66), (1, .ref 64), (0, .ref 63)], [.int 0, .int 0], jzv181) : jS)) rfl ?_
  refine jl_s (S' := ((32, [(4, .int 0), (3, .ref 153), (2, .ref 66), (1, .ref 64), (0, .ref 63)], [], jzv181) : jS)) rfl ?_
  refine jl_s (S' := ((33, [(4, .int 0), (3, .ref 153), (2, .ref 66), (1, .ref 64), (0, .ref 63)], [.ref 63], jzv181) : jS)) rfl ?_
  refine jl_s (S' := ((35, [(4, .int 0), (3, .ref 153), (2, .ref 66), (1, .ref 64), (0, .ref 63)], [.int 0, .ref 63], jzv181) : jS)) rfl ?_
  refine jl_s (S' := ((36, [(4, .int 0), (3, .ref 153), (2, .ref 66), (1, .ref 64), (0, .ref 63)], [.int (xs 0)], jzv181) : jS)) rfl ?_
  refine jl_s (S' := ((38, [(4, .int 0), (3, .ref 153), (2, .ref 66), (1, .ref 64), (0, .ref 63)], [.int 31, .int (xs 0)], jzv181) : jS)) rfl ?_
  refine jl_s (S' := ((39, [(4, .int 0), (3, .ref 153), (2, .ref 66), (1, .ref 64), (0, .ref 63)], [.int ((xs 0) &&& 31)], jzv181) : jS)) rfl ?_
  rw [hop]
  refine jl_s (S' := ((233, [(4, .int 0), (3, .ref 153), (2, .ref 66), (1, .ref 64), (0, .ref 63)], [], jzv181) : jS)) rfl ?_
  refine jl_s (S' := ((234, [(4, .int 0), (3, .ref 153), (2, .ref 66), (1, .ref 64), (0, .ref 63)], [.ref 64], jzv181) : jS)) rfl ?_
  refine jl_s (S' := ((235, [(4, .int 0), (3, .ref 153), (2, .ref 66), (1, .ref 64), (0, .ref 63)], [.ref 63, .ref 64], jzv181) : jS)) rfl ?_
  refine jl_s (S' := ((237, [(4, .int 0), (3, .ref 153), (2, .ref 66), (1, .ref 64), (0, .ref 63)], [.int 0, .ref 63, .ref 64], jzv181) : jS)) rfl ?_
  refine jl_s (S' := ((238, [(4, .int 0), (3, .ref 153), (2, .ref 66), (1, .ref 64), (0, .ref 63)], [.int 1, .int 0, .ref 63, .ref 64], jzv181) : jS)) rfl ?_
  refine jl_s (S' := ((239, [(4, .int 0), (3, .ref 153), (2, .ref 66), (1, .ref 64), (0, .ref 63)], [.int 1, .ref 63, .ref 64], jzv181) : jS)) rfl ?_
  refine jl_s (S' := ((240, [(4, .int 0), (3, .ref 153), (2, .ref 66), (1, .ref 64), (0, .ref 63)], [.int (xs 1), .ref 64], jzv181) : jS)) rfl ?_
  refine jl_s (S' := ((241, [(4, .int 0), (3, .ref 153), (2, .ref 66), (1, .ref 64), (0, .ref 63)], [.ref 153, .int (xs 1), .ref 64], jzv181) : jS)) rfl ?_
  refine jl_c (t := 2) (as := [.ref 64, .int (xs 1), .ref 153]) (V := jzv181) (r := (.inl (some (.int 1)), jzv182)) (S' := ((244, [(4, .int 0), (3, .ref 153), (2, .ref 66), (1, .ref 64), (0, .ref 63)], [.int 1], jzv182) : jS)) rfl (jzl26 xs hop h1 h2) rfl ?_
  refine jl_s (S' := ((246, [(5, .int 1), (4, .int 0), (3, .ref 153), (2, .ref 66), (1, .ref 64), (0, .ref 63)], [], jzv182) : jS)) rfl ?_
  refine jl_s (S' := ((247, [(5, .int 1), (4, .int 0), (3, .ref 153), (2, .ref 66), (1, .ref 64), (0, .ref 63)], [.ref 66], jzv182) : jS)) rfl ?_
  refine jl_s (S' := ((248, [(5, .int 1), (4, .int 0), (3, .ref 153), (2, .ref 66), (1, .ref 64), (0, .ref 63)], [.ref 63, .ref 66], jzv182) : jS)) rfl ?_
  refine jl_s (S' := ((250, [(5, .int 1), (4, .int 0), (3, .ref 153), (2, .ref 66), (1, .ref 64), (0, .ref 63)], [.int 0, .ref 63, .ref 66], jzv182) : jS)) rfl ?_
  refine jl_s (S' := ((251, [(5, .int 1), (4, .int 0), (3, .ref 153), (2, .ref 66), (1, .ref 64), (0, .ref 63)], [.int 1, .int 0, .ref 63, .ref 66], jzv182) : jS)) rfl ?_
  refine jl_s (S' := ((252, [(5, .int 1), (4, .int 0), (3, .ref 153), (2, .ref 66), (1, .ref 64), (0, .ref 63)], [.int 1, .ref 63, .ref 66], jzv182) : jS)) rfl ?_
  refine jl_s (S' := ((253, [(5, .int 1), (4, .int 0), (3, .ref 153), (2, .ref 66), (1, .ref 64), (0, .ref 63)], [.int (xs 1), .ref 66], jzv182) : jS)) rfl ?_
  refine jl_c (t := 367) (as := [.ref 66, .int (xs 1)]) (V := jzv182) (r := (.inl (some (.int 0)), jzv183)) (S' := ((256, [(5, .int 1), (4, .int 0), (3, .ref 153), (2, .ref 66), (1, .ref 64), (0, .ref 63)], [.int 0], jzv183) : jS)) rfl (jzl29 xs hop h1 h2) rfl ?_
  refine jl_s (S' := ((258, [(6, .int 0), (5, .int 1), (4, .int 0), (3, .ref 153), (2, .ref 66), (1, .ref 64), (0, .ref 63)], [], jzv183) : jS)) rfl ?_
  refine jl_s (S' := ((259, [(6, .int 0), (5, .int 1), (4, .int 0), (3, .ref 153), (2, .ref 66), (1, .ref 64), (0, .ref 63)], [.ref 66], jzv183) : jS)) rfl ?_
  refine jl_c (t := 244) (as := [.ref 66]) (V := jzv183) (r := (.inl (some (.int 1)), jzv183)) (S' := ((262, [(6, .int 0), (5, .int 1), (4, .int 0), (3, .ref 153), (2, .ref 66), (1, .ref 64), (0, .ref 63)], [.int 1], jzv183) : jS)) rfl (jzl30 xs hop h1 h2) rfl ?_
  refine jl_s (S' := ((264, [(6, .int 0), (5, .int 1), (4, .int 0), (3, .ref 153), (2, .ref 66), (1, .ref 64), (0, .ref 63)], [.int 1, .int 1], jzv183) : jS)) rfl ?_
  refine jl_s (S' := ((269, [(6, .int 0), (5, .int 1), (4, .int 0), (3, .ref 153), (2, .ref 66), (1, .ref 64), (0, .ref 63)], [], jzv183) : jS)) rfl ?_
  refine jl_s (S' := ((271, [(6, .int 0), (5, .int 1), (4, .int 0), (3, .ref 153), (2, .ref 66), (1, .ref 64), (0, .ref 63)], [.int 1], jzv183) : jS)) rfl ?_
  refine jl_s (S' := ((286, [(6, .int 0), (5, .int 1), (4, .int 0), (3, .ref 153), (2, .ref 66), (1, .ref 64), (0, .ref 63)], [], jzv183) : jS)) rfl ?_
  refine jl_s (S' := ((1193, [(6, .int 0), (5, .int 1), (4, .int 0), (3, .ref 153), (2, .ref 66), (1, .ref 64), (0, .ref 63)], [], jzv183) : jS)) rfl ?_
  refine jl_s (S' := ((1196, [(4, .int 4), (6, .int 0), (5, .int 1), (3, .ref 153), (2, .ref 66), (1, .ref 64), (0, .ref 63)], [], jzv183) : jS)) rfl ?_
  refine jl_s (S' := ((23, [(4, .int 4), (6, .int 0), (5, .int 1), (3, .ref 153), (2, .ref 66), (1, .ref 64), (0, .ref 63)], [], jzv183) : jS)) rfl ?_
  refine jl_s (S' := ((25, [(4, .int 4), (6, .int 0), (5, .int 1), (3, .ref 153), (2, .ref 66), (1, .ref 64), (0, .ref 63)], [.int 4], jzv183) : jS)) rfl ?_
  refine jl_s (S' := ((26, [(4, .int 4), (6, .int 0), (5, .int 1), (3, .ref 153), (2, .ref 66), (1, .ref 64), (0, .ref 63)], [.ref 63, .int 4], jzv183) : jS)) rfl ?_
  refine jl_s (S' := ((27, [(4, .int 4), (6, .int 0), (5, .int 1), (3, .ref 153), (2, .ref 66), (1, .ref 64), (0, .ref 63)], [.int 4, .int 4], jzv183) : jS)) rfl ?_
  refine jl_s (S' := ((28, [(4, .int 4), (6, .int 0), (5, .int 1), (3, .ref 153), (2, .ref 66), (1, .ref 64), (0, .ref 63)], [.int 4, .int 4, .int 4], jzv183) : jS)) rfl ?_
  refine jl_s (S' := ((29, [(4, .int 4), (6, .int 0), (5, .int 1), (3, .ref 153), (2, .ref 66), (1, .ref 64), (0, .ref 63)], [.int 0, .int 4], jzv183) : jS)) rfl ?_
  refine jl_s (S' := ((1199, [(4, .int 4), (6, .int 0), (5, .int 1), (3, .ref 153), (2, .ref 66), (1, .ref 64), (0, .ref 63)], [], jzv183) : jS)) rfl ?_
  refine jl_s (S' := ((1200, [(4, .int 4), (6, .int 0), (5, .int 1), (3, .ref 153), (2, .ref 66), (1, .ref 64), (0, .ref 63)], [.int 1], jzv183) : jS)) rfl ?_
  exact jl_r (r := (.inl (some (.int 1)), jzv183)) rfl
-- op 3 n: jzl31
set_option maxHeartbeats 4000000 in
set_option maxRecDepth 100000 in
theorem jzl32 (xs : Nat → Int32) (hop : xs 0 &&& 31 = 3) (h1 : Op.ifCond.holds .lt (xs 1) = false) (h2 : Op.if_icmp.holds .le (xs 1) 2 = false) (h3 : Op.if_icmp.holds .lt (xs 1) 0 = false) (h4 : Op.if_icmp.holds .gt (xs 1) 2 = true) : jRun ((4, xs) : jX) 2000 38 23 [.ref 64, .int (xs 1)] jzv181 = some (.inr 154, jzv182) := by
  refine jr_run (e := jm23) rfl (Nat.le_of_ble_eq_true rfl) ?_
  refine jl_s (S' := ((1, [(0, .ref 64), (1, .int (xs 1))], [.int (xs 1)], jzv181) : jS)) rfl ?_
  refine jl_iff (e := jm23) (o := 8) rfl (h1) ?_
  refine jl_s (S' := ((5, [(0, .ref 64), (1, .int (xs 1))], [.int (xs 1)], jzv181) : jS)) rfl ?_
  refine jl_s (S' := ((6, [(0, .ref 64), (1, .int (xs 1))], [.int 2, .int (xs 1)], jzv181) : jS)) rfl ?_
  refine jl_icf (e := jm23) (o := 13) rfl (h2) ?_
  exact jl_r (r := (.inr 154, jzv182)) rfl
set_option maxHeartbeats 4000000 in
set_option maxRecDepth 100000 in
theorem jzl33 (xs : Nat → Int32) (hop : xs 0 &&& 31 = 3) (h1 : Op.ifCond.holds .lt (xs 1) = false) (h2 : Op.if_icmp.holds .le (xs 1) 2 = false) (h3 : Op.if_icmp.holds .lt (xs 1) 0 = false) (h4 : Op.if_icmp.holds .gt (xs 1) 2 = true) : jRun ((4, xs) : jX) 2000 39 2 [.ref 64, .int (xs 1), .ref 153] jzv181 = some (.inl (some (.int 1)), jzv182) := by
  refine jr_run (e := jm2) rfl (Nat.le_of_ble_eq_true rfl) ?_
  refine jl_s (S' := ((1, [(0, .ref 64), (1, .int (xs 1)), (2, .ref 153)], [.ref 153], jzv181) : jS)) rfl ?_
  refine jl_s (S' := ((2, [(0, .ref 64), (1, .int (xs 1)), (2, .ref 153)], [.int 0, .ref 153], jzv181) : jS)) rfl ?_
  refine jl_s (S' := ((3, [(0, .ref 64), (1, .int (xs 1)), (2, .ref 153)], [.ref 64, .int 0, .ref 153], jzv181) : jS)) rfl ?_
  refine jl_s (S' := ((4, [(0, .ref 64), (1, .int (xs 1)), (2, .ref 153)], [.int (xs 1), .ref 64, .int 0, .ref 153], jzv181) : jS)) rfl ?_
  refine jl_c (t := 23) (as := [.ref 64, .int (xs 1)]) (V := jzv181) (r := (.inr 154, jzv182)) (S' := ((12, [(0, .ref 64), (1, .int (xs 1)), (2, .ref 153)], [.ref 154], jzv182) : jS)) rfl (jzl32 xs hop h1 h2 h3 h4) rfl ?_
  refine jl_s (S' := ((13, [(3, .ref 154), (0, .ref 64), (1, .int (xs 1)), (2, .ref 153)], [], jzv182) : jS)) rfl ?_
  refine jl_s (S' := ((14, [(3, .ref 154), (0, .ref 64), (1, .int (xs 1)), (2, .ref 153)], [.int 1], jzv182) : jS)) rfl ?_
  exact jl_r (r := (.inl (some (.int 1)), jzv182)) rfl
set_option maxHeartbeats 4000000 in
set_option maxRecDepth 100000 in
theorem jzl34 (xs : Nat → Int32) (hop : xs 0 &&& 31 = 3) (h1 : Op.ifCond.holds .lt (xs 1) = false) (h2 : Op.if_icmp.holds .le (xs 1) 2 = false) (h3 : Op.if_icmp.holds .lt (xs 1) 0 = false) (h4 : Op.if_icmp.holds .gt (xs 1) 2 = true) : jRun ((4, xs) : jX) 2000 38 246 [.int (xs 1), .int 0, .int 2] jzv182 = some (.inl (some (.int 0)), jzv182) := by
  refine jr_run (e := jm246) rfl (Nat.le_of_ble_eq_true rfl) ?_
  refine jl_s (S' := ((1, [(0, .int (xs 1)), (1, .int 0), (2, .int 2)], [.int (xs 1)], jzv182) : jS)) rfl ?_
  refine jl_s (S' := ((2, [(0, .int (xs 1)), (1, .int 0), (2, .int 2)], [.int 0, .int (xs 1)], jzv182) : jS)) rfl ?_
  refine jl_icf (e := jm246) (o := 12) rfl (h3) ?_
  refine jl_s (S' := ((6, [(0, .int (xs 1)), (1, .int 0), (2, .int 2)], [.int (xs 1)], jzv182) : jS)) rfl ?_
  refine jl_s (S' := ((7, [(0, .int (xs 1)), (1, .int 0), (2, .int 2)], [.int 2, .int (xs 1)], jzv182) : jS)) rfl ?_
  refine jl_ict (e := jm246) (o := 7) rfl (h4) (t := 14) rfl ?_
  refine jl_s (S' := ((15, [(0, .int (xs 1)), (1, .int 0), (2, .int 2)], [.int 0], jzv182) : jS)) rfl ?_
  exact jl_r (r := (.inl (some (.int 0)), jzv182)) rfl
set_option maxHeartbeats 4000000 in
set_option maxRecDepth 100000 in
theorem jzl35 (xs : Nat → Int32) (hop : xs 0 &&& 31 = 3) (h1 : Op.ifCond.holds .lt (xs 1) = false) (h2 : Op.if_icmp.holds .le (xs 1) 2 = false) (h3 : Op.if_icmp.holds .lt (xs 1) 0 = false) (h4 : Op.if_icmp.holds .gt (xs 1) 2 = true) : jRun ((4, xs) : jX) 2000 38 245 [.ref 66, .int 1, .int 0, .int 0] jzv182 = some (.inl (some (.int 1)), jzv183) := by
  refine jr_run (e := jm245) rfl (Nat.le_of_ble_eq_true rfl) ?_
  refine jl_s (S' := ((1, [(0, .ref 66), (1, .int 1), (2, .int 0), (3, .int 0)], [.ref 66], jzv182) : jS)) rfl ?_
  refine jl_s (S' := ((2, [(0, .ref 66), (1, .int 1), (2, .int 0), (3, .int 0)], [.int 1, .ref 66], jzv182) : jS)) rfl ?_
  refine jl_s (S' := ((5, [(0, .ref 66), (1, .int 1), (2, .int 0), (3, .int 0)], [.ref 66], jzv182) : jS)) rfl ?_
  refine jl_s (S' := ((6, [(0, .ref 66), (1, .int 1), (2, .int 0), (3, .int 0)], [.int 1, .ref 66], jzv182) : jS)) rfl ?_
  refine jl_s (S' := ((26, [(0, .ref 66), (1, .int 1), (2, .int 0), (3, .int 0)], [.int 1, .ref 66], jzv182) : jS)) rfl ?_
  refine jl_s (S' := ((29, [(0, .ref 66), (1, .int 1), (2, .int 0), (3, .int 0)], [], jzv183) : jS)) rfl ?_
  refine jl_s (S' := ((30, [(0, .ref 66), (1, .int 1), (2, .int 0), (3, .int 0)], [.ref 66], jzv183) : jS)) rfl ?_
  refine jl_s (S' := ((33, [(0, .ref 66), (1, .int 1), (2, .int 0), (3, .int 0)], [.int 1], jzv183) : jS)) rfl ?_
  refine jl_s (S' := ((36, [(0, .ref 66), (1, .int 1), (2, .int 0), (3, .int 0)], [], jzv183) : jS)) rfl ?_
  refine jl_s (S' := ((37, [(0, .ref 66), (1, .int 1), (2, .int 0), (3, .int 0)], [.int 1], jzv183) : jS)) rfl ?_
  refine jl_s (S' := ((41, [(0, .ref 66), (1, .int 1), (2, .int 0), (3, .int 0)], [.int 1], jzv183) : jS)) rfl ?_
  exact jl_r (r := (.inl (some (.int 1)), jzv183)) rfl
set_option maxHeartbeats 4000000 in
set_option maxRecDepth 100000 in
theorem jzl36 (xs : Nat → Int32) (hop : xs 0 &&& 31 = 3) (h1 : Op.ifCond.holds .lt (xs 1) = false) (h2 : Op.if_icmp.holds .le (xs 1) 2 = false) (h3 : Op.if_icmp.holds .lt (xs 1) 0 = false) (h4 : Op.if_icmp.holds .gt (xs 1) 2 = true) : jRun ((4, xs) : jX) 2000 39 367 [.ref 66, .int (xs 1)] jzv182 = some (.inl (some (.int 0)), jzv183) := by
  refine jr_run (e := jm367) rfl (Nat.le_of_ble_eq_true rfl) ?_
  refine jl_s (S' := ((1, [(0, .ref 66), (1, .int (xs 1))], [.ref 66], jzv182) : jS)) rfl ?_
  refine jl_s (S' := ((2, [(0, .ref 66), (1, .int (xs 1))], [.int (xs 1), .ref 66], jzv182) : jS)) rfl ?_
  refine jl_s (S' := ((3, [(0, .ref 66), (1, .int (xs 1))], [.int 0, .int (xs 1), .ref 66], jzv182) : jS)) rfl ?_
  refine jl_s (S' := ((4, [(0, .ref 66), (1, .int (xs 1))], [.int 2, .int 0, .int (xs 1), .ref 66], jzv182) : jS)) rfl ?_
  refine jl_c (t := 246) (as := [.int (xs 1), .int 0, .int 2]) (V := jzv182) (r := (.inl (some (.int 0)), jzv182)) (S' := ((7, [(0, .ref 66), (1, .int (xs 1))], [.int 0, .ref 66], jzv182) : jS)) rfl (jzl34 xs hop h1 h2 h3 h4) rfl ?_
  refine jl_s (S' := ((10, [(0, .ref 66), (1, .int (xs 1))], [.ref 66], jzv182) : jS)) rfl ?_
  refine jl_s (S' := ((11, [(0, .ref 66), (1, .int (xs 1))], [.int 1, .ref 66], jzv182) : jS)) rfl ?_
  refine jl_s (S' := ((15, [(0, .ref 66), (1, .int (xs 1))], [.int 1, .ref 66], jzv182) : jS)) rfl ?_
  refine jl_s (S' := ((16, [(0, .ref 66), (1, .int (xs 1))], [.int 0, .int 1, .ref 66], jzv182) : jS)) rfl ?_
  refine jl_s (S' := ((17, [(0, .ref 66), (1, .int (xs 1))], [.int 0, .int 0, .int 1, .ref 66], jzv182) : jS)) rfl ?_
  refine jl_c (t := 245) (as := [.ref 66, .int 1, .int 0, .int 0]) (V := jzv182) (r := (.inl (some (.int 1)), jzv183)) (S' := ((20, [(0, .ref 66), (1, .int (xs 1))], [.int 1], jzv183) : jS)) rfl (jzl35 xs hop h1 h2 h3 h4) rfl ?_
  refine jl_s (S' := ((23, [(0, .ref 66), (1, .int (xs 1))], [], jzv183) : jS)) rfl ?_
  refine jl_s (S' := ((24, [(0, .ref 66), (1, .int (xs 1))], [.int 0], jzv183) : jS)) rfl ?_
  exact jl_r (r := (.inl (some (.int 0)), jzv183)) rfl
set_option maxHeartbeats 4000000 in
set_option maxRecDepth 100000 in
theorem jzl37 (xs : Nat → Int32) (hop : xs 0 &&& 31 = 3) (h1 : Op.ifCond.holds .lt (xs 1) = false) (h2 : Op.if_icmp.holds .le (xs 1) 2 = false) (h3 : Op.if_icmp.holds .lt (xs 1) 0 = false) (h4 : Op.if_icmp.holds .gt (xs 1) 2 = true) : jRun ((4, xs) : jX) 2000 39 244 [.ref 66] jzv183 = some (.inl (some (.int 1)), jzv183) := by
  refine jr_run (e := jm244) rfl (Nat.le_of_ble_eq_true rfl) ?_
  refine jl_s (S' := ((1, [(0, .ref 66)], [.ref 66], jzv183) : jS)) rfl ?_
  refine jl_s (S' := ((4, [(0, .ref 66)], [.int 1], jzv183) : jS)) rfl ?_
  exact jl_r (r := (.inl (some (.int 1)), jzv183)) rfl
set_option maxHeartbeats 4000000 in
set_option maxRecDepth 100000 in
theorem jzl38 (xs : Nat → Int32) (hop : xs 0 &&& 31 = 3) (h1 : Op.ifCond.holds .lt (xs 1) = false) (h2 : Op.if_icmp.holds .le (xs 1) 2 = false) (h3 : Op.if_icmp.holds .lt (xs 1) 0 = false) (h4 : Op.if_icmp.holds .gt (xs 1) 2 = true) : jLoop (jRun ((4, xs) : jX) 2000 39) ((4, xs) : jX) jm18 1000 ((23, [(4, .int 0), (3, .ref 153), (2, .ref 66), (1, .ref 64), (0, .ref 63)], [], jzv181) : jS) = some (.inl (some (.int 1)), jzv183) := by
  refine jl_s (S' := ((25, [(4, .int 0), (3, .ref 153), (2, .ref 66), (1, .ref 64), (0, .ref 63)], [.int 0], jzv181) : jS)) rfl ?_
  refine jl_s (S' := ((26, [(4, .int 0), (3, .ref 153), (2, .ref 66), (1, .ref 64), (0, .ref 63)], [.ref 63, .int 0], jzv181) : jS)) rfl ?_
  refine jl_s (S' := ((27, [(4, .int 0), (3, .ref 153), (2, .ref 66), (1, .ref 64), (0, .ref 63)], [.int 4, .int 0], jzv181) : jS)) rfl ?_
  refine jl_s (S' := ((28, [(4, .int 0), (3, .ref 153), (2, .ref 66), (1, .ref 64), (0, .ref 63)], [.int 4, .int 4, .int 0], jzv181) : jS)) rfl ?_
  refine jl_s (S' := ((29, [(4, .int 0), (3, .ref 153), (2, .ref 66), (1, .ref 64), (0, .ref 63)], [.int 0, .int 0], jzv181) : jS)) rfl ?_
  refine jl_s (S' := ((32, [(4, .int 0), (3, .ref 153), (2, .ref 66), (1, .ref 64), (0, .ref 63)], [], jzv181) : jS)) rfl ?_
  refine jl_s (S' := ((33, [(4, .int 0), (3, .ref 153), (2, .ref 66), (1, .ref 64), (0, .ref 63)], [.ref 63], jzv181) : jS)) rfl ?_
  refine jl_s (S' := ((35, [(4, .int 0), (3, .ref 153), (2, .ref 66), (1, .ref 64), (0, .ref 63)], [.int 0, .ref 63], jzv181) : jS)) rfl ?_
  refine jl_s (S' := ((36, [(4, .int 0), (3, .ref 153), (2, .ref 66), (1, .ref 64), (0, .ref 63)], [.int (xs 0)], jzv181) : jS)) rfl ?_
  refine jl_s (S' := ((38, [(4, .int 0), (3, .ref 153), (2, .ref 66), (1, .ref 64), (0, .ref 63)], [.int 31, .int (xs 0)], jzv181) : jS)) rfl ?_
  refine jl_s (S' := ((39, [(4, .int 0), (3, .ref 153), (2, .ref 66), (1, .ref 64), (0, .ref 63)], [.int ((xs 0) &&& 31)], jzv181) : jS)) rfl ?_
  rw [hop]
  refine jl_s (S' := ((233, [(4, .int 0), (3, .ref 153), (2, .ref 66), (1, .ref 64), (0, .ref 63)], [], jzv181) : jS)) rfl ?_
  refine jl_s (S' := ((234, [(4, .int 0), (3, .ref 153), (2, .ref 66), (1, .ref 64), (0, .ref 63)], [.ref 64], jzv181) : jS)) rfl ?_
  refine jl_s (S' := ((235, [(4, .int 0), (3, .ref 153), (2, .ref 66), (1, .ref 64), (0, .ref 63)], [.ref 63, .ref 64], jzv181) : jS)) rfl ?_
  refine jl_s (S' := ((237, [(4, .int 0), (3, .ref 153), (2, .ref 66), (1, .ref 64), (0, .ref 63)], [.int 0, .ref 63, .ref 64], jzv181) : jS)) rfl ?_
  refine jl_s (S' := ((238, [(4, .int 0), (3, .ref 153), (2, .ref 66), (1, .ref 64), (0, .ref 63)], [.int 1, .int 0, .ref 63, .ref 64], jzv181) : jS)) rfl ?_
  refine jl_s (S' := ((239, [(4, .int 0), (3, .ref 153), (2, .ref 66), (1, .ref 64), (0, .ref 63)], [.int 1, .ref 63, .ref 64], jzv181) : jS)) rfl ?_
  refine jl_s (S' := ((240, [(4, .int 0), (3, .ref 153), (2, .ref 66), (1, .ref 64), (0, .ref 63)], [.int (xs 1), .ref 64], jzv181) : jS)) rfl ?_
  refine jl_s (S' := ((241, [(4, .int 0), (3, .ref 153), (2, .ref 66), (1, .ref 64), (0, .ref 63)], [.ref 153, .int (xs 1), .ref 64], jzv181) : jS)) rfl ?_
  refine jl_c (t := 2) (as := [.ref 64, .int (xs 1), .ref 153]) (V := jzv181) (r := (.inl (some (.int 1)), jzv182)) (S' := ((244, [(4, .int 0), (3, .ref 153), (2, .ref 66), (1, .ref 64), (0, .ref 63)], [.int 1], jzv182) : jS)) rfl (jzl33 xs hop h1 h2 h3 h4) rfl ?_
  refine jl_s (S' := ((246, [(5, .int 1), (4, .int 0), (3, .ref 153), (2, .ref 66), (1, .ref 64), (0, .ref 63)], [], jzv182) : jS)) rfl ?_
  refine jl_s (S' := ((247, [(5, .int 1), (4, .int 0), (3, .ref 153), (2, .ref 66), (1, .ref 64), (0, .ref 63)], [.ref 66], jzv182) : jS)) rfl ?_
  refine jl_s (S' := ((248, [(5, .int 1), (4, .int 0), (3, .ref 153), (2, .ref 66), (1, .ref 64), (0, .ref 63)], [.ref 63, .ref 66], jzv182) : jS)) rfl ?_
  refine jl_s (S' := ((250, [(5, .int 1), (4, .int 0), (3, .ref 153), (2, .ref 66), (1, .ref 64), (0, .ref 63)], [.int 0, .ref 63, .ref 66], jzv182) : jS)) rfl ?_
  refine jl_s (S' := ((251, [(5, .int 1), (4, .int 0), (3, .ref 153), (2, .ref 66), (1, .ref 64), (0, .ref 63)], [.int 1, .int 0, .ref 63, .ref 66], jzv182) : jS)) rfl ?_
  refine jl_s (S' := ((252, [(5, .int 1), (4, .int 0), (3, .ref 153), (2, .ref 66), (1, .ref 64), (0, .ref 63)], [.int 1, .ref 63, .ref 66], jzv182) : jS)) rfl ?_
  refine jl_s (S' := ((253, [(5, .int 1), (4, .int 0), (3, .ref 153), (2, .ref 66), (1, .ref 64), (0, .ref 63)], [.int (xs 1), .ref 66], jzv182) : jS)) rfl ?_
  refine jl_c (t := 367) (as := [.ref 66, .int (xs 1)]) (V := jzv182) (r := (.inl (some (.int 0)), jzv183)) (S' := ((256, [(5, .int 1), (4, .int 0), (3, .ref 153), (2, .ref 66), (1, .ref 64), (0, .ref 63)], [.int 0], jzv183) : jS)) rfl (jzl36 xs hop h1 h2 h3 h4) rfl ?_
  refine jl_s (S' := ((258, [(6, .int 0), (5, .int 1), (4, .int 0), (3, .ref 153), (2, .ref 66), (1, .ref 64), (0, .ref 63)], [], jzv183) : jS)) rfl ?_
  refine jl_s (S' := ((259, [(6, .int 0), (5, .int 1), (4, .int 0), (3, .ref 153), (2, .ref 66), (1, .ref 64), (0, .ref 63)], [.ref 66], jzv183) : jS)) rfl ?_
  refine jl_c (t := 244) (as := [.ref 66]) (V := jzv183) (r := (.inl (some (.int 1)), jzv183)) (S' := ((262, [(6, .int 0), (5, .int 1), (4, .int 0), (3, .ref 153), (2, .ref 66), (1, .ref 64), (0, .ref 63)], [.int 1], jzv183) : jS)) rfl (jzl37 xs hop h1 h2 h3 h4) rfl ?_
  refine jl_s (S' := ((264, [(6, .int 0), (5, .int 1), (4, .int 0), (3, .ref 153), (2, .ref 66), (1, .ref 64), (0, .ref 63)], [.int 1, .int 1], jzv183) : jS)) rfl ?_
  refine jl_s (S' := ((269, [(6, .int 0), (5, .int 1), (4, .int 0), (3, .ref 153), (2, .ref 66), (1, .ref 64), (0, .ref 63)], [], jzv183) : jS)) rfl ?_
  refine jl_s (S' := ((271, [(6, .int 0), (5, .int 1), (4, .int 0), (3, .ref 153), (2, .ref 66), (1, .ref 64), (0, .ref 63)], [.int 1], jzv183) : jS)) rfl ?_
  refine jl_s (S' := ((286, [(6, .int 0), (5, .int 1), (4, .int 0), (3, .ref 153), (2, .ref 66), (1, .ref 64), (0, .ref 63)], [], jzv183) : jS)) rfl ?_
  refine jl_s (S' := ((1193, [(6, .int 0), (5, .int 1), (4, .int 0), (3, .ref 153), (2, .ref 66), (1, .ref 64), (0, .ref 63)], [], jzv183) : jS)) rfl ?_
  refine jl_s (S' := ((1196, [(4, .int 4), (6, .int 0), (5, .int 1), (3, .ref 153), (2, .ref 66), (1, .ref 64), (0, .ref 63)], [], jzv183) : jS)) rfl ?_
  refine jl_s (S' := ((23, [(4, .int 4), (6, .int 0), (5, .int 1), (3, .ref 153), (2, .ref 66), (1, .ref 64), (0, .ref 63)], [], jzv183) : jS)) rfl ?_
  refine jl_s (S' := ((25, [(4, .int 4), (6, .int 0), (5, .int 1), (3, .ref 153), (2, .ref 66), (1, .ref 64), (0, .ref 63)], [.int 4], jzv183) : jS)) rfl ?_
  refine jl_s (S' := ((26, [(4, .int 4), (6, .int 0), (5, .int 1), (3, .ref 153), (2, .ref 66), (1, .ref 64), (0, .ref 63)], [.ref 63, .int 4], jzv183) : jS)) rfl ?_
  refine jl_s (S' := ((27, [(4, .int 4), (6, .int 0), (5, .int 1), (3, .ref 153), (2, .ref 66), (1, .ref 64), (0, .ref 63)], [.int 4, .int 4], jzv183) : jS)) rfl ?_
  refine jl_s (S' := ((28, [(4, .int 4), (6, .int 0), (5, .int 1), (3, .ref 153), (2, .ref 66), (1, .ref 64), (0, .ref 63)], [.int 4, .int 4, .int 4], jzv183) : jS)) rfl ?_
  refine jl_s (S' := ((29, [(4, .int 4), (6, .int 0), (5, .int 1), (3, .ref 153), (2, .ref 66), (1, .ref 64), (0, .ref 63)], [.int 0, .int 4], jzv183) : jS)) rfl ?_
  refine jl_s (S' := ((1199, [(4, .int 4), (6, .int 0), (5, .int 1), (3, .ref 153), (2, .ref 66), (1, .ref 64), (0, .ref 63)], [], jzv183) : jS)) rfl ?_
  refine jl_s (S' := ((1200, [(4, .int 4), (6, .int 0), (5, .int 1), (3, .ref 153), (2, .ref 66), (1, .ref 64), (0, .ref 63)], [.int 1], jzv183) : jS)) rfl ?_
  exact jl_r (r := (.inl (some (.int 1)), jzv183)) rfl
-- op 3 p: jzl38
set_option maxHeartbeats 4000000 in
set_option maxRecDepth 100000 in
theorem jzl39 (xs : Nat → Int32) (hop : xs 0 &&& 31 = 3)  (hw : xs 1 = 0) : jRun ((4, xs) : jX) 2000 38 23 [.ref 64, .int 0] jzv181 = some (.inl (some (.int 0)), jzv181) := by
  refine jr_run (e := jm23) rfl (Nat.le_of_ble_eq_true rfl) ?_
  refine jl_s (S' := ((1, [(0, .ref 64), (1, .int 0)], [.int 0], jzv181) : jS)) rfl ?_
  refine jl_s (S' := ((4, [(0, .ref 64), (1, .int 0)], [], jzv181) : jS)) rfl ?_
  refine jl_s (S' := ((5, [(0, .ref 64), (1, .int 0)], [.int 0], jzv181) : jS)) rfl ?_
  refine jl_s (S' := ((6, [(0, .ref 64), (1, .int 0)], [.int 2, .int 0], jzv181) : jS)) rfl ?_
  refine jl_s (S' := ((19, [(0, .ref 64), (1, .int 0)], [], jzv181) : jS)) rfl ?_
  refine jl_s (S' := ((20, [(0, .ref 64), (1, .int 0)], [.int 0], jzv181) : jS)) rfl ?_
  refine jl_s (S' := ((23, [(0, .ref 64), (1, .int 0)], [], jzv181) : jS)) rfl ?_
  refine jl_s (S' := ((24, [(0, .ref 64), (1, .int 0)], [.ref 64], jzv181) : jS)) rfl ?_
  refine jl_s (S' := ((27, [(0, .ref 64), (1, .int 0)], [.int 0], jzv181) : jS)) rfl ?_
  refine jl_s (S' := ((46, [(0, .ref 64), (1, .int 0)], [.int 0], jzv181) : jS)) rfl ?_
  exact jl_r (r := (.inl (some (.int 0)), jzv181)) rfl
def jzc121 : jC := .inl (2, 1, .inr (.inl (vp_updL (fun _ => 0) 0 0)))
def jzv184 : jH := [jzc5, jzc2, jzc117, jzc7, jzc9, jzc9, jzc9, jzc9, jzc9, jzc17, jzc19, jzc19, jzc19, jzc19, jzc19, jzc19, jzc19, jzc19, jzc28, jzc28, jzc28, jzc28, jzc28, jzc28, jzc28, jzc28, jzc28, jzc28, jzc28, jzc28, jzc28, jzc28, jzc43, jzc43, jzc43, jzc43, jzc43, jzc49, jzc49, jzc52, jzc52, jzc52, jzc56, jzc56, jzc59, jzc56, jzc62, jzc28, jzc28, jzc28, jzc28, jzc28, jzc69, jzc71, jzc73, jzc43, jzc76, jzc52, jzc52, jzc80, jzc80, jzc80, jzc84, jzc52, jzc52, jzc52, jzc52, jzc52, jzc52, jzc52, jzc93, jzc93, jzc52, jzc52, jzc98, jzc100, jzc93, jzc52, jzc52, jzc52, jzc52, jzc107, jzc109, jzc111, jzc100, jzc100, jzc100, jzc111, jzc111, jzc121]
set_option maxHeartbeats 4000000 in
set_option maxRecDepth 100000 in
theorem jzl40 (xs : Nat → Int32) (hop : xs 0 &&& 31 = 3)  (hw : xs 1 = 0) : jRun ((4, xs) : jX) 2000 39 2 [.ref 64, .int 0, .ref 153] jzv181 = some (.inl (some (.int 0)), jzv184) := by
  refine jr_run (e := jm2) rfl (Nat.le_of_ble_eq_true rfl) ?_
  refine jl_s (S' := ((1, [(0, .ref 64), (1, .int 0), (2, .ref 153)], [.ref 153], jzv181) : jS)) rfl ?_
  refine jl_s (S' := ((2, [(0, .ref 64), (1, .int 0), (2, .ref 153)], [.int 0, .ref 153], jzv181) : jS)) rfl ?_
  refine jl_s (S' := ((3, [(0, .ref 64), (1, .int 0), (2, .ref 153)], [.ref 64, .int 0, .ref 153], jzv181) : jS)) rfl ?_
  refine jl_s (S' := ((4, [(0, .ref 64), (1, .int 0), (2, .ref 153)], [.int 0, .ref 64, .int 0, .ref 153], jzv181) : jS)) rfl ?_
  refine jl_c (t := 23) (as := [.ref 64, .int 0]) (V := jzv181) (r := (.inl (some (.int 0)), jzv181)) (S' := ((7, [(0, .ref 64), (1, .int 0), (2, .ref 153)], [.int 0, .int 0, .ref 153], jzv181) : jS)) rfl (jzl39 xs hop  hw) rfl ?_
  refine jl_s (S' := ((8, [(0, .ref 64), (1, .int 0), (2, .ref 153)], [.long 0, .int 0, .ref 153], jzv181) : jS)) rfl ?_
  refine jl_s (S' := ((9, [(0, .ref 64), (1, .int 0), (2, .ref 153)], [], jzv184) : jS)) rfl ?_
  refine jl_s (S' := ((15, [(0, .ref 64), (1, .int 0), (2, .ref 153)], [], jzv184) : jS)) rfl ?_
  refine jl_s (S' := ((16, [(0, .ref 64), (1, .int 0), (2, .ref 153)], [.int 0], jzv184) : jS)) rfl ?_
  exact jl_r (r := (.inl (some (.int 0)), jzv184)) rfl
set_option maxHeartbeats 4000000 in
set_option maxRecDepth 100000 in
theorem jzl41 (xs : Nat → Int32) (hop : xs 0 &&& 31 = 3)  (hw : xs 1 = 0) : jRun ((4, xs) : jX) 2000 38 246 [.int 0, .int 0, .int 2] jzv184 = some (.inl (some (.int 1)), jzv184) := by
  refine jr_run (e := jm246) rfl (Nat.le_of_ble_eq_true rfl) ?_
  refine jl_s (S' := ((1, [(0, .int 0), (1, .int 0), (2, .int 2)], [.int 0], jzv184) : jS)) rfl ?_
  refine jl_s (S' := ((2, [(0, .int 0), (1, .int 0), (2, .int 2)], [.int 0, .int 0], jzv184) : jS)) rfl ?_
  refine jl_s (S' := ((5, [(0, .int 0), (1, .int 0), (2, .int 2)], [], jzv184) : jS)) rfl ?_
  refine jl_s (S' := ((6, [(0, .int 0), (1, .int 0), (2, .int 2)], [.int 0], jzv184) : jS)) rfl ?_
  refine jl_s (S' := ((7, [(0, .int 0), (1, .int 0), (2, .int 2)], [.int 2, .int 0], jzv184) : jS)) rfl ?_
  refine jl_s (S' := ((10, [(0, .int 0), (1, .int 0), (2, .int 2)], [], jzv184) : jS)) rfl ?_
  refine jl_s (S' := ((11, [(0, .int 0), (1, .int 0), (2, .int 2)], [.int 1], jzv184) : jS)) rfl ?_
  refine jl_s (S' := ((15, [(0, .int 0), (1, .int 0), (2, .int 2)], [.int 1], jzv184) : jS)) rfl ?_
  exact jl_r (r := (.inl (some (.int 1)), jzv184)) rfl
set_option maxHeartbeats 4000000 in
set_option maxRecDepth 100000 in
theorem jzl42 (xs : Nat → Int32) (hop : xs 0 &&& 31 = 3)  (hw : xs 1 = 0) : jRun ((4, xs) : jX) 2000 38 245 [.ref 66, .int 0, .int 0, .int 0] jzv184 = some (.inl (some (.int 0)), jzv184) := by
  refine jr_run (e := jm245) rfl (Nat.le_of_ble_eq_true rfl) ?_
  refine jl_s (S' := ((1, [(0, .ref 66), (1, .int 0), (2, .int 0), (3, .int 0)], [.ref 66], jzv184) : jS)) rfl ?_
  refine jl_s (S' := ((2, [(0, .ref 66), (1, .int 0), (2, .int 0), (3, .int 0)], [.int 0, .ref 66], jzv184) : jS)) rfl ?_
  refine jl_s (S' := ((9, [(0, .ref 66), (1, .int 0), (2, .int 0), (3, .int 0)], [.ref 66], jzv184) : jS)) rfl ?_
  refine jl_s (S' := ((10, [(0, .ref 66), (1, .int 0), (2, .int 0), (3, .int 0)], [.int 0, .ref 66], jzv184) : jS)) rfl ?_
  refine jl_s (S' := ((17, [(0, .ref 66), (1, .int 0), (2, .int 0), (3, .int 0)], [.ref 66], jzv184) : jS)) rfl ?_
  refine jl_s (S' := ((18, [(0, .ref 66), (1, .int 0), (2, .int 0), (3, .int 0)], [.int 0, .ref 66], jzv184) : jS)) rfl ?_
  refine jl_s (S' := ((25, [(0, .ref 66), (1, .int 0), (2, .int 0), (3, .int 0)], [.ref 66], jzv184) : jS)) rfl ?_
  refine jl_s (S' := ((26, [(0, .ref 66), (1, .int 0), (2, .int 0), (3, .int 0)], [.int 0, .ref 66], jzv184) : jS)) rfl ?_
  refine jl_s (S' := ((29, [(0, .ref 66), (1, .int 0), (2, .int 0), (3, .int 0)], [], jzv184) : jS)) rfl ?_
  refine jl_s (S' := ((30, [(0, .ref 66), (1, .int 0), (2, .int 0), (3, .int 0)], [.ref 66], jzv184) : jS)) rfl ?_
  refine jl_s (S' := ((33, [(0, .ref 66), (1, .int 0), (2, .int 0), (3, .int 0)], [.int 0], jzv184) : jS)) rfl ?_
  refine jl_s (S' := ((40, [(0, .ref 66), (1, .int 0), (2, .int 0), (3, .int 0)], [], jzv184) : jS)) rfl ?_
  refine jl_s (S' := ((41, [(0, .ref 66), (1, .int 0), (2, .int 0), (3, .int 0)], [.int 0], jzv184) : jS)) rfl ?_
  exact jl_r (r := (.inl (some (.int 0)), jzv184)) rfl
set_option maxHeartbeats 4000000 in
set_option maxRecDepth 100000 in
theorem jzl43 (xs : Nat → Int32) (hop : xs 0 &&& 31 = 3)  (hw : xs 1 = 0) : jRun ((4, xs) : jX) 2000 39 367 [.ref 66, .int 0] jzv184 = some (.inl (some (.int 0)), jzv184) := by
  refine jr_run (e := jm367) rfl (Nat.le_of_ble_eq_true rfl) ?_
  refine jl_s (S' := ((1, [(0, .ref 66), (1, .int 0)], [.ref 66], jzv184) : jS)) rfl ?_
  refine jl_s (S' := ((2, [(0, .ref 66), (1, .int 0)], [.int 0, .ref 66], jzv184) : jS)) rfl ?_
  refine jl_s (S' := ((3, [(0, .ref 66), (1, .int 0)], [.int 0, .int 0, .ref 66], jzv184) : jS)) rfl ?_
  refine jl_s (S' := ((4, [(0, .ref 66), (1, .int 0)], [.int 2, .int 0, .int 0, .ref 66], jzv184) : jS)) rfl ?_
  refine jl_c (t := 246) (as := [.int 0, .int 0, .int 2]) (V := jzv184) (r := (.inl (some (.int 1)), jzv184)) (S' := ((7, [(0, .ref 66), (1, .int 0)], [.int 1, .ref 66], jzv184) : jS)) rfl (jzl41 xs hop  hw) rfl ?_
  refine jl_s (S' := ((14, [(0, .ref 66), (1, .int 0)], [.ref 66], jzv184) : jS)) rfl ?_
  refine jl_s (S' := ((15, [(0, .ref 66), (1, .int 0)], [.int 0, .ref 66], jzv184) : jS)) rfl ?_
  refine jl_s (S' := ((16, [(0, .ref 66), (1, .int 0)], [.int 0, .int 0, .ref 66], jzv184) : jS)) rfl ?_
  refine jl_s (S' := ((17, [(0, .ref 66), (1, .int 0)], [.int 0, .int 0, .int 0, .ref 66], jzv184) : jS)) rfl ?_
  refine jl_c (t := 245) (as := [.ref 66, .int 0, .int 0, .int 0]) (V := jzv184) (r := (.inl (some (.int 0)), jzv184)) (S' := ((20, [(0, .ref 66), (1, .int 0)], [.int 0], jzv184) : jS)) rfl (jzl42 xs hop  hw) rfl ?_
  refine jl_s (S' := ((25, [(0, .ref 66), (1, .int 0)], [], jzv184) : jS)) rfl ?_
  refine jl_s (S' := ((26, [(0, .ref 66), (1, .int 0)], [.int 0], jzv184) : jS)) rfl ?_
  refine jl_s (S' := ((29, [(0, .ref 66), (1, .int 0)], [], jzv184) : jS)) rfl ?_
  refine jl_s (S' := ((30, [(0, .ref 66), (1, .int 0)], [.ref 66], jzv184) : jS)) rfl ?_
  refine jl_s (S' := ((33, [(0, .ref 66), (1, .int 0)], [.int 0], jzv184) : jS)) rfl ?_
  refine jl_s (S' := ((52, [(0, .ref 66), (1, .int 0)], [.int 0], jzv184) : jS)) rfl ?_
  exact jl_r (r := (.inl (some (.int 0)), jzv184)) rfl
set_option maxHeartbeats 4000000 in
set_option maxRecDepth 100000 in
theorem jzl44 (xs : Nat → Int32) (hop : xs 0 &&& 31 = 3)  (hw : xs 1 = 0) : jRun ((4, xs) : jX) 2000 39 244 [.ref 66] jzv184 = some (.inl (some (.int 0)), jzv184) := by
  refine jr_run (e := jm244) rfl (Nat.le_of_ble_eq_true rfl) ?_
  refine jl_s (S' := ((1, [(0, .ref 66)], [.ref 66], jzv184) : jS)) rfl ?_
  refine jl_s (S' := ((4, [(0, .ref 66)], [.int 0], jzv184) : jS)) rfl ?_
  exact jl_r (r := (.inl (some (.int 0)), jzv184)) rfl
set_option maxHeartbeats 4000000 in
set_option maxRecDepth 100000 in
theorem jzl45 (xs : Nat → Int32) (hop : xs 0 &&& 31 = 3)  (hw : xs 1 = 0) : jLoop (jRun ((4, xs) : jX) 2000 39) ((4, xs) : jX) jm18 1000 ((23, [(4, .int 0), (3, .ref 153), (2, .ref 66), (1, .ref 64), (0, .ref 63)], [], jzv181) : jS) = some (.inl (some (.int 1)), jzv184) := by
  refine jl_s (S' := ((25, [(4, .int 0), (3, .ref 153), (2, .ref 66), (1, .ref 64), (0, .ref 63)], [.int 0], jzv181) : jS)) rfl ?_
  refine jl_s (S' := ((26, [(4, .int 0), (3, .ref 153), (2, .ref 66), (1, .ref 64), (0, .ref 63)], [.ref 63, .int 0], jzv181) : jS)) rfl ?_
  refine jl_s (S' := ((27, [(4, .int 0), (3, .ref 153), (2, .ref 66), (1, .ref 64), (0, .ref 63)], [.int 4, .int 0], jzv181) : jS)) rfl ?_
  refine jl_s (S' := ((28, [(4, .int 0), (3, .ref 153), (2, .ref 66), (1, .ref 64), (0, .ref 63)], [.int 4, .int 4, .int 0], jzv181) : jS)) rfl ?_
  refine jl_s (S' := ((29, [(4, .int 0), (3, .ref 153), (2, .ref 66), (1, .ref 64), (0, .ref 63)], [.int 0, .int 0], jzv181) : jS)) rfl ?_
  refine jl_s (S' := ((32, [(4, .int 0), (3, .ref 153), (2, .ref 66), (1, .ref 64), (0, .ref 63)], [], jzv181) : jS)) rfl ?_
  refine jl_s (S' := ((33, [(4, .int 0), (3, .ref 153), (2, .ref 66), (1, .ref 64), (0, .ref 63)], [.ref 63], jzv181) : jS)) rfl ?_
  refine jl_s (S' := ((35, [(4, .int 0), (3, .ref 153), (2, .ref 66), (1, .ref 64), (0, .ref 63)], [.int 0, .ref 63], jzv181) : jS)) rfl ?_
  refine jl_s (S' := ((36, [(4, .int 0), (3, .ref 153), (2, .ref 66), (1, .ref 64), (0, .ref 63)], [.int (xs 0)], jzv181) : jS)) rfl ?_
  refine jl_s (S' := ((38, [(4, .int 0), (3, .ref 153), (2, .ref 66), (1, .ref 64), (0, .ref 63)], [.int 31, .int (xs 0)], jzv181) : jS)) rfl ?_
  refine jl_s (S' := ((39, [(4, .int 0), (3, .ref 153), (2, .ref 66), (1, .ref 64), (0, .ref 63)], [.int ((xs 0) &&& 31)], jzv181) : jS)) rfl ?_
  rw [hop]
  refine jl_s (S' := ((233, [(4, .int 0), (3, .ref 153), (2, .ref 66), (1, .ref 64), (0, .ref 63)], [], jzv181) : jS)) rfl ?_
  refine jl_s (S' := ((234, [(4, .int 0), (3, .ref 153), (2, .ref 66), (1, .ref 64), (0, .ref 63)], [.ref 64], jzv181) : jS)) rfl ?_
  refine jl_s (S' := ((235, [(4, .int 0), (3, .ref 153), (2, .ref 66), (1, .ref 64), (0, .ref 63)], [.ref 63, .ref 64], jzv181) : jS)) rfl ?_
  refine jl_s (S' := ((237, [(4, .int 0), (3, .ref 153), (2, .ref 66), (1, .ref 64), (0, .ref 63)], [.int 0, .ref 63, .ref 64], jzv181) : jS)) rfl ?_
  refine jl_s (S' := ((238, [(4, .int 0), (3, .ref 153), (2, .ref 66), (1, .ref 64), (0, .ref 63)], [.int 1, .int 0, .ref 63, .ref 64], jzv181) : jS)) rfl ?_
  refine jl_s (S' := ((239, [(4, .int 0), (3, .ref 153), (2, .ref 66), (1, .ref 64), (0, .ref 63)], [.int 1, .ref 63, .ref 64], jzv181) : jS)) rfl ?_
  refine jl_s (S' := ((240, [(4, .int 0), (3, .ref 153), (2, .ref 66), (1, .ref 64), (0, .ref 63)], [.int (xs 1), .ref 64], jzv181) : jS)) rfl ?_
  rw [hw]
  refine jl_s (S' := ((241, [(4, .int 0), (3, .ref 153), (2, .ref 66), (1, .ref 64), (0, .ref 63)], [.ref 153, .int 0, .ref 64], jzv181) : jS)) rfl ?_
  refine jl_c (t := 2) (as := [.ref 64, .int 0, .ref 153]) (V := jzv181) (r := (.inl (some (.int 0)), jzv184)) (S' := ((244, [(4, .int 0), (3, .ref 153), (2, .ref 66), (1, .ref 64), (0, .ref 63)], [.int 0], jzv184) : jS)) rfl (jzl40 xs hop  hw) rfl ?_
  refine jl_s (S' := ((246, [(5, .int 0), (4, .int 0), (3, .ref 153), (2, .ref 66), (1, .ref 64), (0, .ref 63)], [], jzv184) : jS)) rfl ?_
  refine jl_s (S' := ((247, [(5, .int 0), (4, .int 0), (3, .ref 153), (2, .ref 66), (1, .ref 64), (0, .ref 63)], [.ref 66], jzv184) : jS)) rfl ?_
  refine jl_s (S' := ((248, [(5, .int 0), (4, .int 0), (3, .ref 153), (2, .ref 66), (1, .ref 64), (0, .ref 63)], [.ref 63, .ref 66], jzv184) : jS)) rfl ?_
  refine jl_s (S' := ((250, [(5, .int 0), (4, .int 0), (3, .ref 153), (2, .ref 66), (1, .ref 64), (0, .ref 63)], [.int 0, .ref 63, .ref 66], jzv184) : jS)) rfl ?_
  refine jl_s (S' := ((251, [(5, .int 0), (4, .int 0), (3, .ref 153), (2, .ref 66), (1, .ref 64), (0, .ref 63)], [.int 1, .int 0, .ref 63, .ref 66], jzv184) : jS)) rfl ?_
  refine jl_s (S' := ((252, [(5, .int 0), (4, .int 0), (3, .ref 153), (2, .ref 66), (1, .ref 64), (0, .ref 63)], [.int 1, .ref 63, .ref 66], jzv184) : jS)) rfl ?_
  refine jl_s (S' := ((253, [(5, .int 0), (4, .int 0), (3, .ref 153), (2, .ref 66), (1, .ref 64), (0, .ref 63)], [.int (xs 1), .ref 66], jzv184) : jS)) rfl ?_
  rw [hw]
  refine jl_c (t := 367) (as := [.ref 66, .int 0]) (V := jzv184) (r := (.inl (some (.int 0)), jzv184)) (S' := ((256, [(5, .int 0), (4, .int 0), (3, .ref 153), (2, .ref 66), (1, .ref 64), (0, .ref 63)], [.int 0], jzv184) : jS)) rfl (jzl43 xs hop  hw) rfl ?_
  refine jl_s (S' := ((258, [(6, .int 0), (5, .int 0), (4, .int 0), (3, .ref 153), (2, .ref 66), (1, .ref 64), (0, .ref 63)], [], jzv184) : jS)) rfl ?_
  refine jl_s (S' := ((259, [(6, .int 0), (5, .int 0), (4, .int 0), (3, .ref 153), (2, .ref 66), (1, .ref 64), (0, .ref 63)], [.ref 66], jzv184) : jS)) rfl ?_
  refine jl_c (t := 244) (as := [.ref 66]) (V := jzv184) (r := (.inl (some (.int 0)), jzv184)) (S' := ((262, [(6, .int 0), (5, .int 0), (4, .int 0), (3, .ref 153), (2, .ref 66), (1, .ref 64), (0, .ref 63)], [.int 0], jzv184) : jS)) rfl (jzl44 xs hop  hw) rfl ?_
  refine jl_s (S' := ((264, [(6, .int 0), (5, .int 0), (4, .int 0), (3, .ref 153), (2, .ref 66), (1, .ref 64), (0, .ref 63)], [.int 0, .int 0], jzv184) : jS)) rfl ?_
  refine jl_s (S' := ((269, [(6, .int 0), (5, .int 0), (4, .int 0), (3, .ref 153), (2, .ref 66), (1, .ref 64), (0, .ref 63)], [], jzv184) : jS)) rfl ?_
  refine jl_s (S' := ((271, [(6, .int 0), (5, .int 0), (4, .int 0), (3, .ref 153), (2, .ref 66), (1, .ref 64), (0, .ref 63)], [.int 0], jzv184) : jS)) rfl ?_
  refine jl_s (S' := ((274, [(6, .int 0), (5, .int 0), (4, .int 0), (3, .ref 153), (2, .ref 66), (1, .ref 64), (0, .ref 63)], [], jzv184) : jS)) rfl ?_
  refine jl_s (S' := ((275, [(6, .int 0), (5, .int 0), (4, .int 0), (3, .ref 153), (2, .ref 66), (1, .ref 64), (0, .ref 63)], [.ref 153], jzv184) : jS)) rfl ?_
  refine jl_s (S' := ((276, [(6, .int 0), (5, .int 0), (4, .int 0), (3, .ref 153), (2, .ref 66), (1, .ref 64), (0, .ref 63)], [.int 0, .ref 153], jzv184) : jS)) rfl ?_
  refine jl_s (S' := ((277, [(6, .int 0), (5, .int 0), (4, .int 0), (3, .ref 153), (2, .ref 66), (1, .ref 64), (0, .ref 63)], [.long 0], jzv184) : jS)) rfl ?_
  refine jl_s (S' := ((279, [(6, .int 0), (5, .int 0), (4, .int 0), (3, .ref 153), (2, .ref 66), (1, .ref 64), (0, .ref 63)], [.int 0, .long 0], jzv184) : jS)) rfl ?_
  refine jl_s (S' := ((280, [(6, .int 0), (5, .int 0), (4, .int 0), (3, .ref 153), (2, .ref 66), (1, .ref 64), (0, .ref 63)], [.long 0, .long 0], jzv184) : jS)) rfl ?_
  refine jl_s (S' := ((281, [(6, .int 0), (5, .int 0), (4, .int 0), (3, .ref 153), (2, .ref 66), (1, .ref 64), (0, .ref 63)], [.int 0], jzv184) : jS)) rfl ?_
  refine jl_s (S' := ((286, [(6, .int 0), (5, .int 0), (4, .int 0), (3, .ref 153), (2, .ref 66), (1, .ref 64), (0, .ref 63)], [], jzv184) : jS)) rfl ?_
  refine jl_s (S' := ((1193, [(6, .int 0), (5, .int 0), (4, .int 0), (3, .ref 153), (2, .ref 66), (1, .ref 64), (0, .ref 63)], [], jzv184) : jS)) rfl ?_
  refine jl_s (S' := ((1196, [(4, .int 4), (6, .int 0), (5, .int 0), (3, .ref 153), (2, .ref 66), (1, .ref 64), (0, .ref 63)], [], jzv184) : jS)) rfl ?_
  refine jl_s (S' := ((23, [(4, .int 4), (6, .int 0), (5, .int 0), (3, .ref 153), (2, .ref 66), (1, .ref 64), (0, .ref 63)], [], jzv184) : jS)) rfl ?_
  refine jl_s (S' := ((25, [(4, .int 4), (6, .int 0), (5, .int 0), (3, .ref 153), (2, .ref 66), (1, .ref 64), (0, .ref 63)], [.int 4], jzv184) : jS)) rfl ?_
  refine jl_s (S' := ((26, [(4, .int 4), (6, .int 0), (5, .int 0), (3, .ref 153), (2, .ref 66), (1, .ref 64), (0, .ref 63)], [.ref 63, .int 4], jzv184) : jS)) rfl ?_
  refine jl_s (S' := ((27, [(4, .int 4), (6, .int 0), (5, .int 0), (3, .ref 153), (2, .ref 66), (1, .ref 64), (0, .ref 63)], [.int 4, .int 4], jzv184) : jS)) rfl ?_
  refine jl_s (S' := ((28, [(4, .int 4), (6, .int 0), (5, .int 0), (3, .ref 153), (2, .ref 66), (1, .ref 64), (0, .ref 63)], [.int 4, .int 4, .int 4], jzv184) : jS)) rfl ?_
  refine jl_s (S' := ((29, [(4, .int 4), (6, .int 0), (5, .int 0), (3, .ref 153), (2, .ref 66), (1, .ref 64), (0, .ref 63)], [.int 0, .int 4], jzv184) : jS)) rfl ?_
  refine jl_s (S' := ((1199, [(4, .int 4), (6, .int 0), (5, .int 0), (3, .ref 153), (2, .ref 66), (1, .ref 64), (0, .ref 63)], [], jzv184) : jS)) rfl ?_
  refine jl_s (S' := ((1200, [(4, .int 4), (6, .int 0), (5, .int 0), (3, .ref 153), (2, .ref 66), (1, .ref 64), (0, .ref 63)], [.int 1], jzv184) : jS)) rfl ?_
  exact jl_r (r := (.inl (some (.int 1)), jzv184)) rfl
-- op 3 0: jzl45
set_option maxHeartbeats 4000000 in
set_option maxRecDepth 100000 in
theorem jzl46 (xs : Nat → Int32) (hop : xs 0 &&& 31 = 3)  (hw : xs 1 = 1) : jRun ((4, xs) : jX) 2000 38 23 [.ref 64, .int 1] jzv181 = some (.inl (some (.int (-1))), jzv181) := by
  refine jr_run (e := jm23) rfl (Nat.le_of_ble_eq_true rfl) ?_
  refine jl_s (S' := ((1, [(0, .ref 64), (1, .int 1)], [.int 1], jzv181) : jS)) rfl ?_
  refine jl_s (S' := ((4, [(0, .ref 64), (1, .int 1)], [], jzv181) : jS)) rfl ?_
  refine jl_s (S' := ((5, [(0, .ref 64), (1, .int 1)], [.int 1], jzv181) : jS)) rfl ?_
  refine jl_s (S' := ((6, [(0, .ref 64), (1, .int 1)], [.int 2, .int 1], jzv181) : jS)) rfl ?_
  refine jl_s (S' := ((19, [(0, .ref 64), (1, .int 1)], [], jzv181) : jS)) rfl ?_
  refine jl_s (S' := ((20, [(0, .ref 64), (1, .int 1)], [.int 1], jzv181) : jS)) rfl ?_
  refine jl_s (S' := ((30, [(0, .ref 64), (1, .int 1)], [], jzv181) : jS)) rfl ?_
  refine jl_s (S' := ((31, [(0, .ref 64), (1, .int 1)], [.int 1], jzv181) : jS)) rfl ?_
  refine jl_s (S' := ((32, [(0, .ref 64), (1, .int 1)], [.int 1, .int 1], jzv181) : jS)) rfl ?_
  refine jl_s (S' := ((35, [(0, .ref 64), (1, .int 1)], [], jzv181) : jS)) rfl ?_
  refine jl_s (S' := ((36, [(0, .ref 64), (1, .int 1)], [.ref 64], jzv181) : jS)) rfl ?_
  refine jl_s (S' := ((39, [(0, .ref 64), (1, .int 1)], [.int (-1)], jzv181) : jS)) rfl ?_
  refine jl_s (S' := ((46, [(0, .ref 64), (1, .int 1)], [.int (-1)], jzv181) : jS)) rfl ?_
  exact jl_r (r := (.inl (some (.int (-1))), jzv181)) rfl
def jzc122 : jC := .inl (2, 1, .inr (.inl (vp_updL (fun _ => 0) 0 (-1))))
def jzv185 : jH := [jzc5, jzc2, jzc117, jzc7, jzc9, jzc9, jzc9, jzc9, jzc9, jzc17, jzc19, jzc19, jzc19, jzc19, jzc19, jzc19, jzc19, jzc19, jzc28, jzc28, jzc28, jzc28, jzc28, jzc28, jzc28, jzc28, jzc28, jzc28, jzc28, jzc28, jzc28, jzc28, jzc43, jzc43, jzc43, jzc43, jzc43, jzc49, jzc49, jzc52, jzc52, jzc52, jzc56, jzc56, jzc59, jzc56, jzc62, jzc28, jzc28, jzc28, jzc28, jzc28, jzc69, jzc71, jzc73, jzc43, jzc76, jzc52, jzc52, jzc80, jzc80, jzc80, jzc84, jzc52, jzc52, jzc52, jzc52, jzc52, jzc52, jzc52, jzc93, jzc93, jzc52, jzc52, jzc98, jzc100, jzc93, jzc52, jzc52, jzc52, jzc52, jzc107, jzc109, jzc111, jzc100, jzc100, jzc100, jzc111, jzc111, jzc122]
set_option maxHeartbeats 4000000 in
set_option maxRecDepth 100000 in
theorem jzl47 (xs : Nat → Int32) (hop : xs 0 &&& 31 = 3)  (hw : xs 1 = 1) : jRun ((4, xs) : jX) 2000 39 2 [.ref 64, .int 1, .ref 153] jzv181 = some (.inl (some (.int 0)), jzv185) := by
  refine jr_run (e := jm2) rfl (Nat.le_of_ble_eq_true rfl) ?_
  refine jl_s (S' := ((1, [(0, .ref 64), (1, .int 1), (2, .ref 153)], [.ref 153], jzv181) : jS)) rfl ?_
  refine jl_s (S' := ((2, [(0, .ref 64), (1, .int 1), (2, .ref 153)], [.int 0, .ref 153], jzv181) : jS)) rfl ?_
  refine jl_s (S' := ((3, [(0, .ref 64), (1, .int 1), (2, .ref 153)], [.ref 64, .int 0, .ref 153], jzv181) : jS)) rfl ?_
  refine jl_s (S' := ((4, [(0, .ref 64), (1, .int 1), (2, .ref 153)], [.int 1, .ref 64, .int 0, .ref 153], jzv181) : jS)) rfl ?_
  refine jl_c (t := 23) (as := [.ref 64, .int 1]) (V := jzv181) (r := (.inl (some (.int (-1))), jzv181)) (S' := ((7, [(0, .ref 64), (1, .int 1), (2, .ref 153)], [.int (-1), .int 0, .ref 153], jzv181) : jS)) rfl (jzl46 xs hop  hw) rfl ?_
  refine jl_s (S' := ((8, [(0, .ref 64), (1, .int 1), (2, .ref 153)], [.long (-1), .int 0, .ref 153], jzv181) : jS)) rfl ?_
  refine jl_s (S' := ((9, [(0, .ref 64), (1, .int 1), (2, .ref 153)], [], jzv185) : jS)) rfl ?_
  refine jl_s (S' := ((15, [(0, .ref 64), (1, .int 1), (2, .ref 153)], [], jzv185) : jS)) rfl ?_
  refine jl_s (S' := ((16, [(0, .ref 64), (1, .int 1), (2, .ref 153)], [.int 0], jzv185) : jS)) rfl ?_
  exact jl_r (r := (.inl (some (.int 0)), jzv185)) rfl
set_option maxHeartbeats 4000000 in
set_option maxRecDepth 100000 in
theorem jzl48 (xs : Nat → Int32) (hop : xs 0 &&& 31 = 3)  (hw : xs 1 = 1) : jRun ((4, xs) : jX) 2000 38 246 [.int 1, .int 0, .int 2] jzv185 = some (.inl (some (.int 1)), jzv185) := by
  refine jr_run (e := jm246) rfl (Nat.le_of_ble_eq_true rfl) ?_
  refine jl_s (S' := ((1, [(0, .int 1), (1, .int 0), (2, .int 2)], [.int 1], jzv185) : jS)) rfl ?_
  refine jl_s (S' := ((2, [(0, .int 1), (1, .int 0), (2, .int 2)], [.int 0, .int 1], jzv185) : jS)) rfl ?_
  refine jl_s (S' := ((5, [(0, .int 1), (1, .int 0), (2, .int 2)], [], jzv185) : jS)) rfl ?_
  refine jl_s (S' := ((6, [(0, .int 1), (1, .int 0), (2, .int 2)], [.int 1], jzv185) : jS)) rfl ?_
  refine jl_s (S' := ((7, [(0, .int 1), (1, .int 0), (2, .int 2)], [.int 2, .int 1], jzv185) : jS)) rfl ?_
  refine jl_s (S' := ((10, [(0, .int 1), (1, .int 0), (2, .int 2)], [], jzv185) : jS)) rfl ?_
  refine jl_s (S' := ((11, [(0, .int 1), (1, .int 0), (2, .int 2)], [.int 1], jzv185) : jS)) rfl ?_
  refine jl_s (S' := ((15, [(0, .int 1), (1, .int 0), (2, .int 2)], [.int 1], jzv185) : jS)) rfl ?_
  exact jl_r (r := (.inl (some (.int 1)), jzv185)) rfl
set_option maxHeartbeats 4000000 in
set_option maxRecDepth 100000 in
theorem jzl49 (xs : Nat → Int32) (hop : xs 0 &&& 31 = 3)  (hw : xs 1 = 1) : jRun ((4, xs) : jX) 2000 38 245 [.ref 66, .int 0, .int 0, .int 0] jzv185 = some (.inl (some (.int 0)), jzv185) := by
  refine jr_run (e := jm245) rfl (Nat.le_of_ble_eq_true rfl) ?_
  refine jl_s (S' := ((1, [(0, .ref 66), (1, .int 0), (2, .int 0), (3, .int 0)], [.ref 66], jzv185) : jS)) rfl ?_
  refine jl_s (S' := ((2, [(0, .ref 66), (1, .int 0), (2, .int 0), (3, .int 0)], [.int 0, .ref 66], jzv185) : jS)) rfl ?_
  refine jl_s (S' := ((9, [(0, .ref 66), (1, .int 0), (2, .int 0), (3, .int 0)], [.ref 66], jzv185) : jS)) rfl ?_
  refine jl_s (S' := ((10, [(0, .ref 66), (1, .int 0), (2, .int 0), (3, .int 0)], [.int 0, .ref 66], jzv185) : jS)) rfl ?_
  refine jl_s (S' := ((17, [(0, .ref 66), (1, .int 0), (2, .int 0), (3, .int 0)], [.ref 66], jzv185) : jS)) rfl ?_
  refine jl_s (S' := ((18, [(0, .ref 66), (1, .int 0), (2, .int 0), (3, .int 0)], [.int 0, .ref 66], jzv185) : jS)) rfl ?_
  refine jl_s (S' := ((25, [(0, .ref 66), (1, .int 0), (2, .int 0), (3, .int 0)], [.ref 66], jzv185) : jS)) rfl ?_
  refine jl_s (S' := ((26, [(0, .ref 66), (1, .int 0), (2, .int 0), (3, .int 0)], [.int 0, .ref 66], jzv185) : jS)) rfl ?_
  refine jl_s (S' := ((29, [(0, .ref 66), (1, .int 0), (2, .int 0), (3, .int 0)], [], jzv185) : jS)) rfl ?_
  refine jl_s (S' := ((30, [(0, .ref 66), (1, .int 0), (2, .int 0), (3, .int 0)], [.ref 66], jzv185) : jS)) rfl ?_
  refine jl_s (S' := ((33, [(0, .ref 66), (1, .int 0), (2, .int 0), (3, .int 0)], [.int 0], jzv185) : jS)) rfl ?_
  refine jl_s (S' := ((40, [(0, .ref 66), (1, .int 0), (2, .int 0), (3, .int 0)], [], jzv185) : jS)) rfl ?_
  refine jl_s (S' := ((41, [(0, .ref 66), (1, .int 0), (2, .int 0), (3, .int 0)], [.int 0], jzv185) : jS)) rfl ?_
  exact jl_r (r := (.inl (some (.int 0)), jzv185)) rfl
set_option maxHeartbeats 4000000 in
set_option maxRecDepth 100000 in
theorem jzl50 (xs : Nat → Int32) (hop : xs 0 &&& 31 = 3)  (hw : xs 1 = 1) : jRun ((4, xs) : jX) 2000 39 367 [.ref 66, .int 1] jzv185 = some (.inl (some (.int (-1))), jzv185) := by
  refine jr_run (e := jm367) rfl (Nat.le_of_ble_eq_true rfl) ?_
  refine jl_s (S' := ((1, [(0, .ref 66), (1, .int 1)], [.ref 66], jzv185) : jS)) rfl ?_
  refine jl_s (S' := ((2, [(0, .ref 66), (1, .int 1)], [.int 1, .ref 66], jzv185) : jS)) rfl ?_
  refine jl_s (S' := ((3, [(0, .ref 66), (1, .int 1)], [.int 0, .int 1, .ref 66], jzv185) : jS)) rfl ?_
  refine jl_s (S' := ((4, [(0, .ref 66), (1, .int 1)], [.int 2, .int 0, .int 1, .ref 66], jzv185) : jS)) rfl ?_
  refine jl_c (t := 246) (as := [.int 1, .int 0, .int 2]) (V := jzv185) (r := (.inl (some (.int 1)), jzv185)) (S' := ((7, [(0, .ref 66), (1, .int 1)], [.int 1, .ref 66], jzv185) : jS)) rfl (jzl48 xs hop  hw) rfl ?_
  refine jl_s (S' := ((14, [(0, .ref 66), (1, .int 1)], [.ref 66], jzv185) : jS)) rfl ?_
  refine jl_s (S' := ((15, [(0, .ref 66), (1, .int 1)], [.int 0, .ref 66], jzv185) : jS)) rfl ?_
  refine jl_s (S' := ((16, [(0, .ref 66), (1, .int 1)], [.int 0, .int 0, .ref 66], jzv185) : jS)) rfl ?_
  refine jl_s (S' := ((17, [(0, .ref 66), (1, .int 1)], [.int 0, .int 0, .int 0, .ref 66], jzv185) : jS)) rfl ?_
  refine jl_c (t := 245) (as := [.ref 66, .int 0, .int 0, .int 0]) (V := jzv185) (r := (.inl (some (.int 0)), jzv185)) (S' := ((20, [(0, .ref 66), (1, .int 1)], [.int 0], jzv185) : jS)) rfl (jzl49 xs hop  hw) rfl ?_
  refine jl_s (S' := ((25, [(0, .ref 66), (1, .int 1)], [], jzv185) : jS)) rfl ?_
  refine jl_s (S' := ((26, [(0, .ref 66), (1, .int 1)], [.int 1], jzv185) : jS)) rfl ?_
  refine jl_s (S' := ((36, [(0, .ref 66), (1, .int 1)], [], jzv185) : jS)) rfl ?_
  refine jl_s (S' := ((37, [(0, .ref 66), (1, .int 1)], [.int 1], jzv185) : jS)) rfl ?_
  refine jl_s (S' := ((38, [(0, .ref 66), (1, .int 1)], [.int 1, .int 1], jzv185) : jS)) rfl ?_
  refine jl_s (S' := ((41, [(0, .ref 66), (1, .int 1)], [], jzv185) : jS)) rfl ?_
  refine jl_s (S' := ((42, [(0, .ref 66), (1, .int 1)], [.ref 66], jzv185) : jS)) rfl ?_
  refine jl_s (S' := ((45, [(0, .ref 66), (1, .int 1)], [.int (-1)], jzv185) : jS)) rfl ?_
  refine jl_s (S' := ((52, [(0, .ref 66), (1, .int 1)], [.int (-1)], jzv185) : jS)) rfl ?_
  exact jl_r (r := (.inl (some (.int (-1))), jzv185)) rfl
set_option maxHeartbeats 4000000 in
set_option maxRecDepth 100000 in
theorem jzl51 (xs : Nat → Int32) (hop : xs 0 &&& 31 = 3)  (hw : xs 1 = 1) : jRun ((4, xs) : jX) 2000 39 244 [.ref 66] jzv185 = some (.inl (some (.int 0)), jzv185) := by
  refine jr_run (e := jm244) rfl (Nat.le_of_ble_eq_true rfl) ?_
  refine jl_s (S' := ((1, [(0, .ref 66)], [.ref 66], jzv185) : jS)) rfl ?_
  refine jl_s (S' := ((4, [(0, .ref 66)], [.int 0], jzv185) : jS)) rfl ?_
  exact jl_r (r := (.inl (some (.int 0)), jzv185)) rfl
set_option maxHeartbeats 4000000 in
set_option maxRecDepth 100000 in
theorem jzl52 (xs : Nat → Int32) (hop : xs 0 &&& 31 = 3)  (hw : xs 1 = 1) : jLoop (jRun ((4, xs) : jX) 2000 39) ((4, xs) : jX) jm18 1000 ((23, [(4, .int 0), (3, .ref 153), (2, .ref 66), (1, .ref 64), (0, .ref 63)], [], jzv181) : jS) = some (.inl (some (.int 1)), jzv185) := by
  refine jl_s (S' := ((25, [(4, .int 0), (3, .ref 153), (2, .ref 66), (1, .ref 64), (0, .ref 63)], [.int 0], jzv181) : jS)) rfl ?_
  refine jl_s (S' := ((26, [(4, .int 0), (3, .ref 153), (2, .ref 66), (1, .ref 64), (0, .ref 63)], [.ref 63, .int 0], jzv181) : jS)) rfl ?_
  refine jl_s (S' := ((27, [(4, .int 0), (3, .ref 153), (2, .ref 66), (1, .ref 64), (0, .ref 63)], [.int 4, .int 0], jzv181) : jS)) rfl ?_
  refine jl_s (S' := ((28, [(4, .int 0), (3, .ref 153), (2, .ref 66), (1, .ref 64), (0, .ref 63)], [.int 4, .int 4, .int 0], jzv181) : jS)) rfl ?_
  refine jl_s (S' := ((29, [(4, .int 0), (3, .ref 153), (2, .ref 66), (1, .ref 64), (0, .ref 63)], [.int 0, .int 0], jzv181) : jS)) rfl ?_
  refine jl_s (S' := ((32, [(4, .int 0), (3, .ref 153), (2, .ref 66), (1, .ref 64), (0, .ref 63)], [], jzv181) : jS)) rfl ?_
  refine jl_s (S' := ((33, [(4, .int 0), (3, .ref 153), (2, .ref 66), (1, .ref 64), (0, .ref 63)], [.ref 63], jzv181) : jS)) rfl ?_
  refine jl_s (S' := ((35, [(4, .int 0), (3, .ref 153), (2, .ref 66), (1, .ref 64), (0, .ref 63)], [.int 0, .ref 63], jzv181) : jS)) rfl ?_
  refine jl_s (S' := ((36, [(4, .int 0), (3, .ref 153), (2, .ref 66), (1, .ref 64), (0, .ref 63)], [.int (xs 0)], jzv181) : jS)) rfl ?_
  refine jl_s (S' := ((38, [(4, .int 0), (3, .ref 153), (2, .ref 66), (1, .ref 64), (0, .ref 63)], [.int 31, .int (xs 0)], jzv181) : jS)) rfl ?_
  refine jl_s (S' := ((39, [(4, .int 0), (3, .ref 153), (2, .ref 66), (1, .ref 64), (0, .ref 63)], [.int ((xs 0) &&& 31)], jzv181) : jS)) rfl ?_
  rw [hop]
  refine jl_s (S' := ((233, [(4, .int 0), (3, .ref 153), (2, .ref 66), (1, .ref 64), (0, .ref 63)], [], jzv181) : jS)) rfl ?_
  refine jl_s (S' := ((234, [(4, .int 0), (3, .ref 153), (2, .ref 66), (1, .ref 64), (0, .ref 63)], [.ref 64], jzv181) : jS)) rfl ?_
  refine jl_s (S' := ((235, [(4, .int 0), (3, .ref 153), (2, .ref 66), (1, .ref 64), (0, .ref 63)], [.ref 63, .ref 64], jzv181) : jS)) rfl ?_
  refine jl_s (S' := ((237, [(4, .int 0), (3, .ref 153), (2, .ref 66), (1, .ref 64), (0, .ref 63)], [.int 0, .ref 63, .ref 64], jzv181) : jS)) rfl ?_
  refine jl_s (S' := ((238, [(4, .int 0), (3, .ref 153), (2, .ref 66), (1, .ref 64), (0, .ref 63)], [.int 1, .int 0, .ref 63, .ref 64], jzv181) : jS)) rfl ?_
  refine jl_s (S' := ((239, [(4, .int 0), (3, .ref 153), (2, .ref 66), (1, .ref 64), (0, .ref 63)], [.int 1, .ref 63, .ref 64], jzv181) : jS)) rfl ?_
  refine jl_s (S' := ((240, [(4, .int 0), (3, .ref 153), (2, .ref 66), (1, .ref 64), (0, .ref 63)], [.int (xs 1), .ref 64], jzv181) : jS)) rfl ?_
  rw [hw]
  refine jl_s (S' := ((241, [(4, .int 0), (3, .ref 153), (2, .ref 66), (1, .ref 64), (0, .ref 63)], [.ref 153, .int 1, .ref 64], jzv181) : jS)) rfl ?_
  refine jl_c (t := 2) (as := [.ref 64, .int 1, .ref 153]) (V := jzv181) (r := (.inl (some (.int 0)), jzv185)) (S' := ((244, [(4, .int 0), (3, .ref 153), (2, .ref 66), (1, .ref 64), (0, .ref 63)], [.int 0], jzv185) : jS)) rfl (jzl47 xs hop  hw) rfl ?_
  refine jl_s (S' := ((246, [(5, .int 0), (4, .int 0), (3, .ref 153), (2, .ref 66), (1, .ref 64), (0, .ref 63)], [], jzv185) : jS)) rfl ?_
  refine jl_s (S' := ((247, [(5, .int 0), (4, .int 0), (3, .ref 153), (2, .ref 66), (1, .ref 64), (0, .ref 63)], [.ref 66], jzv185) : jS)) rfl ?_
  refine jl_s (S' := ((248, [(5, .int 0), (4, .int 0), (3, .ref 153), (2, .ref 66), (1, .ref 64), (0, .ref 63)], [.ref 63, .ref 66], jzv185) : jS)) rfl ?_
  refine jl_s (S' := ((250, [(5, .int 0), (4, .int 0), (3, .ref 153), (2, .ref 66), (1, .ref 64), (0, .ref 63)], [.int 0, .ref 63, .ref 66], jzv185) : jS)) rfl ?_
  refine jl_s (S' := ((251, [(5, .int 0), (4, .int 0), (3, .ref 153), (2, .ref 66), (1, .ref 64), (0, .ref 63)], [.int 1, .int 0, .ref 63, .ref 66], jzv185) : jS)) rfl ?_
  refine jl_s (S' := ((252, [(5, .int 0), (4, .int 0), (3, .ref 153), (2, .ref 66), (1, .ref 64), (0, .ref 63)], [.int 1, .ref 63, .ref 66], jzv185) : jS)) rfl ?_
  refine jl_s (S' := ((253, [(5, .int 0), (4, .int 0), (3, .ref 153), (2, .ref 66), (1, .ref 64), (0, .ref 63)], [.int (xs 1), .ref 66], jzv185) : jS)) rfl ?_
  rw [hw]
  refine jl_c (t := 367) (as := [.ref 66, .int 1]) (V := jzv185) (r := (.inl (some (.int (-1))), jzv185)) (S' := ((256, [(5, .int 0), (4, .int 0), (3, .ref 153), (2, .ref 66), (1, .ref 64), (0, .ref 63)], [.int (-1)], jzv185) : jS)) rfl (jzl50 xs hop  hw) rfl ?_
  refine jl_s (S' := ((258, [(6, .int (-1)), (5, .int 0), (4, .int 0), (3, .ref 153), (2, .ref 66), (1, .ref 64), (0, .ref 63)], [], jzv185) : jS)) rfl ?_
  refine jl_s (S' := ((259, [(6, .int (-1)), (5, .int 0), (4, .int 0), (3, .ref 153), (2, .ref 66), (1, .ref 64), (0, .ref 63)], [.ref 66], jzv185) : jS)) rfl ?_
  refine jl_c (t := 244) (as := [.ref 66]) (V := jzv185) (r := (.inl (some (.int 0)), jzv185)) (S' := ((262, [(6, .int (-1)), (5, .int 0), (4, .int 0), (3, .ref 153), (2, .ref 66), (1, .ref 64), (0, .ref 63)], [.int 0], jzv185) : jS)) rfl (jzl51 xs hop  hw) rfl ?_
  refine jl_s (S' := ((264, [(6, .int (-1)), (5, .int 0), (4, .int 0), (3, .ref 153), (2, .ref 66), (1, .ref 64), (0, .ref 63)], [.int 0, .int 0], jzv185) : jS)) rfl ?_
  refine jl_s (S' := ((269, [(6, .int (-1)), (5, .int 0), (4, .int 0), (3, .ref 153), (2, .ref 66), (1, .ref 64), (0, .ref 63)], [], jzv185) : jS)) rfl ?_
  refine jl_s (S' := ((271, [(6, .int (-1)), (5, .int 0), (4, .int 0), (3, .ref 153), (2, .ref 66), (1, .ref 64), (0, .ref 63)], [.int 0], jzv185) : jS)) rfl ?_
  refine jl_s (S' := ((274, [(6, .int (-1)), (5, .int 0), (4, .int 0), (3, .ref 153), (2, .ref 66), (1, .ref 64), (0, .ref 63)], [], jzv185) : jS)) rfl ?_
  refine jl_s (S' := ((275, [(6, .int (-1)), (5, .int 0), (4, .int 0), (3, .ref 153), (2, .ref 66), (1, .ref 64), (0, .ref 63)], [.ref 153], jzv185) : jS)) rfl ?_
  refine jl_s (S' := ((276, [(6, .int (-1)), (5, .int 0), (4, .int 0), (3, .ref 153), (2, .ref 66), (1, .ref 64), (0, .ref 63)], [.int 0, .ref 153], jzv185) : jS)) rfl ?_
  refine jl_s (S' := ((277, [(6, .int (-1)), (5, .int 0), (4, .int 0), (3, .ref 153), (2, .ref 66), (1, .ref 64), (0, .ref 63)], [.long (-1)], jzv185) : jS)) rfl ?_
  refine jl_s (S' := ((279, [(6, .int (-1)), (5, .int 0), (4, .int 0), (3, .ref 153), (2, .ref 66), (1, .ref 64), (0, .ref 63)], [.int (-1), .long (-1)], jzv185) : jS)) rfl ?_
  refine jl_s (S' := ((280, [(6, .int (-1)), (5, .int 0), (4, .int 0), (3, .ref 153), (2, .ref 66), (1, .ref 64), (0, .ref 63)], [.long (-1), .long (-1)], jzv185) : jS)) rfl ?_
  refine jl_s (S' := ((281, [(6, .int (-1)), (5, .int 0), (4, .int 0), (3, .ref 153), (2, .ref 66), (1, .ref 64), (0, .ref 63)], [.int 0], jzv185) : jS)) rfl ?_
  refine jl_s (S' := ((286, [(6, .int (-1)), (5, .int 0), (4, .int 0), (3, .ref 153), (2, .ref 66), (1, .ref 64), (0, .ref 63)], [], jzv185) : jS)) rfl ?_
  refine jl_s (S' := ((1193, [(6, .int (-1)), (5, .int 0), (4, .int 0), (3, .ref 153), (2, .ref 66), (1, .ref 64), (0, .ref 63)], [], jzv185) : jS)) rfl ?_
  refine jl_s (S' := ((1196, [(4, .int 4), (6, .int (-1)), (5, .int 0), (3, .ref 153), (2, .ref 66), (1, .ref 64), (0, .ref 63)], [], jzv185) : jS)) rfl ?_
  refine jl_s (S' := ((23, [(4, .int 4), (6, .int (-1)), (5, .int 0), (3, .ref 153), (2, .ref 66), (1, .ref 64), (0, .ref 63)], [], jzv185) : jS)) rfl ?_
  refine jl_s (S' := ((25, [(4, .int 4), (6, .int (-1)), (5, .int 0), (3, .ref 153), (2, .ref 66), (1, .ref 64), (0, .ref 63)], [.int 4], jzv185) : jS)) rfl ?_
  refine jl_s (S' := ((26, [(4, .int 4), (6, .int (-1)), (5, .int 0), (3, .ref 153), (2, .ref 66), (1, .ref 64), (0, .ref 63)], [.ref 63, .int 4], jzv185) : jS)) rfl ?_
  refine jl_s (S' := ((27, [(4, .int 4), (6, .int (-1)), (5, .int 0), (3, .ref 153), (2, .ref 66), (1, .ref 64), (0, .ref 63)], [.int 4, .int 4], jzv185) : jS)) rfl ?_
  refine jl_s (S' := ((28, [(4, .int 4), (6, .int (-1)), (5, .int 0), (3, .ref 153), (2, .ref 66), (1, .ref 64), (0, .ref 63)], [.int 4, .int 4, .int 4], jzv185) : jS)) rfl ?_
  refine jl_s (S' := ((29, [(4, .int 4), (6, .int (-1)), (5, .int 0), (3, .ref 153), (2, .ref 66), (1, .ref 64), (0, .ref 63)], [.int 0, .int 4], jzv185) : jS)) rfl ?_
  refine jl_s (S' := ((1199, [(4, .int 4), (6, .int (-1)), (5, .int 0), (3, .ref 153), (2, .ref 66), (1, .ref 64), (0, .ref 63)], [], jzv185) : jS)) rfl ?_
  refine jl_s (S' := ((1200, [(4, .int 4), (6, .int (-1)), (5, .int 0), (3, .ref 153), (2, .ref 66), (1, .ref 64), (0, .ref 63)], [.int 1], jzv185) : jS)) rfl ?_
  exact jl_r (r := (.inl (some (.int 1)), jzv185)) rfl
-- op 3 1: jzl52
set_option maxHeartbeats 4000000 in
set_option maxRecDepth 100000 in
theorem jzl53 (xs : Nat → Int32) (hop : xs 0 &&& 31 = 3)  (hw : xs 1 = 2) : jRun ((4, xs) : jX) 2000 38 23 [.ref 64, .int 2] jzv181 = some (.inl (some (.int (-1))), jzv181) := by
  refine jr_run (e := jm23) rfl (Nat.le_of_ble_eq_true rfl) ?_
  refine jl_s (S' := ((1, [(0, .ref 64), (1, .int 2)], [.int 2], jzv181) : jS)) rfl ?_
  refine jl_s (S' := ((4, [(0, .ref 64), (1, .int 2)], [], jzv181) : jS)) rfl ?_
  refine jl_s (S' := ((5, [(0, .ref 64), (1, .int 2)], [.int 2], jzv181) : jS)) rfl ?_
  refine jl_s (S' := ((6, [(0, .ref 64), (1, .int 2)], [.int 2, .int 2], jzv181) : jS)) rfl ?_
  refine jl_s (S' := ((19, [(0, .ref 64), (1, .int 2)], [], jzv181) : jS)) rfl ?_
  refine jl_s (S' := ((20, [(0, .ref 64), (1, .int 2)], [.int 2], jzv181) : jS)) rfl ?_
  refine jl_s (S' := ((30, [(0, .ref 64), (1, .int 2)], [], jzv181) : jS)) rfl ?_
  refine jl_s (S' := ((31, [(0, .ref 64), (1, .int 2)], [.int 2], jzv181) : jS)) rfl ?_
  refine jl_s (S' := ((32, [(0, .ref 64), (1, .int 2)], [.int 1, .int 2], jzv181) : jS)) rfl ?_
  refine jl_s (S' := ((42, [(0, .ref 64), (1, .int 2)], [], jzv181) : jS)) rfl ?_
  refine jl_s (S' := ((43, [(0, .ref 64), (1, .int 2)], [.ref 64], jzv181) : jS)) rfl ?_
  refine jl_s (S' := ((46, [(0, .ref 64), (1, .int 2)], [.int (-1)], jzv181) : jS)) rfl ?_
  exact jl_r (r := (.inl (some (.int (-1))), jzv181)) rfl
set_option maxHeartbeats 4000000 in
set_option maxRecDepth 100000 in
theorem jzl54 (xs : Nat → Int32) (hop : xs 0 &&& 31 = 3)  (hw : xs 1 = 2) : jRun ((4, xs) : jX) 2000 39 2 [.ref 64, .int 2, .ref 153] jzv181 = some (.inl (some (.int 0)), jzv185) := by
  refine jr_run (e := jm2) rfl (Nat.le_of_ble_eq_true rfl) ?_
  refine jl_s (S' := ((1, [(0, .ref 64), (1, .int 2), (2, .ref 153)], [.ref 153], jzv181) : jS)) rfl ?_
  refine jl_s (S' := ((2, [(0, .ref 64), (1, .int 2), (2, .ref 153)], [.int 0, .ref 153], jzv181) : jS)) rfl ?_
  refine jl_s (S' := ((3, [(0, .ref 64), (1, .int 2), (2, .ref 153)], [.ref 64, .int 0, .ref 153], jzv181) : jS)) rfl ?_
  refine jl_s (S' := ((4, [(0, .ref 64), (1, .int 2), (2, .ref 153)], [.int 2, .ref 64, .int 0, .ref 153], jzv181) : jS)) rfl ?_
  refine jl_c (t := 23) (as := [.ref 64, .int 2]) (V := jzv181) (r := (.inl (some (.int (-1))), jzv181)) (S' := ((7, [(0, .ref 64), (1, .int 2), (2, .ref 153)], [.int (-1), .int 0, .ref 153], jzv181) : jS)) rfl (jzl53 xs hop  hw) rfl ?_
  refine jl_s (S' := ((8, [(0, .ref 64), (1, .int 2), (2, .ref 153)], [.long (-1), .int 0, .ref 153], jzv181) : jS)) rfl ?_
  refine jl_s (S' := ((9, [(0, .ref 64), (1, .int 2), (2, .ref 153)], [], jzv185) : jS)) rfl ?_
  refine jl_s (S' := ((15, [(0, .ref 64), (1, .int 2), (2, .ref 153)], [], jzv185) : jS)) rfl ?_
  refine jl_s (S' := ((16, [(0, .ref 64), (1, .int 2), (2, .ref 153)], [.int 0], jzv185) : jS)) rfl ?_
  exact jl_r (r := (.inl (some (.int 0)), jzv185)) rfl
set_option maxHeartbeats 4000000 in
set_option maxRecDepth 100000 in
theorem jzl55 (xs : Nat → Int32) (hop : xs 0 &&& 31 = 3)  (hw : xs 1 = 2) : jRun ((4, xs) : jX) 2000 38 246 [.int 2, .int 0, .int 2] jzv185 = some (.inl (some (.int 1)), jzv185) := by
  refine jr_run (e := jm246) rfl (Nat.le_of_ble_eq_true rfl) ?_
  refine jl_s (S' := ((1, [(0, .int 2), (1, .int 0), (2, .int 2)], [.int 2], jzv185) : jS)) rfl ?_
  refine jl_s (S' := ((2, [(0, .int 2), (1, .int 0), (2, .int 2)], [.int 0, .int 2], jzv185) : jS)) rfl ?_
  refine jl_s (S' := ((5, [(0, .int 2), (1, .int 0), (2, .int 2)], [], jzv185) : jS)) rfl ?_
  refine jl_s (S' := ((6, [(0, .int 2), (1, .int 0), (2, .int 2)], [.int 2], jzv185) : jS)) rfl ?_
  refine jl_s (S' := ((7, [(0, .int 2), (1, .int 0), (2, .int 2)], [.int 2, .int 2], jzv185) : jS)) rfl ?_
  refine jl_s (S' := ((10, [(0, .int 2), (1, .int 0), (2, .int 2)], [], jzv185) : jS)) rfl ?_
  refine jl_s (S' := ((11, [(0, .int 2), (1, .int 0), (2, .int 2)], [.int 1], jzv185) : jS)) rfl ?_
  refine jl_s (S' := ((15, [(0, .int 2), (1, .int 0), (2, .int 2)], [.int 1], jzv185) : jS)) rfl ?_
  exact jl_r (r := (.inl (some (.int 1)), jzv185)) rfl
set_option maxHeartbeats 4000000 in
set_option maxRecDepth 100000 in
theorem jzl56 (xs : Nat → Int32) (hop : xs 0 &&& 31 = 3)  (hw : xs 1 = 2) : jRun ((4, xs) : jX) 2000 38 245 [.ref 66, .int 0, .int 0, .int 0] jzv185 = some (.inl (some (.int 0)), jzv185) := by
  refine jr_run (e := jm245) rfl (Nat.le_of_ble_eq_true rfl) ?_
  refine jl_s (S' := ((1, [(0, .ref 66), (1, .int 0), (2, .int 0), (3, .int 0)], [.ref 66], jzv185) : jS)) rfl ?_
  refine jl_s (S' := ((2, [(0, .ref 66), (1, .int 0), (2, .int 0), (3, .int 0)], [.int 0, .ref 66], jzv185) : jS)) rfl ?_
  refine jl_s (S' := ((9, [(0, .ref 66), (1, .int 0), (2, .int 0), (3, .int 0)], [.ref 66], jzv185) : jS)) rfl ?_
  refine jl_s (S' := ((10, [(0, .ref 66), (1, .int 0), (2, .int 0), (3, .int 0)], [.int 0, .ref 66], jzv185) : jS)) rfl ?_
  refine jl_s (S' := ((17, [(0, .ref 66), (1, .int 0), (2, .int 0), (3, .int 0)], [.ref 66], jzv185) : jS)) rfl ?_
  refine jl_s (S' := ((18, [(0, .ref 66), (1, .int 0), (2, .int 0), (3, .int 0)], [.int 0, .ref 66], jzv185) : jS)) rfl ?_
  refine jl_s (S' := ((25, [(0, .ref 66), (1, .int 0), (2, .int 0), (3, .int 0)], [.ref 66], jzv185) : jS)) rfl ?_
  refine jl_s (S' := ((26, [(0, .ref 66), (1, .int 0), (2, .int 0), (3, .int 0)], [.int 0, .ref 66], jzv185) : jS)) rfl ?_
  refine jl_s (S' := ((29, [(0, .ref 66), (1, .int 0), (2, .int 0), (3, .int 0)], [], jzv185) : jS)) rfl ?_
  refine jl_s (S' := ((30, [(0, .ref 66), (1, .int 0), (2, .int 0), (3, .int 0)], [.ref 66], jzv185) : jS)) rfl ?_
  refine jl_s (S' := ((33, [(0, .ref 66), (1, .int 0), (2, .int 0), (3, .int 0)], [.int 0], jzv185) : jS)) rfl ?_
  refine jl_s (S' := ((40, [(0, .ref 66), (1, .int 0), (2, .int 0), (3, .int 0)], [], jzv185) : jS)) rfl ?_
  refine jl_s (S' := ((41, [(0, .ref 66), (1, .int 0), (2, .int 0), (3, .int 0)], [.int 0], jzv185) : jS)) rfl ?_
  exact jl_r (r := (.inl (some (.int 0)), jzv185)) rfl
set_option maxHeartbeats 4000000 in
set_option maxRecDepth 100000 in
theorem jzl57 (xs : Nat → Int32) (hop : xs 0 &&& 31 = 3)  (hw : xs 1 = 2) : jRun ((4, xs) : jX) 2000 39 367 [.ref 66, .int 2] jzv185 = some (.inl (some (.int (-1))), jzv185) := by
  refine jr_run (e := jm367) rfl (Nat.le_of_ble_eq_true rfl) ?_
  refine jl_s (S' := ((1, [(0, .ref 66), (1, .int 2)], [.ref 66], jzv185) : jS)) rfl ?_
  refine jl_s (S' := ((2, [(0, .ref 66), (1, .int 2)], [.int 2, .ref 66], jzv185) : jS)) rfl ?_
  refine jl_s (S' := ((3, [(0, .ref 66), (1, .int 2)], [.int 0, .int 2, .ref 66], jzv185) : jS)) rfl ?_
  refine jl_s (S' := ((4, [(0, .ref 66), (1, .int 2)], [.int 2, .int 0, .int 2, .ref 66], jzv185) : jS)) rfl ?_
  refine jl_c (t := 246) (as := [.int 2, .int 0, .int 2]) (V := jzv185) (r := (.inl (some (.int 1)), jzv185)) (S' := ((7, [(0, .ref 66), (1, .int 2)], [.int 1, .ref 66], jzv185) : jS)) rfl (jzl55 xs hop  hw) rfl ?_
  refine jl_s (S' := ((14, [(0, .ref 66), (1, .int 2)], [.ref 66], jzv185) : jS)) rfl ?_
  refine jl_s (S' := ((15, [(0, .ref 66), (1, .int 2)], [.int 0, .ref 66], jzv185) : jS)) rfl ?_
  refine jl_s (S' := ((16, [(0, .ref 66), (1, .int 2)], [.int 0, .int 0, .ref 66], jzv185) : jS)) rfl ?_
  refine jl_s (S' := ((17, [(0, .ref 66), (1, .int 2)], [.int 0, .int 0, .int 0, .ref 66], jzv185) : jS)) rfl ?_
  refine jl_c (t := 245) (as := [.ref 66, .int 0, .int 0, .int 0]) (V := jzv185) (r := (.inl (some (.int 0)), jzv185)) (S' := ((20, [(0, .ref 66), (1, .int 2)], [.int 0], jzv185) : jS)) rfl (jzl56 xs hop  hw) rfl ?_
  refine jl_s (S' := ((25, [(0, .ref 66), (1, .int 2)], [], jzv185) : jS)) rfl ?_
  refine jl_s (S' := ((26, [(0, .ref 66), (1, .int 2)], [.int 2], jzv185) : jS)) rfl ?_
  refine jl_s (S' := ((36, [(0, .ref 66), (1, .int 2)], [], jzv185) : jS)) rfl ?_
  refine jl_s (S' := ((37, [(0, .ref 66), (1, .int 2)], [.int 2], jzv185) : jS)) rfl ?_
  refine jl_s (S' := ((38, [(0, .ref 66), (1, .int 2)], [.int 1, .int 2], jzv185) : jS)) rfl ?_
  refine jl_s (S' := ((48, [(0, .ref 66), (1, .int 2)], [], jzv185) : jS)) rfl ?_
  refine jl_s (S' := ((49, [(0, .ref 66), (1, .int 2)], [.ref 66], jzv185) : jS)) rfl ?_
  refine jl_s (S' := ((52, [(0, .ref 66), (1, .int 2)], [.int (-1)], jzv185) : jS)) rfl ?_
  exact jl_r (r := (.inl (some (.int (-1))), jzv185)) rfl
set_option maxHeartbeats 4000000 in
set_option maxRecDepth 100000 in
theorem jzl58 (xs : Nat → Int32) (hop : xs 0 &&& 31 = 3)  (hw : xs 1 = 2) : jRun ((4, xs) : jX) 2000 39 244 [.ref 66] jzv185 = some (.inl (some (.int 0)), jzv185) := by
  refine jr_run (e := jm244) rfl (Nat.le_of_ble_eq_true rfl) ?_
  refine jl_s (S' := ((1, [(0, .ref 66)], [.ref 66], jzv185) : jS)) rfl ?_
  refine jl_s (S' := ((4, [(0, .ref 66)], [.int 0], jzv185) : jS)) rfl ?_
  exact jl_r (r := (.inl (some (.int 0)), jzv185)) rfl
set_option maxHeartbeats 4000000 in
set_option maxRecDepth 100000 in
theorem jzl59 (xs : Nat → Int32) (hop : xs 0 &&& 31 = 3)  (hw : xs 1 = 2) : jLoop (jRun ((4, xs) : jX) 2000 39) ((4, xs) : jX) jm18 1000 ((23, [(4, .int 0), (3, .ref 153), (2, .ref 66), (1, .ref 64), (0, .ref 63)], [], jzv181) : jS) = some (.inl (some (.int 1)), jzv185) := by
  refine jl_s (S' := ((25, [(4, .int 0), (3, .ref 153), (2, .ref 66), (1, .ref 64), (0, .ref 63)], [.int 0], jzv181) : jS)) rfl ?_
  refine jl_s (S' := ((26, [(4, .int 0), (3, .ref 153), (2, .ref 66), (1, .ref 64), (0, .ref 63)], [.ref 63, .int 0], jzv181) : jS)) rfl ?_
  refine jl_s (S' := ((27, [(4, .int 0), (3, .ref 153), (2, .ref 66), (1, .ref 64), (0, .ref 63)], [.int 4, .int 0], jzv181) : jS)) rfl ?_
  refine jl_s (S' := ((28, [(4, .int 0), (3, .ref 153), (2, .ref 66), (1, .ref 64), (0, .ref 63)], [.int 4, .int 4, .int 0], jzv181) : jS)) rfl ?_
  refine jl_s (S' := ((29, [(4, .int 0), (3, .ref 153), (2, .ref 66), (1, .ref 64), (0, .ref 63)], [.int 0, .int 0], jzv181) : jS)) rfl ?_
  refine jl_s (S' := ((32, [(4, .int 0), (3, .ref 153), (2, .ref 66), (1, .ref 64), (0, .ref 63)], [], jzv181) : jS)) rfl ?_
  refine jl_s (S' := ((33, [(4, .int 0), (3, .ref 153), (2, .ref 66), (1, .ref 64), (0, .ref 63)], [.ref 63], jzv181) : jS)) rfl ?_
  refine jl_s (S' := ((35, [(4, .int 0), (3, .ref 153), (2, .ref 66), (1, .ref 64), (0, .ref 63)], [.int 0, .ref 63], jzv181) : jS)) rfl ?_
  refine jl_s (S' := ((36, [(4, .int 0), (3, .ref 153), (2, .ref 66), (1, .ref 64), (0, .ref 63)], [.int (xs 0)], jzv181) : jS)) rfl ?_
  refine jl_s (S' := ((38, [(4, .int 0), (3, .ref 153), (2, .ref 66), (1, .ref 64), (0, .ref 63)], [.int 31, .int (xs 0)], jzv181) : jS)) rfl ?_
  refine jl_s (S' := ((39, [(4, .int 0), (3, .ref 153), (2, .ref 66), (1, .ref 64), (0, .ref 63)], [.int ((xs 0) &&& 31)], jzv181) : jS)) rfl ?_
  rw [hop]
  refine jl_s (S' := ((233, [(4, .int 0), (3, .ref 153), (2, .ref 66), (1, .ref 64), (0, .ref 63)], [], jzv181) : jS)) rfl ?_
  refine jl_s (S' := ((234, [(4, .int 0), (3, .ref 153), (2, .ref 66), (1, .ref 64), (0, .ref 63)], [.ref 64], jzv181) : jS)) rfl ?_
  refine jl_s (S' := ((235, [(4, .int 0), (3, .ref 153), (2, .ref 66), (1, .ref 64), (0, .ref 63)], [.ref 63, .ref 64], jzv181) : jS)) rfl ?_
  refine jl_s (S' := ((237, [(4, .int 0), (3, .ref 153), (2, .ref 66), (1, .ref 64), (0, .ref 63)], [.int 0, .ref 63, .ref 64], jzv181) : jS)) rfl ?_
  refine jl_s (S' := ((238, [(4, .int 0), (3, .ref 153), (2, .ref 66), (1, .ref 64), (0, .ref 63)], [.int 1, .int 0, .ref 63, .ref 64], jzv181) : jS)) rfl ?_
  refine jl_s (S' := ((239, [(4, .int 0), (3, .ref 153), (2, .ref 66), (1, .ref 64), (0, .ref 63)], [.int 1, .ref 63, .ref 64], jzv181) : jS)) rfl ?_
  refine jl_s (S' := ((240, [(4, .int 0), (3, .ref 153), (2, .ref 66), (1, .ref 64), (0, .ref 63)], [.int (xs 1), .ref 64], jzv181) : jS)) rfl ?_
  rw [hw]
  refine jl_s (S' := ((241, [(4, .int 0), (3, .ref 153), (2, .ref 66), (1, .ref 64), (0, .ref 63)], [.ref 153, .int 2, .ref 64], jzv181) : jS)) rfl ?_
  refine jl_c (t := 2) (as := [.ref 64, .int 2, .ref 153]) (V := jzv181) (r := (.inl (some (.int 0)), jzv185)) (S' := ((244, [(4, .int 0), (3, .ref 153), (2, .ref 66), (1, .ref 64), (0, .ref 63)], [.int 0], jzv185) : jS)) rfl (jzl54 xs hop  hw) rfl ?_
  refine jl_s (S' := ((246, [(5, .int 0), (4, .int 0), (3, .ref 153), (2, .ref 66), (1, .ref 64), (0, .ref 63)], [], jzv185) : jS)) rfl ?_
  refine jl_s (S' := ((247, [(5, .int 0), (4, .int 0), (3, .ref 153), (2, .ref 66), (1, .ref 64), (0, .ref 63)], [.ref 66], jzv185) : jS)) rfl ?_
  refine jl_s (S' := ((248, [(5, .int 0), (4, .int 0), (3, .ref 153), (2, .ref 66), (1, .ref 64), (0, .ref 63)], [.ref 63, .ref 66], jzv185) : jS)) rfl ?_
  refine jl_s (S' := ((250, [(5, .int 0), (4, .int 0), (3, .ref 153), (2, .ref 66), (1, .ref 64), (0, .ref 63)], [.int 0, .ref 63, .ref 66], jzv185) : jS)) rfl ?_
  refine jl_s (S' := ((251, [(5, .int 0), (4, .int 0), (3, .ref 153), (2, .ref 66), (1, .ref 64), (0, .ref 63)], [.int 1, .int 0, .ref 63, .ref 66], jzv185) : jS)) rfl ?_
  refine jl_s (S' := ((252, [(5, .int 0), (4, .int 0), (3, .ref 153), (2, .ref 66), (1, .ref 64), (0, .ref 63)], [.int 1, .ref 63, .ref 66], jzv185) : jS)) rfl ?_
  refine jl_s (S' := ((253, [(5, .int 0), (4, .int 0), (3, .ref 153), (2, .ref 66), (1, .ref 64), (0, .ref 63)], [.int (xs 1), .ref 66], jzv185) : jS)) rfl ?_
  rw [hw]
  refine jl_c (t := 367) (as := [.ref 66, .int 2]) (V := jzv185) (r := (.inl (some (.int (-1))), jzv185)) (S' := ((256, [(5, .int 0), (4, .int 0), (3, .ref 153), (2, .ref 66), (1, .ref 64), (0, .ref 63)], [.int (-1)], jzv185) : jS)) rfl (jzl57 xs hop  hw) rfl ?_
  refine jl_s (S' := ((258, [(6, .int (-1)), (5, .int 0), (4, .int 0), (3, .ref 153), (2, .ref 66), (1, .ref 64), (0, .ref 63)], [], jzv185) : jS)) rfl ?_
  refine jl_s (S' := ((259, [(6, .int (-1)), (5, .int 0), (4, .int 0), (3, .ref 153), (2, .ref 66), (1, .ref 64), (0, .ref 63)], [.ref 66], jzv185) : jS)) rfl ?_
  refine jl_c (t := 244) (as := [.ref 66]) (V := jzv185) (r := (.inl (some (.int 0)), jzv185)) (S' := ((262, [(6, .int (-1)), (5, .int 0), (4, .int 0), (3, .ref 153), (2, .ref 66), (1, .ref 64), (0, .ref 63)], [.int 0], jzv185) : jS)) rfl (jzl58 xs hop  hw) rfl ?_
  refine jl_s (S' := ((264, [(6, .int (-1)), (5, .int 0), (4, .int 0), (3, .ref 153), (2, .ref 66), (1, .ref 64), (0, .ref 63)], [.int 0, .int 0], jzv185) : jS)) rfl ?_
  refine jl_s (S' := ((269, [(6, .int (-1)), (5, .int 0), (4, .int 0), (3, .ref 153), (2, .ref 66), (1, .ref 64), (0, .ref 63)], [], jzv185) : jS)) rfl ?_
  refine jl_s (S' := ((271, [(6, .int (-1)), (5, .int 0), (4, .int 0), (3, .ref 153), (2, .ref 66), (1, .ref 64), (0, .ref 63)], [.int 0], jzv185) : jS)) rfl ?_
  refine jl_s (S' := ((274, [(6, .int (-1)), (5, .int 0), (4, .int 0), (3, .ref 153), (2, .ref 66), (1, .ref 64), (0, .ref 63)], [], jzv185) : jS)) rfl ?_
  refine jl_s (S' := ((275, [(6, .int (-1)), (5, .int 0), (4, .int 0), (3, .ref 153), (2, .ref 66), (1, .ref 64), (0, .ref 63)], [.ref 153], jzv185) : jS)) rfl ?_
  refine jl_s (S' := ((276, [(6, .int (-1)), (5, .int 0), (4, .int 0), (3, .ref 153), (2, .ref 66), (1, .ref 64), (0, .ref 63)], [.int 0, .ref 153], jzv185) : jS)) rfl ?_
  refine jl_s (S' := ((277, [(6, .int (-1)), (5, .int 0), (4, .int 0), (3, .ref 153), (2, .ref 66), (1, .ref 64), (0, .ref 63)], [.long (-1)], jzv185) : jS)) rfl ?_
  refine jl_s (S' := ((279, [(6, .int (-1)), (5, .int 0), (4, .int 0), (3, .ref 153), (2, .ref 66), (1, .ref 64), (0, .ref 63)], [.int (-1), .long (-1)], jzv185) : jS)) rfl ?_
  refine jl_s (S' := ((280, [(6, .int (-1)), (5, .int 0), (4, .int 0), (3, .ref 153), (2, .ref 66), (1, .ref 64), (0, .ref 63)], [.long (-1), .long (-1)], jzv185) : jS)) rfl ?_
  refine jl_s (S' := ((281, [(6, .int (-1)), (5, .int 0), (4, .int 0), (3, .ref 153), (2, .ref 66), (1, .ref 64), (0, .ref 63)], [.int 0], jzv185) : jS)) rfl ?_
  refine jl_s (S' := ((286, [(6, .int (-1)), (5, .int 0), (4, .int 0), (3, .ref 153), (2, .ref 66), (1, .ref 64), (0, .ref 63)], [], jzv185) : jS)) rfl ?_
  refine jl_s (S' := ((1193, [(6, .int (-1)), (5, .int 0), (4, .int 0), (3, .ref 153), (2, .ref 66), (1, .ref 64), (0, .ref 63)], [], jzv185) : jS)) rfl ?_
  refine jl_s (S' := ((1196, [(4, .int 4), (6, .int (-1)), (5, .int 0), (3, .ref 153), (2, .ref 66), (1, .ref 64), (0, .ref 63)], [], jzv185) : jS)) rfl ?_
  refine jl_s (S' := ((23, [(4, .int 4), (6, .int (-1)), (5, .int 0), (3, .ref 153), (2, .ref 66), (1, .ref 64), (0, .ref 63)], [], jzv185) : jS)) rfl ?_
  refine jl_s (S' := ((25, [(4, .int 4), (6, .int (-1)), (5, .int 0), (3, .ref 153), (2, .ref 66), (1, .ref 64), (0, .ref 63)], [.int 4], jzv185) : jS)) rfl ?_
  refine jl_s (S' := ((26, [(4, .int 4), (6, .int (-1)), (5, .int 0), (3, .ref 153), (2, .ref 66), (1, .ref 64), (0, .ref 63)], [.ref 63, .int 4], jzv185) : jS)) rfl ?_
  refine jl_s (S' := ((27, [(4, .int 4), (6, .int (-1)), (5, .int 0), (3, .ref 153), (2, .ref 66), (1, .ref 64), (0, .ref 63)], [.int 4, .int 4], jzv185) : jS)) rfl ?_
  refine jl_s (S' := ((28, [(4, .int 4), (6, .int (-1)), (5, .int 0), (3, .ref 153), (2, .ref 66), (1, .ref 64), (0, .ref 63)], [.int 4, .int 4, .int 4], jzv185) : jS)) rfl ?_
  refine jl_s (S' := ((29, [(4, .int 4), (6, .int (-1)), (5, .int 0), (3, .ref 153), (2, .ref 66), (1, .ref 64), (0, .ref 63)], [.int 0, .int 4], jzv185) : jS)) rfl ?_
  refine jl_s (S' := ((1199, [(4, .int 4), (6, .int (-1)), (5, .int 0), (3, .ref 153), (2, .ref 66), (1, .ref 64), (0, .ref 63)], [], jzv185) : jS)) rfl ?_
  refine jl_s (S' := ((1200, [(4, .int 4), (6, .int (-1)), (5, .int 0), (3, .ref 153), (2, .ref 66), (1, .ref 64), (0, .ref 63)], [.int 1], jzv185) : jS)) rfl ?_
  exact jl_r (r := (.inl (some (.int 1)), jzv185)) rfl
-- op 3 2: jzl59
def jzc123 : jC := .inr (15, [])
def jzv186 : jH := [jzc5, jzc2, jzc117, jzc7, jzc9, jzc9, jzc9, jzc9, jzc9, jzc17, jzc19, jzc19, jzc19, jzc19, jzc19, jzc19, jzc19, jzc19, jzc28, jzc28, jzc28, jzc28, jzc28, jzc28, jzc28, jzc28, jzc28, jzc28, jzc28, jzc28, jzc28, jzc28, jzc43, jzc43, jzc43, jzc43, jzc43, jzc49, jzc49, jzc52, jzc52, jzc52, jzc56, jzc56, jzc59, jzc56, jzc62, jzc28, jzc28, jzc28, jzc28, jzc28, jzc69, jzc71, jzc73, jzc43, jzc76, jzc52, jzc52, jzc80, jzc80, jzc80, jzc84, jzc52, jzc52, jzc52, jzc52, jzc52, jzc52, jzc52, jzc93, jzc93, jzc52, jzc52, jzc98, jzc100, jzc93, jzc52, jzc52, jzc52, jzc52, jzc107, jzc109, jzc111, jzc100, jzc100, jzc100, jzc111, jzc111, jzc118, jzc123]
set_option maxHeartbeats 4000000 in
set_option maxRecDepth 100000 in
theorem jzl60 (xs : Nat → Int32) (hop : xs 0 &&& 31 = 4)  : jRun ((4, xs) : jX) 2000 36 39 [.ref 64] jzv181 = some (.inr 154, jzv186) := by
  refine jr_run (e := jm39) rfl (Nat.le_of_ble_eq_true rfl) ?_
  refine jl_s (S' := ((1, [(0, .ref 64)], [.ref 64], jzv181) : jS)) rfl ?_
  refine jl_s (S' := ((4, [(0, .ref 64)], [.null], jzv181) : jS)) rfl ?_
  refine jl_s (S' := ((5, [(1, .null), (0, .ref 64)], [], jzv181) : jS)) rfl ?_
  refine jl_s (S' := ((6, [(1, .null), (0, .ref 64)], [.null], jzv181) : jS)) rfl ?_
  refine jl_s (S' := ((9, [(1, .null), (0, .ref 64)], [], jzv181) : jS)) rfl ?_
  exact jl_r (r := (.inr 154, jzv186)) rfl
set_option maxHeartbeats 4000000 in
set_option maxRecDepth 100000 in
theorem jzl61 (xs : Nat → Int32) (hop : xs 0 &&& 31 = 4)  : jRun ((4, xs) : jX) 2000 37 40 [.ref 64, .int (xs 1)] jzv181 = some (.inr 154, jzv186) := by
  refine jr_run (e := jm40) rfl (Nat.le_of_ble_eq_true rfl) ?_
  refine jl_s (S' := ((1, [(0, .ref 64), (1, .int (xs 1))], [.ref 64], jzv181) : jS)) rfl ?_
  exact jl_ct (t := 39) (as := [.ref 64]) (V := jzv181) (r := (.inr 154, jzv186)) (q := (.inr 154, jzv186)) rfl (jzl60 xs hop ) rfl
set_option maxHeartbeats 4000000 in
set_option maxRecDepth 100000 in
theorem jzl62 (xs : Nat → Int32) (hop : xs 0 &&& 31 = 4)  : jRun ((4, xs) : jX) 2000 38 24 [.ref 64, .int (xs 1), .int (xs 2)] jzv181 = some (.inr 154, jzv186) := by
  refine jr_run (e := jm24) rfl (Nat.le_of_ble_eq_true rfl) ?_
  refine jl_s (S' := ((1, [(0, .ref 64), (1, .int (xs 1)), (2, .int (xs 2))], [.ref 64], jzv181) : jS)) rfl ?_
  refine jl_s (S' := ((2, [(0, .ref 64), (1, .int (xs 1)), (2, .int (xs 2))], [.int (xs 1), .ref 64], jzv181) : jS)) rfl ?_
  exact jl_ct (t := 40) (as := [.ref 64, .int (xs 1)]) (V := jzv181) (r := (.inr 154, jzv186)) (q := (.inr 154, jzv186)) rfl (jzl61 xs hop ) rfl
set_option maxHeartbeats 4000000 in
set_option maxRecDepth 100000 in
theorem jzl63 (xs : Nat → Int32) (hop : xs 0 &&& 31 = 4)  : jRun ((4, xs) : jX) 2000 39 3 [.ref 64, .int (xs 1), .int (xs 2), .ref 153] jzv181 = some (.inl (some (.int 1)), jzv186) := by
  refine jr_run (e := jm3) rfl (Nat.le_of_ble_eq_true rfl) ?_
  refine jl_s (S' := ((1, [(0, .ref 64), (1, .int (xs 1)), (2, .int (xs 2)), (3, .ref 153)], [.ref 153], jzv181) : jS)) rfl ?_
  refine jl_s (S' := ((2, [(0, .ref 64), (1, .int (xs 1)), (2, .int (xs 2)), (3, .ref 153)], [.int 0, .ref 153], jzv181) : jS)) rfl ?_
  refine jl_s (S' := ((3, [(0, .ref 64), (1, .int (xs 1)), (2, .int (xs 2)), (3, .ref 153)], [.ref 64, .int 0, .ref 153], jzv181) : jS)) rfl ?_
  refine jl_s (S' := ((4, [(0, .ref 64), (1, .int (xs 1)), (2, .int (xs 2)), (3, .ref 153)], [.int (xs 1), .ref 64, .int 0, .ref 153], jzv181) : jS)) rfl ?_
  refine jl_s (S' := ((5, [(0, .ref 64), (1, .int (xs 1)), (2, .int (xs 2)), (3, .ref 153)], [.int (xs 2), .int (xs 1), .ref 64, .int 0, .ref 153], jzv181) : jS)) rfl ?_
  refine jl_c (t := 24) (as := [.ref 64, .int (xs 1), .int (xs 2)]) (V := jzv181) (r := (.inr 154, jzv186)) (S' := ((13, [(0, .ref 64), (1, .int (xs 1)), (2, .int (xs 2)), (3, .ref 153)], [.ref 154], jzv186) : jS)) rfl (jzl62 xs hop ) rfl ?_
  refine jl_s (S' := ((15, [(4, .ref 154), (0, .ref 64), (1, .int (xs 1)), (2, .int (xs 2)), (3, .ref 153)], [], jzv186) : jS)) rfl ?_
  refine jl_s (S' := ((16, [(4, .ref 154), (0, .ref 64), (1, .int (xs 1)), (2, .int (xs 2)), (3, .ref 153)], [.int 1], jzv186) : jS)) rfl ?_
  exact jl_r (r := (.inl (some (.int 1)), jzv186)) rfl
def jzv187 : jH := [jzc5, jzc2, jzc120, jzc7, jzc9, jzc9, jzc9, jzc9, jzc9, jzc17, jzc19, jzc19, jzc19, jzc19, jzc19, jzc19, jzc19, jzc19, jzc28, jzc28, jzc28, jzc28, jzc28, jzc28, jzc28, jzc28, jzc28, jzc28, jzc28, jzc28, jzc28, jzc28, jzc43, jzc43, jzc43, jzc43, jzc43, jzc49, jzc49, jzc52, jzc52, jzc52, jzc56, jzc56, jzc59, jzc56, jzc62, jzc28, jzc28, jzc28, jzc28, jzc28, jzc69, jzc71, jzc73, jzc43, jzc76, jzc52, jzc52, jzc80, jzc80, jzc80, jzc84, jzc52, jzc52, jzc52, jzc52, jzc52, jzc52, jzc52, jzc93, jzc93, jzc52, jzc52, jzc98, jzc100, jzc93, jzc52, jzc52, jzc52, jzc52, jzc107, jzc109, jzc111, jzc100, jzc100, jzc100, jzc111, jzc111, jzc118, jzc123]
set_option maxHeartbeats 4000000 in
set_option maxRecDepth 100000 in
theorem jzl64 (xs : Nat → Int32) (hop : xs 0 &&& 31 = 4)  : jRun ((4, xs) : jX) 2000 38 245 [.ref 66, .int 1, .int 0, .int 0] jzv186 = some (.inl (some (.int 1)), jzv187) := by
  refine jr_run (e := jm245) rfl (Nat.le_of_ble_eq_true rfl) ?_
  refine jl_s (S' := ((1, [(0, .ref 66), (1, .int 1), (2, .int 0), (3, .int 0)], [.ref 66], jzv186) : jS)) rfl ?_
  refine jl_s (S' := ((2, [(0, .ref 66), (1, .int 1), (2, .int 0), (3, .int 0)], [.int 1, .ref 66], jzv186) : jS)) rfl ?_
  refine jl_s (S' := ((5, [(0, .ref 66), (1, .int 1), (2, .int 0), (3, .int 0)], [.ref 66], jzv186) : jS)) rfl ?_
  refine jl_s (S' := ((6, [(0, .ref 66), (1, .int 1), (2, .int 0), (3, .int 0)], [.int 1, .ref 66], jzv186) : jS)) rfl ?_
  refine jl_s (S' := ((26, [(0, .ref 66), (1, .int 1), (2, .int 0), (3, .int 0)], [.int 1, .ref 66], jzv186) : jS)) rfl ?_
  refine jl_s (S' := ((29, [(0, .ref 66), (1, .int 1), (2, .int 0), (3, .int 0)], [], jzv187) : jS)) rfl ?_
  refine jl_s (S' := ((30, [(0, .ref 66), (1, .int 1), (2, .int 0), (3, .int 0)], [.ref 66], jzv187) : jS)) rfl ?_
  refine jl_s (S' := ((33, [(0, .ref 66), (1, .int 1), (2, .int 0), (3, .int 0)], [.int 1], jzv187) : jS)) rfl ?_
  refine jl_s (S' := ((36, [(0, .ref 66), (1, .int 1), (2, .int 0), (3, .int 0)], [], jzv187) : jS)) rfl ?_
  refine jl_s (S' := ((37, [(0, .ref 66), (1, .int 1), (2, .int 0), (3, .int 0)], [.int 1], jzv187) : jS)) rfl ?_
  refine jl_s (S' := ((41, [(0, .ref 66), (1, .int 1), (2, .int 0), (3, .int 0)], [.int 1], jzv187) : jS)) rfl ?_
  exact jl_r (r := (.inl (some (.int 1)), jzv187)) rfl
set_option maxHeartbeats 4000000 in
set_option maxRecDepth 100000 in
theorem jzl65 (xs : Nat → Int32) (hop : xs 0 &&& 31 = 4)  : jRun ((4, xs) : jX) 2000 39 403 [.ref 66, .int (xs 1), .int (xs 2)] jzv186 = some (.inl (some (.int 0)), jzv187) := by
  refine jr_run (e := jm403) rfl (Nat.le_of_ble_eq_true rfl) ?_
  refine jl_s (S' := ((1, [(0, .ref 66), (1, .int (xs 1)), (2, .int (xs 2))], [.ref 66], jzv186) : jS)) rfl ?_
  refine jl_s (S' := ((2, [(0, .ref 66), (1, .int (xs 1)), (2, .int (xs 2))], [.ref 66, .ref 66], jzv186) : jS)) rfl ?_
  refine jl_s (S' := ((5, [(0, .ref 66), (1, .int (xs 1)), (2, .int (xs 2))], [.int 0, .ref 66], jzv186) : jS)) rfl ?_
  refine jl_s (S' := ((8, [(0, .ref 66), (1, .int (xs 1)), (2, .int (xs 2))], [.ref 66], jzv186) : jS)) rfl ?_
  refine jl_s (S' := ((9, [(0, .ref 66), (1, .int (xs 1)), (2, .int (xs 2))], [.int 1, .ref 66], jzv186) : jS)) rfl ?_
  refine jl_s (S' := ((13, [(0, .ref 66), (1, .int (xs 1)), (2, .int (xs 2))], [.int 1, .ref 66], jzv186) : jS)) rfl ?_
  refine jl_s (S' := ((14, [(0, .ref 66), (1, .int (xs 1)), (2, .int (xs 2))], [.ref 66, .int 1, .ref 66], jzv186) : jS)) rfl ?_
  refine jl_s (S' := ((17, [(0, .ref 66), (1, .int (xs 1)), (2, .int (xs 2))], [.int 0, .int 1, .ref 66], jzv186) : jS)) rfl ?_
  refine jl_s (S' := ((32, [(0, .ref 66), (1, .int (xs 1)), (2, .int (xs 2))], [.int 1, .ref 66], jzv186) : jS)) rfl ?_
  refine jl_s (S' := ((33, [(0, .ref 66), (1, .int (xs 1)), (2, .int (xs 2))], [.int 0, .int 1, .ref 66], jzv186) : jS)) rfl ?_
  refine jl_s (S' := ((34, [(0, .ref 66), (1, .int (xs 1)), (2, .int (xs 2))], [.ref 66, .int 0, .int 1, .ref 66], jzv186) : jS)) rfl ?_
  refine jl_s (S' := ((37, [(0, .ref 66), (1, .int (xs 1)), (2, .int (xs 2))], [.int 0, .int 0, .int 1, .ref 66], jzv186) : jS)) rfl ?_
  refine jl_s (S' := ((61, [(0, .ref 66), (1, .int (xs 1)), (2, .int (xs 2))], [.int 0, .int 1, .ref 66], jzv186) : jS)) rfl ?_
  refine jl_s (S' := ((62, [(0, .ref 66), (1, .int (xs 1)), (2, .int (xs 2))], [.int 0, .int 0, .int 1, .ref 66], jzv186) : jS)) rfl ?_
  refine jl_c (t := 245) (as := [.ref 66, .int 1, .int 0, .int 0]) (V := jzv186) (r := (.inl (some (.int 1)), jzv187)) (S' := ((65, [(0, .ref 66), (1, .int (xs 1)), (2, .int (xs 2))], [.int 1], jzv187) : jS)) rfl (jzl64 xs hop ) rfl ?_
  refine jl_s (S' := ((68, [(0, .ref 66), (1, .int (xs 1)), (2, .int (xs 2))], [], jzv187) : jS)) rfl ?_
  refine jl_s (S' := ((69, [(0, .ref 66), (1, .int (xs 1)), (2, .int (xs 2))], [.int 0], jzv187) : jS)) rfl ?_
  exact jl_r (r := (.inl (some (.int 0)), jzv187)) rfl
set_option maxHeartbeats 4000000 in
set_option maxRecDepth 100000 in
theorem jzl66 (xs : Nat → Int32) (hop : xs 0 &&& 31 = 4)  : jRun ((4, xs) : jX) 2000 39 244 [.ref 66] jzv187 = some (.inl (some (.int 1)), jzv187) := by
  refine jr_run (e := jm244) rfl (Nat.le_of_ble_eq_true rfl) ?_
  refine jl_s (S' := ((1, [(0, .ref 66)], [.ref 66], jzv187) : jS)) rfl ?_
  refine jl_s (S' := ((4, [(0, .ref 66)], [.int 1], jzv187) : jS)) rfl ?_
  exact jl_r (r := (.inl (some (.int 1)), jzv187)) rfl
set_option maxHeartbeats 4000000 in
set_option maxRecDepth 100000 in
theorem jzl67 (xs : Nat → Int32) (hop : xs 0 &&& 31 = 4)  : jLoop (jRun ((4, xs) : jX) 2000 39) ((4, xs) : jX) jm18 1000 ((23, [(4, .int 0), (3, .ref 153), (2, .ref 66), (1, .ref 64), (0, .ref 63)], [], jzv181) : jS) = some (.inl (some (.int 1)), jzv187) := by
  refine jl_s (S' := ((25, [(4, .int 0), (3, .ref 153), (2, .ref 66), (1, .ref 64), (0, .ref 63)], [.int 0], jzv181) : jS)) rfl ?_
  refine jl_s (S' := ((26, [(4, .int 0), (3, .ref 153), (2, .ref 66), (1, .ref 64), (0, .ref 63)], [.ref 63, .int 0], jzv181) : jS)) rfl ?_
  refine jl_s (S' := ((27, [(4, .int 0), (3, .ref 153), (2, .ref 66), (1, .ref 64), (0, .ref 63)], [.int 4, .int 0], jzv181) : jS)) rfl ?_
  refine jl_s (S' := ((28, [(4, .int 0), (3, .ref 153), (2, .ref 66), (1, .ref 64), (0, .ref 63)], [.int 4, .int 4, .int 0], jzv181) : jS)) rfl ?_
  refine jl_s (S' := ((29, [(4, .int 0), (3, .ref 153), (2, .ref 66), (1, .ref 64), (0, .ref 63)], [.int 0, .int 0], jzv181) : jS)) rfl ?_
  refine jl_s (S' := ((32, [(4, .int 0), (3, .ref 153), (2, .ref 66), (1, .ref 64), (0, .ref 63)], [], jzv181) : jS)) rfl ?_
  refine jl_s (S' := ((33, [(4, .int 0), (3, .ref 153), (2, .ref 66), (1, .ref 64), (0, .ref 63)], [.ref 63], jzv181) : jS)) rfl ?_
  refine jl_s (S' := ((35, [(4, .int 0), (3, .ref 153), (2, .ref 66), (1, .ref 64), (0, .ref 63)], [.int 0, .ref 63], jzv181) : jS)) rfl ?_
  refine jl_s (S' := ((36, [(4, .int 0), (3, .ref 153), (2, .ref 66), (1, .ref 64), (0, .ref 63)], [.int (xs 0)], jzv181) : jS)) rfl ?_
  refine jl_s (S' := ((38, [(4, .int 0), (3, .ref 153), (2, .ref 66), (1, .ref 64), (0, .ref 63)], [.int 31, .int (xs 0)], jzv181) : jS)) rfl ?_
  refine jl_s (S' := ((39, [(4, .int 0), (3, .ref 153), (2, .ref 66), (1, .ref 64), (0, .ref 63)], [.int ((xs 0) &&& 31)], jzv181) : jS)) rfl ?_
  rw [hop]
  refine jl_s (S' := ((289, [(4, .int 0), (3, .ref 153), (2, .ref 66), (1, .ref 64), (0, .ref 63)], [], jzv181) : jS)) rfl ?_
  refine jl_s (S' := ((290, [(4, .int 0), (3, .ref 153), (2, .ref 66), (1, .ref 64), (0, .ref 63)], [.ref 64], jzv181) : jS)) rfl ?_
  refine jl_s (S' := ((291, [(4, .int 0), (3, .ref 153), (2, .ref 66), (1, .ref 64), (0, .ref 63)], [.ref 63, .ref 64], jzv181) : jS)) rfl ?_
  refine jl_s (S' := ((293, [(4, .int 0), (3, .ref 153), (2, .ref 66), (1, .ref 64), (0, .ref 63)], [.int 0, .ref 63, .ref 64], jzv181) : jS)) rfl ?_
  refine jl_s (S' := ((294, [(4, .int 0), (3, .ref 153), (2, .ref 66), (1, .ref 64), (0, .ref 63)], [.int 1, .int 0, .ref 63, .ref 64], jzv181) : jS)) rfl ?_
  refine jl_s (S' := ((295, [(4, .int 0), (3, .ref 153), (2, .ref 66), (1, .ref 64), (0, .ref 63)], [.int 1, .ref 63, .ref 64], jzv181) : jS)) rfl ?_
  refine jl_s (S' := ((296, [(4, .int 0), (3, .ref 153), (2, .ref 66), (1, .ref 64), (0, .ref 63)], [.int (xs 1), .ref 64], jzv181) : jS)) rfl ?_
  refine jl_s (S' := ((297, [(4, .int 0), (3, .ref 153), (2, .ref 66), (1, .ref 64), (0, .ref 63)], [.ref 63, .int (xs 1), .ref 64], jzv181) : jS)) rfl ?_
  refine jl_s (S' := ((299, [(4, .int 0), (3, .ref 153), (2, .ref 66), (1, .ref 64), (0, .ref 63)], [.int 0, .ref 63, .int (xs 1), .ref 64], jzv181) : jS)) rfl ?_
  refine jl_s (S' := ((300, [(4, .int 0), (3, .ref 153), (2, .ref 66), (1, .ref 64), (0, .ref 63)], [.int 2, .int 0, .ref 63, .int (xs 1), .ref 64], jzv181) : jS)) rfl ?_
  refine jl_s (S' := ((301, [(4, .int 0), (3, .ref 153), (2, .ref 66), (1, .ref 64), (0, .ref 63)], [.int 2, .ref 63, .int (xs 1), .ref 64], jzv181) : jS)) rfl ?_
  refine jl_s (S' := ((302, [(4, .int 0), (3, .ref 153), (2, .ref 66), (1, .ref 64), (0, .ref 63)], [.int (xs 2), .int (xs 1), .ref 64], jzv181) : jS)) rfl ?_
  refine jl_s (S' := ((303, [(4, .int 0), (3, .ref 153), (2, .ref 66), (1, .ref 64), (0, .ref 63)], [.ref 153, .int (xs 2), .int (xs 1), .ref 64], jzv181) : jS)) rfl ?_
  refine jl_c (t := 3) (as := [.ref 64, .int (xs 1), .int (xs 2), .ref 153]) (V := jzv181) (r := (.inl (some (.int 1)), jzv186)) (S' := ((306, [(4, .int 0), (3, .ref 153), (2, .ref 66), (1, .ref 64), (0, .ref 63)], [.int 1], jzv186) : jS)) rfl (jzl63 xs hop ) rfl ?_
  refine jl_s (S' := ((308, [(5, .int 1), (4, .int 0), (3, .ref 153), (2, .ref 66), (1, .ref 64), (0, .ref 63)], [], jzv186) : jS)) rfl ?_
  refine jl_s (S' := ((309, [(5, .int 1), (4, .int 0), (3, .ref 153), (2, .ref 66), (1, .ref 64), (0, .ref 63)], [.ref 66], jzv186) : jS)) rfl ?_
  refine jl_s (S' := ((310, [(5, .int 1), (4, .int 0), (3, .ref 153), (2, .ref 66), (1, .ref 64), (0, .ref 63)], [.ref 63, .ref 66], jzv186) : jS)) rfl ?_
  refine jl_s (S' := ((312, [(5, .int 1), (4, .int 0), (3, .ref 153), (2, .ref 66), (1, .ref 64), (0, .ref 63)], [.int 0, .ref 63, .ref 66], jzv186) : jS)) rfl ?_
  refine jl_s (S' := ((313, [(5, .int 1), (4, .int 0), (3, .ref 153), (2, .ref 66), (1, .ref 64), (0, .ref 63)], [.int 1, .int 0, .ref 63, .ref 66], jzv186) : jS)) rfl ?_
  refine jl_s (S' := ((314, [(5, .int 1), (4, .int 0), (3, .ref 153), (2, .ref 66), (1, .ref 64), (0, .ref 63)], [.int 1, .ref 63, .ref 66], jzv186) : jS)) rfl ?_
  refine jl_s (S' := ((315, [(5, .int 1), (4, .int 0), (3, .ref 153), (2, .ref 66), (1, .ref 64), (0, .ref 63)], [.int (xs 1), .ref 66], jzv186) : jS)) rfl ?_
  refine jl_s (S' := ((316, [(5, .int 1), (4, .int 0), (3, .ref 153), (2, .ref 66), (1, .ref 64), (0, .ref 63)], [.ref 63, .int (xs 1), .ref 66], jzv186) : jS)) rfl ?_
  refine jl_s (S' := ((318, [(5, .int 1), (4, .int 0), (3, .ref 153), (2, .ref 66), (1, .ref 64), (0, .ref 63)], [.int 0, .ref 63, .int (xs 1), .ref 66], jzv186) : jS)) rfl ?_
  refine jl_s (S' := ((319, [(5, .int 1), (4, .int 0), (3, .ref 153), (2, .ref 66), (1, .ref 64), (0, .ref 63)], [.int 2, .int 0, .ref 63, .int (xs 1), .ref 66], jzv186) : jS)) rfl ?_
  refine jl_s (S' := ((320, [(5, .int 1), (4, .int 0), (3, .ref 153), (2, .ref 66), (1, .ref 64), (0, .ref 63)], [.int 2, .ref 63, .int (xs 1), .ref 66], jzv186) : jS)) rfl ?_
  refine jl_s (S' := ((321, [(5, .int 1), (4, .int 0), (3, .ref 153), (2, .ref 66), (1, .ref 64), (0, .ref 63)], [.int (xs 2), .int (xs 1), .ref 66], jzv186) : jS)) rfl ?_
  refine jl_c (t := 403) (as := [.ref 66, .int (xs 1), .int (xs 2)]) (V := jzv186) (r := (.inl (some (.int 0)), jzv187)) (S' := ((324, [(5, .int 1), (4, .int 0), (3, .ref 153), (2, .ref 66), (1, .ref 64), (0, .ref 63)], [.int 0], jzv187) : jS)) rfl (jzl65 xs hop ) rfl ?_
  refine jl_s (S' := ((326, [(6, .int 0), (5, .int 1), (4, .int 0), (3, .ref 153), (2, .ref 66), (1, .ref 64), (0, .ref 63)], [], jzv187) : jS)) rfl ?_
  refine jl_s (S' := ((327, [(6, .int 0), (5, .int 1), (4, .int 0), (3, .ref 153), (2, .ref 66), (1, .ref 64), (0, .ref 63)], [.ref 66], jzv187) : jS)) rfl ?_
  refine jl_c (t := 244) (as := [.ref 66]) (V := jzv187) (r := (.inl (some (.int 1)), jzv187)) (S' := ((330, [(6, .int 0), (5, .int 1), (4, .int 0), (3, .ref 153), (2, .ref 66), (1, .ref 64), (0, .ref 63)], [.int 1], jzv187) : jS)) rfl (jzl66 xs hop ) rfl ?_
  refine jl_s (S' := ((332, [(6, .int 0), (5, .int 1), (4, .int 0), (3, .ref 153), (2, .ref 66), (1, .ref 64), (0, .ref 63)], [.int 1, .int 1], jzv187) : jS)) rfl ?_
  refine jl_s (S' := ((337, [(6, .int 0), (5, .int 1), (4, .int 0), (3, .ref 153), (2, .ref 66), (1, .ref 64), (0, .ref 63)], [], jzv187) : jS)) rfl ?_
  refine jl_s (S' := ((339, [(6, .int 0), (5, .int 1), (4, .int 0), (3, .ref 153), (2, .ref 66), (1, .ref 64), (0, .ref 63)], [.int 1], jzv187) : jS)) rfl ?_
  refine jl_s (S' := ((354, [(6, .int 0), (5, .int 1), (4, .int 0), (3, .ref 153), (2, .ref 66), (1, .ref 64), (0, .ref 63)], [], jzv187) : jS)) rfl ?_
  refine jl_s (S' := ((1193, [(6, .int 0), (5, .int 1), (4, .int 0), (3, .ref 153), (2, .ref 66), (1, .ref 64), (0, .ref 63)], [], jzv187) : jS)) rfl ?_
  refine jl_s (S' := ((1196, [(4, .int 4), (6, .int 0), (5, .int 1), (3, .ref 153), (2, .ref 66), (1, .ref 64), (0, .ref 63)], [], jzv187) : jS)) rfl ?_
  refine jl_s (S' := ((23, [(4, .int 4), (6, .int 0), (5, .int 1), (3, .ref 153), (2, .ref 66), (1, .ref 64), (0, .ref 63)], [], jzv187) : jS)) rfl ?_
  refine jl_s (S' := ((25, [(4, .int 4), (6, .int 0), (5, .int 1), (3, .ref 153), (2, .ref 66), (1, .ref 64), (0, .ref 63)], [.int 4], jzv187) : jS)) rfl ?_
  refine jl_s (S' := ((26, [(4, .int 4), (6, .int 0), (5, .int 1), (3, .ref 153), (2, .ref 66), (1, .ref 64), (0, .ref 63)], [.ref 63, .int 4], jzv187) : jS)) rfl ?_
  refine jl_s (S' := ((27, [(4, .int 4), (6, .int 0), (5, .int 1), (3, .ref 153), (2, .ref 66), (1, .ref 64), (0, .ref 63)], [.int 4, .int 4], jzv187) : jS)) rfl ?_
  refine jl_s (S' := ((28, [(4, .int 4), (6, .int 0), (5, .int 1), (3, .ref 153), (2, .ref 66), (1, .ref 64), (0, .ref 63)], [.int 4, .int 4, .int 4], jzv187) : jS)) rfl ?_
  refine jl_s (S' := ((29, [(4, .int 4), (6, .int 0), (5, .int 1), (3, .ref 153), (2, .ref 66), (1, .ref 64), (0, .ref 63)], [.int 0, .int 4], jzv187) : jS)) rfl ?_
  refine jl_s (S' := ((1199, [(4, .int 4), (6, .int 0), (5, .int 1), (3, .ref 153), (2, .ref 66), (1, .ref 64), (0, .ref 63)], [], jzv187) : jS)) rfl ?_
  refine jl_s (S' := ((1200, [(4, .int 4), (6, .int 0), (5, .int 1), (3, .ref 153), (2, .ref 66), (1, .ref 64), (0, .ref 63)], [.int 1], jzv187) : jS)) rfl ?_
  exact jl_r (r := (.inl (some (.int 1)), jzv187)) rfl
-- op 4 : jzl67
set_option maxHeartbeats 4000000 in
set_option maxRecDepth 100000 in
theorem jzl68 (xs : Nat → Int32) (hop : xs 0 &&& 31 = 5)  : jRun ((4, xs) : jX) 2000 36 39 [.ref 64] jzv181 = some (.inr 154, jzv186) := by
  refine jr_run (e := jm39) rfl (Nat.le_of_ble_eq_true rfl) ?_
  refine jl_s (S' := ((1, [(0, .ref 64)], [.ref 64], jzv181) : jS)) rfl ?_
  refine jl_s (S' := ((4, [(0, .ref 64)], [.null], jzv181) : jS)) rfl ?_
  refine jl_s (S' := ((5, [(1, .null), (0, .ref 64)], [], jzv181) : jS)) rfl ?_
  refine jl_s (S' := ((6, [(1, .null), (0, .ref 64)], [.null], jzv181) : jS)) rfl ?_
  refine jl_s (S' := ((9, [(1, .null), (0, .ref 64)], [], jzv181) : jS)) rfl ?_
  exact jl_r (r := (.inr 154, jzv186)) rfl
set_option maxHeartbeats 4000000 in
set_option maxRecDepth 100000 in
theorem jzl69 (xs : Nat → Int32) (hop : xs 0 &&& 31 = 5)  : jRun ((4, xs) : jX) 2000 37 40 [.ref 64, .int (xs 1)] jzv181 = some (.inr 154, jzv186) := by
  refine jr_run (e := jm40) rfl (Nat.le_of_ble_eq_true rfl) ?_
  refine jl_s (S' := ((1, [(0, .ref 64), (1, .int (xs 1))], [.ref 64], jzv181) : jS)) rfl ?_
  exact jl_ct (t := 39) (as := [.ref 64]) (V := jzv181) (r := (.inr 154, jzv186)) (q := (.inr 154, jzv186)) rfl (jzl68 xs hop ) rfl
set_option maxHeartbeats 4000000 in
set_option maxRecDepth 100000 in
theorem jzl70 (xs : Nat → Int32) (hop : xs 0 &&& 31 = 5)  : jRun ((4, xs) : jX) 2000 38 25 [.ref 64, .int (xs 1), .int (xs 2)] jzv181 = some (.inr 154, jzv186) := by
  refine jr_run (e := jm25) rfl (Nat.le_of_ble_eq_true rfl) ?_
  refine jl_s (S' := ((1, [(0, .ref 64), (1, .int (xs 1)), (2, .int (xs 2))], [.ref 64], jzv181) : jS)) rfl ?_
  refine jl_s (S' := ((2, [(0, .ref 64), (1, .int (xs 1)), (2, .int (xs 2))], [.int (xs 1), .ref 64], jzv181) : jS)) rfl ?_
  exact jl_ct (t := 40) (as := [.ref 64, .int (xs 1)]) (V := jzv181) (r := (.inr 154, jzv186)) (q := (.inr 154, jzv186)) rfl (jzl69 xs hop ) rfl
set_option maxHeartbeats 4000000 in
set_option maxRecDepth 100000 in
theorem jzl71 (xs : Nat → Int32) (hop : xs 0 &&& 31 = 5)  : jRun ((4, xs) : jX) 2000 39 4 [.ref 64, .int (xs 1), .int (xs 2), .ref 153] jzv181 = some (.inl (some (.int 1)), jzv186) := by
  refine jr_run (e := jm4) rfl (Nat.le_of_ble_eq_true rfl) ?_
  refine jl_s (S' := ((1, [(0, .ref 64), (1, .int (xs 1)), (2, .int (xs 2)), (3, .ref 153)], [.ref 153], jzv181) : jS)) rfl ?_
  refine jl_s (S' := ((2, [(0, .ref 64), (1, .int (xs 1)), (2, .int (xs 2)), (3, .ref 153)], [.int 0, .ref 153], jzv181) : jS)) rfl ?_
  refine jl_s (S' := ((3, [(0, .ref 64), (1, .int (xs 1)), (2, .int (xs 2)), (3, .ref 153)], [.ref 64, .int 0, .ref 153], jzv181) : jS)) rfl ?_
  refine jl_s (S' := ((4, [(0, .ref 64), (1, .int (xs 1)), (2, .int (xs 2)), (3, .ref 153)], [.int (xs 1), .ref 64, .int 0, .ref 153], jzv181) : jS)) rfl ?_
  refine jl_s (S' := ((5, [(0, .ref 64), (1, .int (xs 1)), (2, .int (xs 2)), (3, .ref 153)], [.int (xs 2), .int (xs 1), .ref 64, .int 0, .ref 153], jzv181) : jS)) rfl ?_
  refine jl_c (t := 25) (as := [.ref 64, .int (xs 1), .int (xs 2)]) (V := jzv181) (r := (.inr 154, jzv186)) (S' := ((13, [(0, .ref 64), (1, .int (xs 1)), (2, .int (xs 2)), (3, .ref 153)], [.ref 154], jzv186) : jS)) rfl (jzl70 xs hop ) rfl ?_
  refine jl_s (S' := ((15, [(4, .ref 154), (0, .ref 64), (1, .int (xs 1)), (2, .int (xs 2)), (3, .ref 153)], [], jzv186) : jS)) rfl ?_
  refine jl_s (S' := ((16, [(4, .ref 154), (0, .ref 64), (1, .int (xs 1)), (2, .int (xs 2)), (3, .ref 153)], [.int 1], jzv186) : jS)) rfl ?_
  exact jl_r (r := (.inl (some (.int 1)), jzv186)) rfl
set_option maxHeartbeats 4000000 in
set_option maxRecDepth 100000 in
theorem jzl72 (xs : Nat → Int32) (hop : xs 0 &&& 31 = 5)  : jRun ((4, xs) : jX) 2000 38 245 [.ref 66, .int 1, .int 0, .int 0] jzv186 = some (.inl (some (.int 1)), jzv187) := by
  refine jr_run (e := jm245) rfl (Nat.le_of_ble_eq_true rfl) ?_
  refine jl_s (S' := ((1, [(0, .ref 66), (1, .int 1), (2, .int 0), (3, .int 0)], [.ref 66], jzv186) : jS)) rfl ?_
  refine jl_s (S' := ((2, [(0, .ref 66), (1, .int 1), (2, .int 0), (3, .int 0)], [.int 1, .ref 66], jzv186) : jS)) rfl ?_
  refine jl_s (S' := ((5, [(0, .ref 66), (1, .int 1), (2, .int 0), (3, .int 0)], [.ref 66], jzv186) : jS)) rfl ?_
  refine jl_s (S' := ((6, [(0, .ref 66), (1, .int 1), (2, .int 0), (3, .int 0)], [.int 1, .ref 66], jzv186) : jS)) rfl ?_
  refine jl_s (S' := ((26, [(0, .ref 66), (1, .int 1), (2, .int 0), (3, .int 0)], [.int 1, .ref 66], jzv186) : jS)) rfl ?_
  refine jl_s (S' := ((29, [(0, .ref 66), (1, .int 1), (2, .int 0), (3, .int 0)], [], jzv187) : jS)) rfl ?_
  refine jl_s (S' := ((30, [(0, .ref 66), (1, .int 1), (2, .int 0), (3, .int 0)], [.ref 66], jzv187) : jS)) rfl ?_
  refine jl_s (S' := ((33, [(0, .ref 66), (1, .int 1), (2, .int 0), (3, .int 0)], [.int 1], jzv187) : jS)) rfl ?_
  refine jl_s (S' := ((36, [(0, .ref 66), (1, .int 1), (2, .int 0), (3, .int 0)], [], jzv187) : jS)) rfl ?_
  refine jl_s (S' := ((37, [(0, .ref 66), (1, .int 1), (2, .int 0), (3, .int 0)], [.int 1], jzv187) : jS)) rfl ?_
  refine jl_s (S' := ((41, [(0, .ref 66), (1, .int 1), (2, .int 0), (3, .int 0)], [.int 1], jzv187) : jS)) rfl ?_
  exact jl_r (r := (.inl (some (.int 1)), jzv187)) rfl
set_option maxHeartbeats 4000000 in
set_option maxRecDepth 100000 in
theorem jzl73 (xs : Nat → Int32) (hop : xs 0 &&& 31 = 5)  : jRun ((4, xs) : jX) 2000 39 405 [.ref 66, .int (xs 1), .int (xs 2)] jzv186 = some (.inl (some (.int 0)), jzv187) := by
  refine jr_run (e := jm405) rfl (Nat.le_of_ble_eq_true rfl) ?_
  refine jl_s (S' := ((1, [(0, .ref 66), (1, .int (xs 1)), (2, .int (xs 2))], [.ref 66], jzv186) : jS)) rfl ?_
  refine jl_s (S' := ((2, [(0, .ref 66), (1, .int (xs 1)), (2, .int (xs 2))], [.ref 66, .ref 66], jzv186) : jS)) rfl ?_
  refine jl_s (S' := ((5, [(0, .ref 66), (1, .int (xs 1)), (2, .int (xs 2))], [.int 0, .ref 66], jzv186) : jS)) rfl ?_
  refine jl_s (S' := ((8, [(0, .ref 66), (1, .int (xs 1)), (2, .int (xs 2))], [.ref 66], jzv186) : jS)) rfl ?_
  refine jl_s (S' := ((9, [(0, .ref 66), (1, .int (xs 1)), (2, .int (xs 2))], [.int 1, .ref 66], jzv186) : jS)) rfl ?_
  refine jl_s (S' := ((13, [(0, .ref 66), (1, .int (xs 1)), (2, .int (xs 2))], [.int 1, .ref 66], jzv186) : jS)) rfl ?_
  refine jl_s (S' := ((14, [(0, .ref 66), (1, .int (xs 1)), (2, .int (xs 2))], [.ref 66, .int 1, .ref 66], jzv186) : jS)) rfl ?_
  refine jl_s (S' := ((17, [(0, .ref 66), (1, .int (xs 1)), (2, .int (xs 2))], [.int 0, .int 1, .ref 66], jzv186) : jS)) rfl ?_
  refine jl_s (S' := ((32, [(0, .ref 66), (1, .int (xs 1)), (2, .int (xs 2))], [.int 1, .ref 66], jzv186) : jS)) rfl ?_
  refine jl_s (S' := ((33, [(0, .ref 66), (1, .int (xs 1)), (2, .int (xs 2))], [.int 0, .int 1, .ref 66], jzv186) : jS)) rfl ?_
  refine jl_s (S' := ((34, [(0, .ref 66), (1, .int (xs 1)), (2, .int (xs 2))], [.ref 66, .int 0, .int 1, .ref 66], jzv186) : jS)) rfl ?_
  refine jl_s (S' := ((37, [(0, .ref 66), (1, .int (xs 1)), (2, .int (xs 2))], [.int 0, .int 0, .int 1, .ref 66], jzv186) : jS)) rfl ?_
  refine jl_s (S' := ((61, [(0, .ref 66), (1, .int (xs 1)), (2, .int (xs 2))], [.int 0, .int 1, .ref 66], jzv186) : jS)) rfl ?_
  refine jl_s (S' := ((62, [(0, .ref 66), (1, .int (xs 1)), (2, .int (xs 2))], [.int 0, .int 0, .int 1, .ref 66], jzv186) : jS)) rfl ?_
  refine jl_c (t := 245) (as := [.ref 66, .int 1, .int 0, .int 0]) (V := jzv186) (r := (.inl (some (.int 1)), jzv187)) (S' := ((65, [(0, .ref 66), (1, .int (xs 1)), (2, .int (xs 2))], [.int 1], jzv187) : jS)) rfl (jzl72 xs hop ) rfl ?_
  refine jl_s (S' := ((68, [(0, .ref 66), (1, .int (xs 1)), (2, .int (xs 2))], [], jzv187) : jS)) rfl ?_
  refine jl_s (S' := ((69, [(0, .ref 66), (1, .int (xs 1)), (2, .int (xs 2))], [.int 0], jzv187) : jS)) rfl ?_
  exact jl_r (r := (.inl (some (.int 0)), jzv187)) rfl
set_option maxHeartbeats 4000000 in
set_option maxRecDepth 100000 in
theorem jzl74 (xs : Nat → Int32) (hop : xs 0 &&& 31 = 5)  : jRun ((4, xs) : jX) 2000 39 244 [.ref 66] jzv187 = some (.inl (some (.int 1)), jzv187) := by
  refine jr_run (e := jm244) rfl (Nat.le_of_ble_eq_true rfl) ?_
  refine jl_s (S' := ((1, [(0, .ref 66)], [.ref 66], jzv187) : jS)) rfl ?_
  refine jl_s (S' := ((4, [(0, .ref 66)], [.int 1], jzv187) : jS)) rfl ?_
  exact jl_r (r := (.inl (some (.int 1)), jzv187)) rfl
set_option maxHeartbeats 4000000 in
set_option maxRecDepth 100000 in
theorem jzl75 (xs : Nat → Int32) (hop : xs 0 &&& 31 = 5)  : jLoop (jRun ((4, xs) : jX) 2000 39) ((4, xs) : jX) jm18 1000 ((23, [(4, .int 0), (3, .ref 153), (2, .ref 66), (1, .ref 64), (0, .ref 63)], [], jzv181) : jS) = some (.inl (some (.int 1)), jzv187) := by
  refine jl_s (S' := ((25, [(4, .int 0), (3, .ref 153), (2, .ref 66), (1, .ref 64), (0, .ref 63)], [.int 0], jzv181) : jS)) rfl ?_
  refine jl_s (S' := ((26, [(4, .int 0), (3, .ref 153), (2, .ref 66), (1, .ref 64), (0, .ref 63)], [.ref 63, .int 0], jzv181) : jS)) rfl ?_
  refine jl_s (S' := ((27, [(4, .int 0), (3, .ref 153), (2, .ref 66), (1, .ref 64), (0, .ref 63)], [.int 4, .int 0], jzv181) : jS)) rfl ?_
  refine jl_s (S' := ((28, [(4, .int 0), (3, .ref 153), (2, .ref 66), (1, .ref 64), (0, .ref 63)], [.int 4, .int 4, .int 0], jzv181) : jS)) rfl ?_
  refine jl_s (S' := ((29, [(4, .int 0), (3, .ref 153), (2, .ref 66), (1, .ref 64), (0, .ref 63)], [.int 0, .int 0], jzv181) : jS)) rfl ?_
  refine jl_s (S' := ((32, [(4, .int 0), (3, .ref 153), (2, .ref 66), (1, .ref 64), (0, .ref 63)], [], jzv181) : jS)) rfl ?_
  refine jl_s (S' := ((33, [(4, .int 0), (3, .ref 153), (2, .ref 66), (1, .ref 64), (0, .ref 63)], [.ref 63], jzv181) : jS)) rfl ?_
  refine jl_s (S' := ((35, [(4, .int 0), (3, .ref 153), (2, .ref 66), (1, .ref 64), (0, .ref 63)], [.int 0, .ref 63], jzv181) : jS)) rfl ?_
  refine jl_s (S' := ((36, [(4, .int 0), (3, .ref 153), (2, .ref 66), (1, .ref 64), (0, .ref 63)], [.int (xs 0)], jzv181) : jS)) rfl ?_
  refine jl_s (S' := ((38, [(4, .int 0), (3, .ref 153), (2, .ref 66), (1, .ref 64), (0, .ref 63)], [.int 31, .int (xs 0)], jzv181) : jS)) rfl ?_
  refine jl_s (S' := ((39, [(4, .int 0), (3, .ref 153), (2, .ref 66), (1, .ref 64), (0, .ref 63)], [.int ((xs 0) &&& 31)], jzv181) : jS)) rfl ?_
  rw [hop]
  refine jl_s (S' := ((357, [(4, .int 0), (3, .ref 153), (2, .ref 66), (1, .ref 64), (0, .ref 63)], [], jzv181) : jS)) rfl ?_
  refine jl_s (S' := ((358, [(4, .int 0), (3, .ref 153), (2, .ref 66), (1, .ref 64), (0, .ref 63)], [.ref 64], jzv181) : jS)) rfl ?_
  refine jl_s (S' := ((359, [(4, .int 0), (3, .ref 153), (2, .ref 66), (1, .ref 64), (0, .ref 63)], [.ref 63, .ref 64], jzv181) : jS)) rfl ?_
  refine jl_s (S' := ((361, [(4, .int 0), (3, .ref 153), (2, .ref 66), (1, .ref 64), (0, .ref 63)], [.int 0, .ref 63, .ref 64], jzv181) : jS)) rfl ?_
  refine jl_s (S' := ((362, [(4, .int 0), (3, .ref 153), (2, .ref 66), (1, .ref 64), (0, .ref 63)], [.int 1, .int 0, .ref 63, .ref 64], jzv181) : jS)) rfl ?_
  refine jl_s (S' := ((363, [(4, .int 0), (3, .ref 153), (2, .ref 66), (1, .ref 64), (0, .ref 63)], [.int 1, .ref 63, .ref 64], jzv181) : jS)) rfl ?_
  refine jl_s (S' := ((364, [(4, .int 0), (3, .ref 153), (2, .ref 66), (1, .ref 64), (0, .ref 63)], [.int (xs 1), .ref 64], jzv181) : jS)) rfl ?_
  refine jl_s (S' := ((365, [(4, .int 0), (3, .ref 153), (2, .ref 66), (1, .ref 64), (0, .ref 63)], [.ref 63, .int (xs 1), .ref 64], jzv181) : jS)) rfl ?_
  refine jl_s (S' := ((367, [(4, .int 0), (3, .ref 153), (2, .ref 66), (1, .ref 64), (0, .ref 63)], [.int 0, .ref 63, .int (xs 1), .ref 64], jzv181) : jS)) rfl ?_
  refine jl_s (S' := ((368, [(4, .int 0), (3, .ref 153), (2, .ref 66), (1, .ref 64), (0, .ref 63)], [.int 2, .int 0, .ref 63, .int (xs 1), .ref 64], jzv181) : jS)) rfl ?_
  refine jl_s (S' := ((369, [(4, .int 0), (3, .ref 153), (2, .ref 66), (1, .ref 64), (0, .ref 63)], [.int 2, .ref 63, .int (xs 1), .ref 64], jzv181) : jS)) rfl ?_
  refine jl_s (S' := ((370, [(4, .int 0), (3, .ref 153), (2, .ref 66), (1, .ref 64), (0, .ref 63)], [.int (xs 2), .int (xs 1), .ref 64], jzv181) : jS)) rfl ?_
  refine jl_s (S' := ((371, [(4, .int 0), (3, .ref 153), (2, .ref 66), (1, .ref 64), (0, .ref 63)], [.ref 153, .int (xs 2), .int (xs 1), .ref 64], jzv181) : jS)) rfl ?_
  refine jl_c (t := 4) (as := [.ref 64, .int (xs 1), .int (xs 2), .ref 153]) (V := jzv181) (r := (.inl (some (.int 1)), jzv186)) (S' := ((374, [(4, .int 0), (3, .ref 153), (2, .ref 66), (1, .ref 64), (0, .ref 63)], [.int 1], jzv186) : jS)) rfl (jzl71 xs hop ) rfl ?_
  refine jl_s (S' := ((376, [(5, .int 1), (4, .int 0), (3, .ref 153), (2, .ref 66), (1, .ref 64), (0, .ref 63)], [], jzv186) : jS)) rfl ?_
  refine jl_s (S' := ((377, [(5, .int 1), (4, .int 0), (3, .ref 153), (2, .ref 66), (1, .ref 64), (0, .ref 63)], [.ref 66], jzv186) : jS)) rfl ?_
  refine jl_s (S' := ((378, [(5, .int 1), (4, .int 0), (3, .ref 153), (2, .ref 66), (1, .ref 64), (0, .ref 63)], [.ref 63, .ref 66], jzv186) : jS)) rfl ?_
  refine jl_s (S' := ((380, [(5, .int 1), (4, .int 0), (3, .ref 153), (2, .ref 66), (1, .ref 64), (0, .ref 63)], [.int 0, .ref 63, .ref 66], jzv186) : jS)) rfl ?_
  refine jl_s (S' := ((381, [(5, .int 1), (4, .int 0), (3, .ref 153), (2, .ref 66), (1, .ref 64), (0, .ref 63)], [.int 1, .int 0, .ref 63, .ref 66], jzv186) : jS)) rfl ?_
  refine jl_s (S' := ((382, [(5, .int 1), (4, .int 0), (3, .ref 153), (2, .ref 66), (1, .ref 64), (0, .ref 63)], [.int 1, .ref 63, .ref 66], jzv186) : jS)) rfl ?_
  refine jl_s (S' := ((383, [(5, .int 1), (4, .int 0), (3, .ref 153), (2, .ref 66), (1, .ref 64), (0, .ref 63)], [.int (xs 1), .ref 66], jzv186) : jS)) rfl ?_
  refine jl_s (S' := ((384, [(5, .int 1), (4, .int 0), (3, .ref 153), (2, .ref 66), (1, .ref 64), (0, .ref 63)], [.ref 63, .int (xs 1), .ref 66], jzv186) : jS)) rfl ?_
  refine jl_s (S' := ((386, [(5, .int 1), (4, .int 0), (3, .ref 153), (2, .ref 66), (1, .ref 64), (0, .ref 63)], [.int 0, .ref 63, .int (xs 1), .ref 66], jzv186) : jS)) rfl ?_
  refine jl_s (S' := ((387, [(5, .int 1), (4, .int 0), (3, .ref 153), (2, .ref 66), (1, .ref 64), (0, .ref 63)], [.int 2, .int 0, .ref 63, .int (xs 1), .ref 66], jzv186) : jS)) rfl ?_
  refine jl_s (S' := ((388, [(5, .int 1), (4, .int 0), (3, .ref 153), (2, .ref 66), (1, .ref 64), (0, .ref 63)], [.int 2, .ref 63, .int (xs 1), .ref 66], jzv186) : jS)) rfl ?_
  refine jl_s (S' := ((389, [(5, .int 1), (4, .int 0), (3, .ref 153), (2, .ref 66), (1, .ref 64), (0, .ref 63)], [.int (xs 2), .int (xs 1), .ref 66], jzv186) : jS)) rfl ?_
  refine jl_c (t := 405) (as := [.ref 66, .int (xs 1), .int (xs 2)]) (V := jzv186) (r := (.inl (some (.int 0)), jzv187)) (S' := ((392, [(5, .int 1), (4, .int 0), (3, .ref 153), (2, .ref 66), (1, .ref 64), (0, .ref 63)], [.int 0], jzv187) : jS)) rfl (jzl73 xs hop ) rfl ?_
  refine jl_s (S' := ((394, [(6, .int 0), (5, .int 1), (4, .int 0), (3, .ref 153), (2, .ref 66), (1, .ref 64), (0, .ref 63)], [], jzv187) : jS)) rfl ?_
  refine jl_s (S' := ((395, [(6, .int 0), (5, .int 1), (4, .int 0), (3, .ref 153), (2, .ref 66), (1, .ref 64), (0, .ref 63)], [.ref 66], jzv187) : jS)) rfl ?_
  refine jl_c (t := 244) (as := [.ref 66]) (V := jzv187) (r := (.inl (some (.int 1)), jzv187)) (S' := ((398, [(6, .int 0), (5, .int 1), (4, .int 0), (3, .ref 153), (2, .ref 66), (1, .ref 64), (0, .ref 63)], [.int 1], jzv187) : jS)) rfl (jzl74 xs hop ) rfl ?_
  refine jl_s (S' := ((400, [(6, .int 0), (5, .int 1), (4, .int 0), (3, .ref 153), (2, .ref 66), (1, .ref 64), (0, .ref 63)], [.int 1, .int 1], jzv187) : jS)) rfl ?_
  refine jl_s (S' := ((405, [(6, .int 0), (5, .int 1), (4, .int 0), (3, .ref 153), (2, .ref 66), (1, .ref 64), (0, .ref 63)], [], jzv187) : jS)) rfl ?_
  refine jl_s (S' := ((407, [(6, .int 0), (5, .int 1), (4, .int 0), (3, .ref 153), (2, .ref 66), (1, .ref 64), (0, .ref 63)], [.int 1], jzv187) : jS)) rfl ?_
  refine jl_s (S' := ((422, [(6, .int 0), (5, .int 1), (4, .int 0), (3, .ref 153), (2, .ref 66), (1, .ref 64), (0, .ref 63)], [], jzv187) : jS)) rfl ?_
  refine jl_s (S' := ((1193, [(6, .int 0), (5, .int 1), (4, .int 0), (3, .ref 153), (2, .ref 66), (1, .ref 64), (0, .ref 63)], [], jzv187) : jS)) rfl ?_
  refine jl_s (S' := ((1196, [(4, .int 4), (6, .int 0), (5, .int 1), (3, .ref 153), (2, .ref 66), (1, .ref 64), (0, .ref 63)], [], jzv187) : jS)) rfl ?_
  refine jl_s (S' := ((23, [(4, .int 4), (6, .int 0), (5, .int 1), (3, .ref 153), (2, .ref 66), (1, .ref 64), (0, .ref 63)], [], jzv187) : jS)) rfl ?_
  refine jl_s (S' := ((25, [(4, .int 4), (6, .int 0), (5, .int 1), (3, .ref 153), (2, .ref 66), (1, .ref 64), (0, .ref 63)], [.int 4], jzv187) : jS)) rfl ?_
  refine jl_s (S' := ((26, [(4, .int 4), (6, .int 0), (5, .int 1), (3, .ref 153), (2, .ref 66), (1, .ref 64), (0, .ref 63)], [.ref 63, .int 4], jzv187) : jS)) rfl ?_
  refine jl_s (S' := ((27, [(4, .int 4), (6, .int 0), (5, .int 1), (3, .ref 153), (2, .ref 66), (1, .ref 64), (0, .ref 63)], [.int 4, .int 4], jzv187) : jS)) rfl ?_
  refine jl_s (S' := ((28, [(4, .int 4), (6, .int 0), (5, .int 1), (3, .ref 153), (2, .ref 66), (1, .ref 64), (0, .ref 63)], [.int 4, .int 4, .int 4], jzv187) : jS)) rfl ?_
  refine jl_s (S' := ((29, [(4, .int 4), (6, .int 0), (5, .int 1), (3, .ref 153), (2, .ref 66), (1, .ref 64), (0, .ref 63)], [.int 0, .int 4], jzv187) : jS)) rfl ?_
  refine jl_s (S' := ((1199, [(4, .int 4), (6, .int 0), (5, .int 1), (3, .ref 153), (2, .ref 66), (1, .ref 64), (0, .ref 63)], [], jzv187) : jS)) rfl ?_
  refine jl_s (S' := ((1200, [(4, .int 4), (6, .int 0), (5, .int 1), (3, .ref 153), (2, .ref 66), (1, .ref 64), (0, .ref 63)], [.int 1], jzv187) : jS)) rfl ?_
  exact jl_r (r := (.inl (some (.int 1)), jzv187)) rfl
-- op 5 : jzl75
set_option maxHeartbeats 4000000 in
set_option maxRecDepth 100000 in
theorem jzl76 (xs : Nat → Int32) (hop : xs 0 &&& 31 = 6)  : jRun ((4, xs) : jX) 2000 36 39 [.ref 64] jzv181 = some (.inr 154, jzv186) := by
  refine jr_run (e := jm39) rfl (Nat.le_of_ble_eq_true rfl) ?_
  refine jl_s (S' := ((1, [(0, .ref 64)], [.ref 64], jzv181) : jS)) rfl ?_
  refine jl_s (S' := ((4, [(0, .ref 64)], [.null], jzv181) : jS)) rfl ?_
  refine jl_s (S' := ((5, [(1, .null), (0, .ref 64)], [], jzv181) : jS)) rfl ?_
  refine jl_s (S' := ((6, [(1, .null), (0, .ref 64)], [.null], jzv181) : jS)) rfl ?_
  refine jl_s (S' := ((9, [(1, .null), (0, .ref 64)], [], jzv181) : jS)) rfl ?_
  exact jl_r (r := (.inr 154, jzv186)) rfl
set_option maxHeartbeats 4000000 in
set_option maxRecDepth 100000 in
theorem jzl77 (xs : Nat → Int32) (hop : xs 0 &&& 31 = 6)  : jRun ((4, xs) : jX) 2000 37 40 [.ref 64, .int (xs 1)] jzv181 = some (.inr 154, jzv186) := by
  refine jr_run (e := jm40) rfl (Nat.le_of_ble_eq_true rfl) ?_
  refine jl_s (S' := ((1, [(0, .ref 64), (1, .int (xs 1))], [.ref 64], jzv181) : jS)) rfl ?_
  exact jl_ct (t := 39) (as := [.ref 64]) (V := jzv181) (r := (.inr 154, jzv186)) (q := (.inr 154, jzv186)) rfl (jzl76 xs hop ) rfl
set_option maxHeartbeats 4000000 in
set_option maxRecDepth 100000 in
theorem jzl78 (xs : Nat → Int32) (hop : xs 0 &&& 31 = 6)  : jRun ((4, xs) : jX) 2000 38 26 [.ref 64, .int (xs 1), .int (xs 2), .int (xs 3)] jzv181 = some (.inr 154, jzv186) := by
  refine jr_run (e := jm26) rfl (Nat.le_of_ble_eq_true rfl) ?_
  refine jl_s (S' := ((1, [(0, .ref 64), (1, .int (xs 1)), (2, .int (xs 2)), (3, .int (xs 3))], [.ref 64], jzv181) : jS)) rfl ?_
  refine jl_s (S' := ((2, [(0, .ref 64), (1, .int (xs 1)), (2, .int (xs 2)), (3, .int (xs 3))], [.int (xs 1), .ref 64], jzv181) : jS)) rfl ?_
  exact jl_ct (t := 40) (as := [.ref 64, .int (xs 1)]) (V := jzv181) (r := (.inr 154, jzv186)) (q := (.inr 154, jzv186)) rfl (jzl77 xs hop ) rfl
set_option maxHeartbeats 4000000 in
set_option maxRecDepth 100000 in
theorem jzl79 (xs : Nat → Int32) (hop : xs 0 &&& 31 = 6)  : jRun ((4, xs) : jX) 2000 39 5 [.ref 64, .int (xs 1), .int (xs 2), .int (xs 3), .ref 153] jzv181 = some (.inl (some (.int 1)), jzv186) := by
  refine jr_run (e := jm5) rfl (Nat.le_of_ble_eq_true rfl) ?_
  refine jl_s (S' := ((2, [(0, .ref 64), (1, .int (xs 1)), (2, .int (xs 2)), (3, .int (xs 3)), (4, .ref 153)], [.ref 153], jzv181) : jS)) rfl ?_
  refine jl_s (S' := ((3, [(0, .ref 64), (1, .int (xs 1)), (2, .int (xs 2)), (3, .int (xs 3)), (4, .ref 153)], [.int 0, .ref 153], jzv181) : jS)) rfl ?_
  refine jl_s (S' := ((4, [(0, .ref 64), (1, .int (xs 1)), (2, .int (xs 2)), (3, .int (xs 3)), (4, .ref 153)], [.ref 64, .int 0, .ref 153], jzv181) : jS)) rfl ?_
  refine jl_s (S' := ((5, [(0, .ref 64), (1, .int (xs 1)), (2, .int (xs 2)), (3, .int (xs 3)), (4, .ref 153)], [.int (xs 1), .ref 64, .int 0, .ref 153], jzv181) : jS)) rfl ?_
  refine jl_s (S' := ((6, [(0, .ref 64), (1, .int (xs 1)), (2, .int (xs 2)), (3, .int (xs 3)), (4, .ref 153)], [.int (xs 2), .int (xs 1), .ref 64, .int 0, .ref 153], jzv181) : jS)) rfl ?_
  refine jl_s (S' := ((7, [(0, .ref 64), (1, .int (xs 1)), (2, .int (xs 2)), (3, .int (xs 3)), (4, .ref 153)], [.int (xs 3), .int (xs 2), .int (xs 1), .ref 64, .int 0, .ref 153], jzv181) : jS)) rfl ?_
  refine jl_c (t := 26) (as := [.ref 64, .int (xs 1), .int (xs 2), .int (xs 3)]) (V := jzv181) (r := (.inr 154, jzv186)) (S' := ((15, [(0, .ref 64), (1, .int (xs 1)), (2, .int (xs 2)), (3, .int (xs 3)), (4, .ref 153)], [.ref 154], jzv186) : jS)) rfl (jzl78 xs hop ) rfl ?_
  refine jl_s (S' := ((17, [(5, .ref 154), (0, .ref 64), (1, .int (xs 1)), (2, .int (xs 2)), (3, .int (xs 3)), (4, .ref 153)], [], jzv186) : jS)) rfl ?_
  refine jl_s (S' := ((18, [(5, .ref 154), (0, .ref 64), (1, .int (xs 1)), (2, .int (xs 2)), (3, .int (xs 3)), (4, .ref 153)], [.int 1], jzv186) : jS)) rfl ?_
  exact jl_r (r := (.inl (some (.int 1)), jzv186)) rfl
set_option maxHeartbeats 4000000 in
set_option maxRecDepth 100000 in
theorem jzl80 (xs : Nat → Int32) (hop : xs 0 &&& 31 = 6)  : jRun ((4, xs) : jX) 2000 39 406 [.ref 66, .int (xs 1), .int (xs 2), .int (xs 3)] jzv186 = some (.inl (some (.int 0)), jzv187) := by
  refine jr_run (e := jm406) rfl (Nat.le_of_ble_eq_true rfl) ?_
  refine jl_s (S' := ((1, [(0, .ref 66), (1, .int (xs 1)), (2, .int (xs 2)), (3, .int (xs 3))], [.ref 66], jzv186) : jS)) rfl ?_
  refine jl_s (S' := ((4, [(0, .ref 66), (1, .int (xs 1)), (2, .int (xs 2)), (3, .int (xs 3))], [.int 0], jzv186) : jS)) rfl ?_
  refine jl_s (S' := ((19, [(0, .ref 66), (1, .int (xs 1)), (2, .int (xs 2)), (3, .int (xs 3))], [], jzv186) : jS)) rfl ?_
  refine jl_s (S' := ((20, [(0, .ref 66), (1, .int (xs 1)), (2, .int (xs 2)), (3, .int (xs 3))], [.int 0], jzv186) : jS)) rfl ?_
  refine jl_s (S' := ((22, [(4, .int 0), (0, .ref 66), (1, .int (xs 1)), (2, .int (xs 2)), (3, .int (xs 3))], [], jzv186) : jS)) rfl ?_
  refine jl_s (S' := ((24, [(4, .int 0), (0, .ref 66), (1, .int (xs 1)), (2, .int (xs 2)), (3, .int (xs 3))], [.int 0], jzv186) : jS)) rfl ?_
  refine jl_s (S' := ((40, [(4, .int 0), (0, .ref 66), (1, .int (xs 1)), (2, .int (xs 2)), (3, .int (xs 3))], [], jzv186) : jS)) rfl ?_
  refine jl_s (S' := ((41, [(4, .int 0), (0, .ref 66), (1, .int (xs 1)), (2, .int (xs 2)), (3, .int (xs 3))], [.int 0], jzv186) : jS)) rfl ?_
  refine jl_s (S' := ((43, [(5, .int 0), (4, .int 0), (0, .ref 66), (1, .int (xs 1)), (2, .int (xs 2)), (3, .int (xs 3))], [], jzv186) : jS)) rfl ?_
  refine jl_s (S' := ((44, [(5, .int 0), (4, .int 0), (0, .ref 66), (1, .int (xs 1)), (2, .int (xs 2)), (3, .int (xs 3))], [.ref 66], jzv186) : jS)) rfl ?_
  refine jl_s (S' := ((45, [(5, .int 0), (4, .int 0), (0, .ref 66), (1, .int (xs 1)), (2, .int (xs 2)), (3, .int (xs 3))], [.ref 66, .ref 66], jzv186) : jS)) rfl ?_
  refine jl_s (S' := ((48, [(5, .int 0), (4, .int 0), (0, .ref 66), (1, .int (xs 1)), (2, .int (xs 2)), (3, .int (xs 3))], [.int 0, .ref 66], jzv186) : jS)) rfl ?_
  refine jl_s (S' := ((51, [(5, .int 0), (4, .int 0), (0, .ref 66), (1, .int (xs 1)), (2, .int (xs 2)), (3, .int (xs 3))], [.ref 66], jzv186) : jS)) rfl ?_
  refine jl_s (S' := ((52, [(5, .int 0), (4, .int 0), (0, .ref 66), (1, .int (xs 1)), (2, .int (xs 2)), (3, .int (xs 3))], [.int 1, .ref 66], jzv186) : jS)) rfl ?_
  refine jl_s (S' := ((87, [(5, .int 0), (4, .int 0), (0, .ref 66), (1, .int (xs 1)), (2, .int (xs 2)), (3, .int (xs 3))], [.int 1, .ref 66], jzv186) : jS)) rfl ?_
  refine jl_s (S' := ((90, [(5, .int 0), (4, .int 0), (0, .ref 66), (1, .int (xs 1)), (2, .int (xs 2)), (3, .int (xs 3))], [], jzv187) : jS)) rfl ?_
  refine jl_s (S' := ((91, [(5, .int 0), (4, .int 0), (0, .ref 66), (1, .int (xs 1)), (2, .int (xs 2)), (3, .int (xs 3))], [.ref 66], jzv187) : jS)) rfl ?_
  refine jl_s (S' := ((94, [(5, .int 0), (4, .int 0), (0, .ref 66), (1, .int (xs 1)), (2, .int (xs 2)), (3, .int (xs 3))], [.int 1], jzv187) : jS)) rfl ?_
  refine jl_s (S' := ((97, [(5, .int 0), (4, .int 0), (0, .ref 66), (1, .int (xs 1)), (2, .int (xs 2)), (3, .int (xs 3))], [], jzv187) : jS)) rfl ?_
  refine jl_s (S' := ((98, [(5, .int 0), (4, .int 0), (0, .ref 66), (1, .int (xs 1)), (2, .int (xs 2)), (3, .int (xs 3))], [.int 0], jzv187) : jS)) rfl ?_
  exact jl_r (r := (.inl (some (.int 0)), jzv187)) rfl
set_option maxHeartbeats 4000000 in
set_option maxRecDepth 100000 in
theorem jzl81 (xs : Nat → Int32) (hop : xs 0 &&& 31 = 6)  : jRun ((4, xs) : jX) 2000 39 244 [.ref 66] jzv187 = some (.inl (some (.int 1)), jzv187) := by
  refine jr_run (e := jm244) rfl (Nat.le_of_ble_eq_true rfl) ?_
  refine jl_s (S' := ((1, [(0, .ref 66)], [.ref 66], jzv187) : jS)) rfl ?_
  refine jl_s (S' := ((4, [(0, .ref 66)], [.int 1], jzv187) : jS)) rfl ?_
  exact jl_r (r := (.inl (some (.int 1)), jzv187)) rfl
set_option maxHeartbeats 4000000 in
set_option maxRecDepth 100000 in
theorem jzl82 (xs : Nat → Int32) (hop : xs 0 &&& 31 = 6)  : jLoop (jRun ((4, xs) : jX) 2000 39) ((4, xs) : jX) jm18 1000 ((23, [(4, .int 0), (3, .ref 153), (2, .ref 66), (1, .ref 64), (0, .ref 63)], [], jzv181) : jS) = some (.inl (some (.int 1)), jzv187) := by
  refine jl_s (S' := ((25, [(4, .int 0), (3, .ref 153), (2, .ref 66), (1, .ref 64), (0, .ref 63)], [.int 0], jzv181) : jS)) rfl ?_
  refine jl_s (S' := ((26, [(4, .int 0), (3, .ref 153), (2, .ref 66), (1, .ref 64), (0, .ref 63)], [.ref 63, .int 0], jzv181) : jS)) rfl ?_
  refine jl_s (S' := ((27, [(4, .int 0), (3, .ref 153), (2, .ref 66), (1, .ref 64), (0, .ref 63)], [.int 4, .int 0], jzv181) : jS)) rfl ?_
  refine jl_s (S' := ((28, [(4, .int 0), (3, .ref 153), (2, .ref 66), (1, .ref 64), (0, .ref 63)], [.int 4, .int 4, .int 0], jzv181) : jS)) rfl ?_
  refine jl_s (S' := ((29, [(4, .int 0), (3, .ref 153), (2, .ref 66), (1, .ref 64), (0, .ref 63)], [.int 0, .int 0], jzv181) : jS)) rfl ?_
  refine jl_s (S' := ((32, [(4, .int 0), (3, .ref 153), (2, .ref 66), (1, .ref 64), (0, .ref 63)], [], jzv181) : jS)) rfl ?_
  refine jl_s (S' := ((33, [(4, .int 0), (3, .ref 153), (2, .ref 66), (1, .ref 64), (0, .ref 63)], [.ref 63], jzv181) : jS)) rfl ?_
  refine jl_s (S' := ((35, [(4, .int 0), (3, .ref 153), (2, .ref 66), (1, .ref 64), (0, .ref 63)], [.int 0, .ref 63], jzv181) : jS)) rfl ?_
  refine jl_s (S' := ((36, [(4, .int 0), (3, .ref 153), (2, .ref 66), (1, .ref 64), (0, .ref 63)], [.int (xs 0)], jzv181) : jS)) rfl ?_
  refine jl_s (S' := ((38, [(4, .int 0), (3, .ref 153), (2, .ref 66), (1, .ref 64), (0, .ref 63)], [.int 31, .int (xs 0)], jzv181) : jS)) rfl ?_
  refine jl_s (S' := ((39, [(4, .int 0), (3, .ref 153), (2, .ref 66), (1, .ref 64), (0, .ref 63)], [.int ((xs 0) &&& 31)], jzv181) : jS)) rfl ?_
  rw [hop]
  refine jl_s (S' := ((425, [(4, .int 0), (3, .ref 153), (2, .ref 66), (1, .ref 64), (0, .ref 63)], [], jzv181) : jS)) rfl ?_
  refine jl_s (S' := ((426, [(4, .int 0), (3, .ref 153), (2, .ref 66), (1, .ref 64), (0, .ref 63)], [.ref 64], jzv181) : jS)) rfl ?_
  refine jl_s (S' := ((427, [(4, .int 0), (3, .ref 153), (2, .ref 66), (1, .ref 64), (0, .ref 63)], [.ref 63, .ref 64], jzv181) : jS)) rfl ?_
  refine jl_s (S' := ((429, [(4, .int 0), (3, .ref 153), (2, .ref 66), (1, .ref 64), (0, .ref 63)], [.int 0, .ref 63, .ref 64], jzv181) : jS)) rfl ?_
  refine jl_s (S' := ((430, [(4, .int 0), (3, .ref 153), (2, .ref 66), (1, .ref 64), (0, .ref 63)], [.int 1, .int 0, .ref 63, .ref 64], jzv181) : jS)) rfl ?_
  refine jl_s (S' := ((431, [(4, .int 0), (3, .ref 153), (2, .ref 66), (1, .ref 64), (0, .ref 63)], [.int 1, .ref 63, .ref 64], jzv181) : jS)) rfl ?_
  refine jl_s (S' := ((432, [(4, .int 0), (3, .ref 153), (2, .ref 66), (1, .ref 64), (0, .ref 63)], [.int (xs 1), .ref 64], jzv181) : jS)) rfl ?_
  refine jl_s (S' := ((433, [(4, .int 0), (3, .ref 153), (2, .ref 66), (1, .ref 64), (0, .ref 63)], [.ref 63, .int (xs 1), .ref 64], jzv181) : jS)) rfl ?_
  refine jl_s (S' := ((435, [(4, .int 0), (3, .ref 153), (2, .ref 66), (1, .ref 64), (0, .ref 63)], [.int 0, .ref 63, .int (xs 1), .ref 64], jzv181) : jS)) rfl ?_
  refine jl_s (S' := ((436, [(4, .int 0), (3, .ref 153), (2, .ref 66), (1, .ref 64), (0, .ref 63)], [.int 2, .int 0, .ref 63, .int (xs 1), .ref 64], jzv181) : jS)) rfl ?_
  refine jl_s (S' := ((437, [(4, .int 0), (3, .ref 153), (2, .ref 66), (1, .ref 64), (0, .ref 63)], [.int 2, .ref 63, .int (xs 1), .ref 64], jzv181) : jS)) rfl ?_
  refine jl_s (S' := ((438, [(4, .int 0), (3, .ref 153), (2, .ref 66), (1, .ref 64), (0, .ref 63)], [.int (xs 2), .int (xs 1), .ref 64], jzv181) : jS)) rfl ?_
  refine jl_s (S' := ((439, [(4, .int 0), (3, .ref 153), (2, .ref 66), (1, .ref 64), (0, .ref 63)], [.ref 63, .int (xs 2), .int (xs 1), .ref 64], jzv181) : jS)) rfl ?_
  refine jl_s (S' := ((441, [(4, .int 0), (3, .ref 153), (2, .ref 66), (1, .ref 64), (0, .ref 63)], [.int 0, .ref 63, .int (xs 2), .int (xs 1), .ref 64], jzv181) : jS)) rfl ?_
  refine jl_s (S' := ((442, [(4, .int 0), (3, .ref 153), (2, .ref 66), (1, .ref 64), (0, .ref 63)], [.int 3, .int 0, .ref 63, .int (xs 2), .int (xs 1), .ref 64], jzv181) : jS)) rfl ?_
  refine jl_s (S' := ((443, [(4, .int 0), (3, .ref 153), (2, .ref 66), (1, .ref 64), (0, .ref 63)], [.int 3, .ref 63, .int (xs 2), .int (xs 1), .ref 64], jzv181) : jS)) rfl ?_
  refine jl_s (S' := ((444, [(4, .int 0), (3, .ref 153), (2, .ref 66), (1, .ref 64), (0, .ref 63)], [.int (xs 3), .int (xs 2), .int (xs 1), .ref 64], jzv181) : jS)) rfl ?_
  refine jl_s (S' := ((445, [(4, .int 0), (3, .ref 153), (2, .ref 66), (1, .ref 64), (0, .ref 63)], [.ref 153, .int (xs 3), .int (xs 2), .int (xs 1), .ref 64], jzv181) : jS)) rfl ?_
  refine jl_c (t := 5) (as := [.ref 64, .int (xs 1), .int (xs 2), .int (xs 3), .ref 153]) (V := jzv181) (r := (.inl (some (.int 1)), jzv186)) (S' := ((448, [(4, .int 0), (3, .ref 153), (2, .ref 66), (1, .ref 64), (0, .ref 63)], [.int 1], jzv186) : jS)) rfl (jzl79 xs hop ) rfl ?_
  refine jl_s (S' := ((450, [(5, .int 1), (4, .int 0), (3, .ref 153), (2, .ref 66), (1, .ref 64), (0, .ref 63)], [], jzv186) : jS)) rfl ?_
  refine jl_s (S' := ((451, [(5, .int 1), (4, .int 0), (3, .ref 153), (2, .ref 66), (1, .ref 64), (0, .ref 63)], [.ref 66], jzv186) : jS)) rfl ?_
  refine jl_s (S' := ((452, [(5, .int 1), (4, .int 0), (3, .ref 153), (2, .ref 66), (1, .ref 64), (0, .ref 63)], [.ref 63, .ref 66], jzv186) : jS)) rfl ?_
  refine jl_s (S' := ((454, [(5, .int 1), (4, .int 0), (3, .ref 153), (2, .ref 66), (1, .ref 64), (0, .ref 63)], [.int 0, .ref 63, .ref 66], jzv186) : jS)) rfl ?_
  refine jl_s (S' := ((455, [(5, .int 1), (4, .int 0), (3, .ref 153), (2, .ref 66), (1, .ref 64), (0, .ref 63)], [.int 1, .int 0, .ref 63, .ref 66], jzv186) : jS)) rfl ?_
  refine jl_s (S' := ((456, [(5, .int 1), (4, .int 0), (3, .ref 153), (2, .ref 66), (1, .ref 64), (0, .ref 63)], [.int 1, .ref 63, .ref 66], jzv186) : jS)) rfl ?_
  refine jl_s (S' := ((457, [(5, .int 1), (4, .int 0), (3, .ref 153), (2, .ref 66), (1, .ref 64), (0, .ref 63)], [.int (xs 1), .ref 66], jzv186) : jS)) rfl ?_
  refine jl_s (S' := ((458, [(5, .int 1), (4, .int 0), (3, .ref 153), (2, .ref 66), (1, .ref 64), (0, .ref 63)], [.ref 63, .int (xs 1), .ref 66], jzv186) : jS)) rfl ?_
  refine jl_s (S' := ((460, [(5, .int 1), (4, .int 0), (3, .ref 153), (2, .ref 66), (1, .ref 64), (0, .ref 63)], [.int 0, .ref 63, .int (xs 1), .ref 66], jzv186) : jS)) rfl ?_
  refine jl_s (S' := ((461, [(5, .int 1), (4, .int 0), (3, .ref 153), (2, .ref 66), (1, .ref 64), (0, .ref 63)], [.int 2, .int 0, .ref 63, .int (xs 1), .ref 66], jzv186) : jS)) rfl ?_
  refine jl_s (S' := ((462, [(5, .int 1), (4, .int 0), (3, .ref 153), (2, .ref 66), (1, .ref 64), (0, .ref 63)], [.int 2, .ref 63, .int (xs 1), .ref 66], jzv186) : jS)) rfl ?_
  refine jl_s (S' := ((463, [(5, .int 1), (4, .int 0), (3, .ref 153), (2, .ref 66), (1, .ref 64), (0, .ref 63)], [.int (xs 2), .int (xs 1), .ref 66], jzv186) : jS)) rfl ?_
  refine jl_s (S' := ((464, [(5, .int 1), (4, .int 0), (3, .ref 153), (2, .ref 66), (1, .ref 64), (0, .ref 63)], [.ref 63, .int (xs 2), .int (xs 1), .ref 66], jzv186) : jS)) rfl ?_
  refine jl_s (S' := ((466, [(5, .int 1), (4, .int 0), (3, .ref 153), (2, .ref 66), (1, .ref 64), (0, .ref 63)], [.int 0, .ref 63, .int (xs 2), .int (xs 1), .ref 66], jzv186) : jS)) rfl ?_
  refine jl_s (S' := ((467, [(5, .int 1), (4, .int 0), (3, .ref 153), (2, .ref 66), (1, .ref 64), (0, .ref 63)], [.int 3, .int 0, .ref 63, .int (xs 2), .int (xs 1), .ref 66], jzv186) : jS)) rfl ?_
  refine jl_s (S' := ((468, [(5, .int 1), (4, .int 0), (3, .ref 153), (2, .ref 66), (1, .ref 64), (0, .ref 63)], [.int 3, .ref 63, .int (xs 2), .int (xs 1), .ref 66], jzv186) : jS)) rfl ?_
  refine jl_s (S' := ((469, [(5, .int 1), (4, .int 0), (3, .ref 153), (2, .ref 66), (1, .ref 64), (0, .ref 63)], [.int (xs 3), .int (xs 2), .int (xs 1), .ref 66], jzv186) : jS)) rfl ?_
  refine jl_c (t := 406) (as := [.ref 66, .int (xs 1), .int (xs 2), .int (xs 3)]) (V := jzv186) (r := (.inl (some (.int 0)), jzv187)) (S' := ((472, [(5, .int 1), (4, .int 0), (3, .ref 153), (2, .ref 66), (1, .ref 64), (0, .ref 63)], [.int 0], jzv187) : jS)) rfl (jzl80 xs hop ) rfl ?_
  refine jl_s (S' := ((474, [(6, .int 0), (5, .int 1), (4, .int 0), (3, .ref 153), (2, .ref 66), (1, .ref 64), (0, .ref 63)], [], jzv187) : jS)) rfl ?_
  refine jl_s (S' := ((475, [(6, .int 0), (5, .int 1), (4, .int 0), (3, .ref 153), (2, .ref 66), (1, .ref 64), (0, .ref 63)], [.ref 66], jzv187) : jS)) rfl ?_
  refine jl_c (t := 244) (as := [.ref 66]) (V := jzv187) (r := (.inl (some (.int 1)), jzv187)) (S' := ((478, [(6, .int 0), (5, .int 1), (4, .int 0), (3, .ref 153), (2, .ref 66), (1, .ref 64), (0, .ref 63)], [.int 1], jzv187) : jS)) rfl (jzl81 xs hop ) rfl ?_
  refine jl_s (S' := ((480, [(6, .int 0), (5, .int 1), (4, .int 0), (3, .ref 153), (2, .ref 66), (1, .ref 64), (0, .ref 63)], [.int 1, .int 1], jzv187) : jS)) rfl ?_
  refine jl_s (S' := ((485, [(6, .int 0), (5, .int 1), (4, .int 0), (3, .ref 153), (2, .ref 66), (1, .ref 64), (0, .ref 63)], [], jzv187) : jS)) rfl ?_
  refine jl_s (S' := ((487, [(6, .int 0), (5, .int 1), (4, .int 0), (3, .ref 153), (2, .ref 66), (1, .ref 64), (0, .ref 63)], [.int 1], jzv187) : jS)) rfl ?_
  refine jl_s (S' := ((502, [(6, .int 0), (5, .int 1), (4, .int 0), (3, .ref 153), (2, .ref 66), (1, .ref 64), (0, .ref 63)], [], jzv187) : jS)) rfl ?_
  refine jl_s (S' := ((1193, [(6, .int 0), (5, .int 1), (4, .int 0), (3, .ref 153), (2, .ref 66), (1, .ref 64), (0, .ref 63)], [], jzv187) : jS)) rfl ?_
  refine jl_s (S' := ((1196, [(4, .int 4), (6, .int 0), (5, .int 1), (3, .ref 153), (2, .ref 66), (1, .ref 64), (0, .ref 63)], [], jzv187) : jS)) rfl ?_
  refine jl_s (S' := ((23, [(4, .int 4), (6, .int 0), (5, .int 1), (3, .ref 153), (2, .ref 66), (1, .ref 64), (0, .ref 63)], [], jzv187) : jS)) rfl ?_
  refine jl_s (S' := ((25, [(4, .int 4), (6, .int 0), (5, .int 1), (3, .ref 153), (2, .ref 66), (1, .ref 64), (0, .ref 63)], [.int 4], jzv187) : jS)) rfl ?_
  refine jl_s (S' := ((26, [(4, .int 4), (6, .int 0), (5, .int 1), (3, .ref 153), (2, .ref 66), (1, .ref 64), (0, .ref 63)], [.ref 63, .int 4], jzv187) : jS)) rfl ?_
  refine jl_s (S' := ((27, [(4, .int 4), (6, .int 0), (5, .int 1), (3, .ref 153), (2, .ref 66), (1, .ref 64), (0, .ref 63)], [.int 4, .int 4], jzv187) : jS)) rfl ?_
  refine jl_s (S' := ((28, [(4, .int 4), (6, .int 0), (5, .int 1), (3, .ref 153), (2, .ref 66), (1, .ref 64), (0, .ref 63)], [.int 4, .int 4, .int 4], jzv187) : jS)) rfl ?_
  refine jl_s (S' := ((29, [(4, .int 4), (6, .int 0), (5, .int 1), (3, .ref 153), (2, .ref 66), (1, .ref 64), (0, .ref 63)], [.int 0, .int 4], jzv187) : jS)) rfl ?_
  refine jl_s (S' := ((1199, [(4, .int 4), (6, .int 0), (5, .int 1), (3, .ref 153), (2, .ref 66), (1, .ref 64), (0, .ref 63)], [], jzv187) : jS)) rfl ?_
  refine jl_s (S' := ((1200, [(4, .int 4), (6, .int 0), (5, .int 1), (3, .ref 153), (2, .ref 66), (1, .ref 64), (0, .ref 63)], [.int 1], jzv187) : jS)) rfl ?_
  exact jl_r (r := (.inl (some (.int 1)), jzv187)) rfl
-- op 6 : jzl82
set_option maxHeartbeats 4000000 in
set_option maxRecDepth 100000 in
theorem jzl83 (xs : Nat → Int32) (hop : xs 0 &&& 31 = 7) (h1 : Op.if_icmp.holds .lt (xs 1) 0 = true) : jRun ((4, xs) : jX) 2000 37 39 [.ref 64] jzv181 = some (.inr 154, jzv186) := by
  refine jr_run (e := jm39) rfl (Nat.le_of_ble_eq_true rfl) ?_
  refine jl_s (S' := ((1, [(0, .ref 64)], [.ref 64], jzv181) : jS)) rfl ?_
  refine jl_s (S' := ((4, [(0, .ref 64)], [.null], jzv181) : jS)) rfl ?_
  refine jl_s (S' := ((5, [(1, .null), (0, .ref 64)], [], jzv181) : jS)) rfl ?_
  refine jl_s (S' := ((6, [(1, .null), (0, .ref 64)], [.null], jzv181) : jS)) rfl ?_
  refine jl_s (S' := ((9, [(1, .null), (0, .ref 64)], [], jzv181) : jS)) rfl ?_
  exact jl_r (r := (.inr 154, jzv186)) rfl
set_option maxHeartbeats 4000000 in
set_option maxRecDepth 100000 in
theorem jzl84 (xs : Nat → Int32) (hop : xs 0 &&& 31 = 7) (h1 : Op.if_icmp.holds .lt (xs 1) 0 = true) : jRun ((4, xs) : jX) 2000 38 27 [.ref 64, .int (xs 1), .int (xs 2)] jzv181 = some (.inr 154, jzv186) := by
  refine jr_run (e := jm27) rfl (Nat.le_of_ble_eq_true rfl) ?_
  refine jl_s (S' := ((1, [(0, .ref 64), (1, .int (xs 1)), (2, .int (xs 2))], [.ref 64], jzv181) : jS)) rfl ?_
  exact jl_ct (t := 39) (as := [.ref 64]) (V := jzv181) (r := (.inr 154, jzv186)) (q := (.inr 154, jzv186)) rfl (jzl83 xs hop h1) rfl
set_option maxHeartbeats 4000000 in
set_option maxRecDepth 100000 in
theorem jzl85 (xs : Nat → Int32) (hop : xs 0 &&& 31 = 7) (h1 : Op.if_icmp.holds .lt (xs 1) 0 = true) : jRun ((4, xs) : jX) 2000 39 6 [.ref 64, .int (xs 1), .int (xs 2), .ref 153] jzv181 = some (.inl (some (.int 1)), jzv186) := by
  refine jr_run (e := jm6) rfl (Nat.le_of_ble_eq_true rfl) ?_
  refine jl_s (S' := ((1, [(0, .ref 64), (1, .int (xs 1)), (2, .int (xs 2)), (3, .ref 153)], [.ref 153], jzv181) : jS)) rfl ?_
  refine jl_s (S' := ((2, [(0, .ref 64), (1, .int (xs 1)), (2, .int (xs 2)), (3, .ref 153)], [.int 0, .ref 153], jzv181) : jS)) rfl ?_
  refine jl_s (S' := ((3, [(0, .ref 64), (1, .int (xs 1)), (2, .int (xs 2)), (3, .ref 153)], [.ref 64, .int 0, .ref 153], jzv181) : jS)) rfl ?_
  refine jl_s (S' := ((4, [(0, .ref 64), (1, .int (xs 1)), (2, .int (xs 2)), (3, .ref 153)], [.int (xs 1), .ref 64, .int 0, .ref 153], jzv181) : jS)) rfl ?_
  refine jl_s (S' := ((5, [(0, .ref 64), (1, .int (xs 1)), (2, .int (xs 2)), (3, .ref 153)], [.int (xs 2), .int (xs 1), .ref 64, .int 0, .ref 153], jzv181) : jS)) rfl ?_
  refine jl_c (t := 27) (as := [.ref 64, .int (xs 1), .int (xs 2)]) (V := jzv181) (r := (.inr 154, jzv186)) (S' := ((13, [(0, .ref 64), (1, .int (xs 1)), (2, .int (xs 2)), (3, .ref 153)], [.ref 154], jzv186) : jS)) rfl (jzl84 xs hop h1) rfl ?_
  refine jl_s (S' := ((15, [(4, .ref 154), (0, .ref 64), (1, .int (xs 1)), (2, .int (xs 2)), (3, .ref 153)], [], jzv186) : jS)) rfl ?_
  refine jl_s (S' := ((16, [(4, .ref 154), (0, .ref 64), (1, .int (xs 1)), (2, .int (xs 2)), (3, .ref 153)], [.int 1], jzv186) : jS)) rfl ?_
  exact jl_r (r := (.inl (some (.int 1)), jzv186)) rfl
set_option maxHeartbeats 4000000 in
set_option maxRecDepth 100000 in
theorem jzl86 (xs : Nat → Int32) (hop : xs 0 &&& 31 = 7) (h1 : Op.if_icmp.holds .lt (xs 1) 0 = true) : jRun ((4, xs) : jX) 2000 38 246 [.int (xs 1), .int 0, .int (-1)] jzv186 = some (.inl (some (.int 0)), jzv186) := by
  refine jr_run (e := jm246) rfl (Nat.le_of_ble_eq_true rfl) ?_
  refine jl_s (S' := ((1, [(0, .int (xs 1)), (1, .int 0), (2, .int (-1))], [.int (xs 1)], jzv186) : jS)) rfl ?_
  refine jl_s (S' := ((2, [(0, .int (xs 1)), (1, .int 0), (2, .int (-1))], [.int 0, .int (xs 1)], jzv186) : jS)) rfl ?_
  refine jl_ict (e := jm246) (o := 12) rfl (h1) (t := 14) rfl ?_
  refine jl_s (S' := ((15, [(0, .int (xs 1)), (1, .int 0), (2, .int (-1))], [.int 0], jzv186) : jS)) rfl ?_
  exact jl_r (r := (.inl (some (.int 0)), jzv186)) rfl
set_option maxHeartbeats 4000000 in
set_option maxRecDepth 100000 in
theorem jzl87 (xs : Nat → Int32) (hop : xs 0 &&& 31 = 7) (h1 : Op.if_icmp.holds .lt (xs 1) 0 = true) : jRun ((4, xs) : jX) 2000 38 245 [.ref 66, .int 1, .int 0, .int 0] jzv186 = some (.inl (some (.int 1)), jzv187) := by
  refine jr_run (e := jm245) rfl (Nat.le_of_ble_eq_true rfl) ?_
  refine jl_s (S' := ((1, [(0, .ref 66), (1, .int 1), (2, .int 0), (3, .int 0)], [.ref 66], jzv186) : jS)) rfl ?_
  refine jl_s (S' := ((2, [(0, .ref 66), (1, .int 1), (2, .int 0), (3, .int 0)], [.int 1, .ref 66], jzv186) : jS)) rfl ?_
  refine jl_s (S' := ((5, [(0, .ref 66), (1, .int 1), (2, .int 0), (3, .int 0)], [.ref 66], jzv186) : jS)) rfl ?_
  refine jl_s (S' := ((6, [(0, .ref 66), (1, .int 1), (2, .int 0), (3, .int 0)], [.int 1, .ref 66], jzv186) : jS)) rfl ?_
  refine jl_s (S' := ((26, [(0, .ref 66), (1, .int 1), (2, .int 0), (3, .int 0)], [.int 1, .ref 66], jzv186) : jS)) rfl ?_
  refine jl_s (S' := ((29, [(0, .ref 66), (1, .int 1), (2, .int 0), (3, .int 0)], [], jzv187) : jS)) rfl ?_
  refine jl_s (S' := ((30, [(0, .ref 66), (1, .int 1), (2, .int 0), (3, .int 0)], [.ref 66], jzv187) : jS)) rfl ?_
  refine jl_s (S' := ((33, [(0, .ref 66), (1, .int 1), (2, .int 0), (3, .int 0)], [.int 1], jzv187) : jS)) rfl ?_
  refine jl_s (S' := ((36, [(0, .ref 66), (1, .int 1), (2, .int 0), (3, .int 0)], [], jzv187) : jS)) rfl ?_
  refine jl_s (S' := ((37, [(0, .ref 66), (1, .int 1), (2, .int 0), (3, .int 0)], [.int 1], jzv187) : jS)) rfl ?_
  refine jl_s (S' := ((41, [(0, .ref 66), (1, .int 1), (2, .int 0), (3, .int 0)], [.int 1], jzv187) : jS)) rfl ?_
  exact jl_r (r := (.inl (some (.int 1)), jzv187)) rfl
set_option maxHeartbeats 4000000 in
set_option maxRecDepth 100000 in
theorem jzl88 (xs : Nat → Int32) (hop : xs 0 &&& 31 = 7) (h1 : Op.if_icmp.holds .lt (xs 1) 0 = true) : jRun ((4, xs) : jX) 2000 39 407 [.ref 66, .int (xs 1), .int (xs 2)] jzv186 = some (.inl (some (.int 0)), jzv187) := by
  refine jr_run (e := jm407) rfl (Nat.le_of_ble_eq_true rfl) ?_
  refine jl_s (S' := ((1, [(0, .ref 66), (1, .int (xs 1)), (2, .int (xs 2))], [.int (xs 1)], jzv186) : jS)) rfl ?_
  refine jl_s (S' := ((2, [(0, .ref 66), (1, .int (xs 1)), (2, .int (xs 2))], [.int 0, .int (xs 1)], jzv186) : jS)) rfl ?_
  refine jl_s (S' := ((3, [(0, .ref 66), (1, .int (xs 1)), (2, .int (xs 2))], [.ref 66, .int 0, .int (xs 1)], jzv186) : jS)) rfl ?_
  refine jl_s (S' := ((6, [(0, .ref 66), (1, .int (xs 1)), (2, .int (xs 2))], [.int 0, .int 0, .int (xs 1)], jzv186) : jS)) rfl ?_
  refine jl_s (S' := ((7, [(0, .ref 66), (1, .int (xs 1)), (2, .int (xs 2))], [.int 1, .int 0, .int 0, .int (xs 1)], jzv186) : jS)) rfl ?_
  refine jl_s (S' := ((8, [(0, .ref 66), (1, .int (xs 1)), (2, .int (xs 2))], [.int (-1), .int 0, .int (xs 1)], jzv186) : jS)) rfl ?_
  refine jl_c (t := 246) (as := [.int (xs 1), .int 0, .int (-1)]) (V := jzv186) (r := (.inl (some (.int 0)), jzv186)) (S' := ((11, [(0, .ref 66), (1, .int (xs 1)), (2, .int (xs 2))], [.int 0], jzv186) : jS)) rfl (jzl86 xs hop h1) rfl ?_
  refine jl_s (S' := ((12, [(3, .int 0), (0, .ref 66), (1, .int (xs 1)), (2, .int (xs 2))], [], jzv186) : jS)) rfl ?_
  refine jl_s (S' := ((13, [(3, .int 0), (0, .ref 66), (1, .int (xs 1)), (2, .int (xs 2))], [.ref 66], jzv186) : jS)) rfl ?_
  refine jl_s (S' := ((14, [(3, .int 0), (0, .ref 66), (1, .int (xs 1)), (2, .int (xs 2))], [.ref 66, .ref 66], jzv186) : jS)) rfl ?_
  refine jl_s (S' := ((17, [(3, .int 0), (0, .ref 66), (1, .int (xs 1)), (2, .int (xs 2))], [.int 0, .ref 66], jzv186) : jS)) rfl ?_
  refine jl_s (S' := ((20, [(3, .int 0), (0, .ref 66), (1, .int (xs 1)), (2, .int (xs 2))], [.ref 66], jzv186) : jS)) rfl ?_
  refine jl_s (S' := ((21, [(3, .int 0), (0, .ref 66), (1, .int (xs 1)), (2, .int (xs 2))], [.int 1, .ref 66], jzv186) : jS)) rfl ?_
  refine jl_s (S' := ((25, [(3, .int 0), (0, .ref 66), (1, .int (xs 1)), (2, .int (xs 2))], [.int 1, .ref 66], jzv186) : jS)) rfl ?_
  refine jl_s (S' := ((26, [(3, .int 0), (0, .ref 66), (1, .int (xs 1)), (2, .int (xs 2))], [.ref 66, .int 1, .ref 66], jzv186) : jS)) rfl ?_
  refine jl_s (S' := ((29, [(3, .int 0), (0, .ref 66), (1, .int (xs 1)), (2, .int (xs 2))], [.int 0, .int 1, .ref 66], jzv186) : jS)) rfl ?_
  refine jl_s (S' := ((40, [(3, .int 0), (0, .ref 66), (1, .int (xs 1)), (2, .int (xs 2))], [.int 1, .ref 66], jzv186) : jS)) rfl ?_
  refine jl_s (S' := ((41, [(3, .int 0), (0, .ref 66), (1, .int (xs 1)), (2, .int (xs 2))], [.int 0, .int 1, .ref 66], jzv186) : jS)) rfl ?_
  refine jl_s (S' := ((42, [(3, .int 0), (0, .ref 66), (1, .int (xs 1)), (2, .int (xs 2))], [.ref 66, .int 0, .int 1, .ref 66], jzv186) : jS)) rfl ?_
  refine jl_s (S' := ((45, [(3, .int 0), (0, .ref 66), (1, .int (xs 1)), (2, .int (xs 2))], [.int 0, .int 0, .int 1, .ref 66], jzv186) : jS)) rfl ?_
  refine jl_s (S' := ((65, [(3, .int 0), (0, .ref 66), (1, .int (xs 1)), (2, .int (xs 2))], [.int 0, .int 1, .ref 66], jzv186) : jS)) rfl ?_
  refine jl_s (S' := ((66, [(3, .int 0), (0, .ref 66), (1, .int (xs 1)), (2, .int (xs 2))], [.int 0, .int 0, .int 1, .ref 66], jzv186) : jS)) rfl ?_
  refine jl_c (t := 245) (as := [.ref 66, .int 1, .int 0, .int 0]) (V := jzv186) (r := (.inl (some (.int 1)), jzv187)) (S' := ((69, [(3, .int 0), (0, .ref 66), (1, .int (xs 1)), (2, .int (xs 2))], [.int 1], jzv187) : jS)) rfl (jzl87 xs hop h1) rfl ?_
  refine jl_s (S' := ((72, [(3, .int 0), (0, .ref 66), (1, .int (xs 1)), (2, .int (xs 2))], [], jzv187) : jS)) rfl ?_
  refine jl_s (S' := ((73, [(3, .int 0), (0, .ref 66), (1, .int (xs 1)), (2, .int (xs 2))], [.int 0], jzv187) : jS)) rfl ?_
  exact jl_r (r := (.inl (some (.int 0)), jzv187)) rfl
set_option maxHeartbeats 4000000 in
set_option maxRecDepth 100000 in
theorem jzl89 (xs : Nat → Int32) (hop : xs 0 &&& 31 = 7) (h1 : Op.if_icmp.holds .lt (xs 1) 0 = true) : jRun ((4, xs) : jX) 2000 39 244 [.ref 66] jzv187 = some (.inl (some (.int 1)), jzv187) := by
  refine jr_run (e := jm244) rfl (Nat.le_of_ble_eq_true rfl) ?_
  refine jl_s (S' := ((1, [(0, .ref 66)], [.ref 66], jzv187) : jS)) rfl ?_
  refine jl_s (S' := ((4, [(0, .ref 66)], [.int 1], jzv187) : jS)) rfl ?_
  exact jl_r (r := (.inl (some (.int 1)), jzv187)) rfl
set_option maxHeartbeats 4000000 in
set_option maxRecDepth 100000 in
theorem jzl90 (xs : Nat → Int32) (hop : xs 0 &&& 31 = 7) (h1 : Op.if_icmp.holds .lt (xs 1) 0 = true) : jLoop (jRun ((4, xs) : jX) 2000 39) ((4, xs) : jX) jm18 1000 ((23, [(4, .int 0), (3, .ref 153), (2, .ref 66), (1, .ref 64), (0, .ref 63)], [], jzv181) : jS) = some (.inl (some (.int 1)), jzv187) := by
  refine jl_s (S' := ((25, [(4, .int 0), (3, .ref 153), (2, .ref 66), (1, .ref 64), (0, .ref 63)], [.int 0], jzv181) : jS)) rfl ?_
  refine jl_s (S' := ((26, [(4, .int 0), (3, .ref 153), (2, .ref 66), (1, .ref 64), (0, .ref 63)], [.ref 63, .int 0], jzv181) : jS)) rfl ?_
  refine jl_s (S' := ((27, [(4, .int 0), (3, .ref 153), (2, .ref 66), (1, .ref 64), (0, .ref 63)], [.int 4, .int 0], jzv181) : jS)) rfl ?_
  refine jl_s (S' := ((28, [(4, .int 0), (3, .ref 153), (2, .ref 66), (1, .ref 64), (0, .ref 63)], [.int 4, .int 4, .int 0], jzv181) : jS)) rfl ?_
  refine jl_s (S' := ((29, [(4, .int 0), (3, .ref 153), (2, .ref 66), (1, .ref 64), (0, .ref 63)], [.int 0, .int 0], jzv181) : jS)) rfl ?_
  refine jl_s (S' := ((32, [(4, .int 0), (3, .ref 153), (2, .ref 66), (1, .ref 64), (0, .ref 63)], [], jzv181) : jS)) rfl ?_
  refine jl_s (S' := ((33, [(4, .int 0), (3, .ref 153), (2, .ref 66), (1, .ref 64), (0, .ref 63)], [.ref 63], jzv181) : jS)) rfl ?_
  refine jl_s (S' := ((35, [(4, .int 0), (3, .ref 153), (2, .ref 66), (1, .ref 64), (0, .ref 63)], [.int 0, .ref 63], jzv181) : jS)) rfl ?_
  refine jl_s (S' := ((36, [(4, .int 0), (3, .ref 153), (2, .ref 66), (1, .ref 64), (0, .ref 63)], [.int (xs 0)], jzv181) : jS)) rfl ?_
  refine jl_s (S' := ((38, [(4, .int 0), (3, .ref 153), (2, .ref 66), (1, .ref 64), (0, .ref 63)], [.int 31, .int (xs 0)], jzv181) : jS)) rfl ?_
  refine jl_s (S' := ((39, [(4, .int 0), (3, .ref 153), (2, .ref 66), (1, .ref 64), (0, .ref 63)], [.int ((xs 0) &&& 31)], jzv181) : jS)) rfl ?_
  rw [hop]
  refine jl_s (S' := ((505, [(4, .int 0), (3, .ref 153), (2, .ref 66), (1, .ref 64), (0, .ref 63)], [], jzv181) : jS)) rfl ?_
  refine jl_s (S' := ((506, [(4, .int 0), (3, .ref 153), (2, .ref 66), (1, .ref 64), (0, .ref 63)], [.ref 64], jzv181) : jS)) rfl ?_
  refine jl_s (S' := ((507, [(4, .int 0), (3, .ref 153), (2, .ref 66), (1, .ref 64), (0, .ref 63)], [.ref 63, .ref 64], jzv181) : jS)) rfl ?_
  refine jl_s (S' := ((509, [(4, .int 0), (3, .ref 153), (2, .ref 66), (1, .ref 64), (0, .ref 63)], [.int 0, .ref 63, .ref 64], jzv181) : jS)) rfl ?_
  refine jl_s (S' := ((510, [(4, .int 0), (3, .ref 153), (2, .ref 66), (1, .ref 64), (0, .ref 63)], [.int 1, .int 0, .ref 63, .ref 64], jzv181) : jS)) rfl ?_
  refine jl_s (S' := ((511, [(4, .int 0), (3, .ref 153), (2, .ref 66), (1, .ref 64), (0, .ref 63)], [.int 1, .ref 63, .ref 64], jzv181) : jS)) rfl ?_
  refine jl_s (S' := ((512, [(4, .int 0), (3, .ref 153), (2, .ref 66), (1, .ref 64), (0, .ref 63)], [.int (xs 1), .ref 64], jzv181) : jS)) rfl ?_
  refine jl_s (S' := ((513, [(4, .int 0), (3, .ref 153), (2, .ref 66), (1, .ref 64), (0, .ref 63)], [.ref 63, .int (xs 1), .ref 64], jzv181) : jS)) rfl ?_
  refine jl_s (S' := ((515, [(4, .int 0), (3, .ref 153), (2, .ref 66), (1, .ref 64), (0, .ref 63)], [.int 0, .ref 63, .int (xs 1), .ref 64], jzv181) : jS)) rfl ?_
  refine jl_s (S' := ((516, [(4, .int 0), (3, .ref 153), (2, .ref 66), (1, .ref 64), (0, .ref 63)], [.int 2, .int 0, .ref 63, .int (xs 1), .ref 64], jzv181) : jS)) rfl ?_
  refine jl_s (S' := ((517, [(4, .int 0), (3, .ref 153), (2, .ref 66), (1, .ref 64), (0, .ref 63)], [.int 2, .ref 63, .int (xs 1), .ref 64], jzv181) : jS)) rfl ?_
  refine jl_s (S' := ((518, [(4, .int 0), (3, .ref 153), (2, .ref 66), (1, .ref 64), (0, .ref 63)], [.int (xs 2), .int (xs 1), .ref 64], jzv181) : jS)) rfl ?_
  refine jl_s (S' := ((519, [(4, .int 0), (3, .ref 153), (2, .ref 66), (1, .ref 64), (0, .ref 63)], [.ref 153, .int (xs 2), .int (xs 1), .ref 64], jzv181) : jS)) rfl ?_
  refine jl_c (t := 6) (as := [.ref 64, .int (xs 1), .int (xs 2), .ref 153]) (V := jzv181) (r := (.inl (some (.int 1)), jzv186)) (S' := ((522, [(4, .int 0), (3, .ref 153), (2, .ref 66), (1, .ref 64), (0, .ref 63)], [.int 1], jzv186) : jS)) rfl (jzl85 xs hop h1) rfl ?_
  refine jl_s (S' := ((524, [(5, .int 1), (4, .int 0), (3, .ref 153), (2, .ref 66), (1, .ref 64), (0, .ref 63)], [], jzv186) : jS)) rfl ?_
  refine jl_s (S' := ((525, [(5, .int 1), (4, .int 0), (3, .ref 153), (2, .ref 66), (1, .ref 64), (0, .ref 63)], [.ref 66], jzv186) : jS)) rfl ?_
  refine jl_s (S' := ((526, [(5, .int 1), (4, .int 0), (3, .ref 153), (2, .ref 66), (1, .ref 64), (0, .ref 63)], [.ref 63, .ref 66], jzv186) : jS)) rfl ?_
  refine jl_s (S' := ((528, [(5, .int 1), (4, .int 0), (3, .ref 153), (2, .ref 66), (1, .ref 64), (0, .ref 63)], [.int 0, .ref 63, .ref 66], jzv186) : jS)) rfl ?_
  refine jl_s (S' := ((529, [(5, .int 1), (4, .int 0), (3, .ref 153), (2, .ref 66), (1, .ref 64), (0, .ref 63)], [.int 1, .int 0, .ref 63, .ref 66], jzv186) : jS)) rfl ?_
  refine jl_s (S' := ((530, [(5, .int 1), (4, .int 0), (3, .ref 153), (2, .ref 66), (1, .ref 64), (0, .ref 63)], [.int 1, .ref 63, .ref 66], jzv186) : jS)) rfl ?_
  refine jl_s (S' := ((531, [(5, .int 1), (4, .int 0), (3, .ref 153), (2, .ref 66), (1, .ref 64), (0, .ref 63)], [.int (xs 1), .ref 66], jzv186) : jS)) rfl ?_
  refine jl_s (S' := ((532, [(5, .int 1), (4, .int 0), (3, .ref 153), (2, .ref 66), (1, .ref 64), (0, .ref 63)], [.ref 63, .int (xs 1), .ref 66], jzv186) : jS)) rfl ?_
  refine jl_s (S' := ((534, [(5, .int 1), (4, .int 0), (3, .ref 153), (2, .ref 66), (1, .ref 64), (0, .ref 63)], [.int 0, .ref 63, .int (xs 1), .ref 66], jzv186) : jS)) rfl ?_
  refine jl_s (S' := ((535, [(5, .int 1), (4, .int 0), (3, .ref 153), (2, .ref 66), (1, .ref 64), (0, .ref 63)], [.int 2, .int 0, .ref 63, .int (xs 1), .ref 66], jzv186) : jS)) rfl ?_
  refine jl_s (S' := ((536, [(5, .int 1), (4, .int 0), (3, .ref 153), (2, .ref 66), (1, .ref 64), (0, .ref 63)], [.int 2, .ref 63, .int (xs 1), .ref 66], jzv186) : jS)) rfl ?_
  refine jl_s (S' := ((537, [(5, .int 1), (4, .int 0), (3, .ref 153), (2, .ref 66), (1, .ref 64), (0, .ref 63)], [.int (xs 2), .int (xs 1), .ref 66], jzv186) : jS)) rfl ?_
  refine jl_c (t := 407) (as := [.ref 66, .int (xs 1), .int (xs 2)]) (V := jzv186) (r := (.inl (some (.int 0)), jzv187)) (S' := ((540, [(5, .int 1), (4, .int 0), (3, .ref 153), (2, .ref 66), (1, .ref 64), (0, .ref 63)], [.int 0], jzv187) : jS)) rfl (jzl88 xs hop h1) rfl ?_
  refine jl_s (S' := ((542, [(6, .int 0), (5, .int 1), (4, .int 0), (3, .ref 153), (2, .ref 66), (1, .ref 64), (0, .ref 63)], [], jzv187) : jS)) rfl ?_
  refine jl_s (S' := ((543, [(6, .int 0), (5, .int 1), (4, .int 0), (3, .ref 153), (2, .ref 66), (1, .ref 64), (0, .ref 63)], [.ref 66], jzv187) : jS)) rfl ?_
  refine jl_c (t := 244) (as := [.ref 66]) (V := jzv187) (r := (.inl (some (.int 1)), jzv187)) (S' := ((546, [(6, .int 0), (5, .int 1), (4, .int 0), (3, .ref 153), (2, .ref 66), (1, .ref 64), (0, .ref 63)], [.int 1], jzv187) : jS)) rfl (jzl89 xs hop h1) rfl ?_
  refine jl_s (S' := ((548, [(6, .int 0), (5, .int 1), (4, .int 0), (3, .ref 153), (2, .ref 66), (1, .ref 64), (0, .ref 63)], [.int 1, .int 1], jzv187) : jS)) rfl ?_
  refine jl_s (S' := ((553, [(6, .int 0), (5, .int 1), (4, .int 0), (3, .ref 153), (2, .ref 66), (1, .ref 64), (0, .ref 63)], [], jzv187) : jS)) rfl ?_
  refine jl_s (S' := ((555, [(6, .int 0), (5, .int 1), (4, .int 0), (3, .ref 153), (2, .ref 66), (1, .ref 64), (0, .ref 63)], [.int 1], jzv187) : jS)) rfl ?_
  refine jl_s (S' := ((570, [(6, .int 0), (5, .int 1), (4, .int 0), (3, .ref 153), (2, .ref 66), (1, .ref 64), (0, .ref 63)], [], jzv187) : jS)) rfl ?_
  refine jl_s (S' := ((1193, [(6, .int 0), (5, .int 1), (4, .int 0), (3, .ref 153), (2, .ref 66), (1, .ref 64), (0, .ref 63)], [], jzv187) : jS)) rfl ?_
  refine jl_s (S' := ((1196, [(4, .int 4), (6, .int 0), (5, .int 1), (3, .ref 153), (2, .ref 66), (1, .ref 64), (0, .ref 63)], [], jzv187) : jS)) rfl ?_
  refine jl_s (S' := ((23, [(4, .int 4), (6, .int 0), (5, .int 1), (3, .ref 153), (2, .ref 66), (1, .ref 64), (0, .ref 63)], [], jzv187) : jS)) rfl ?_
  refine jl_s (S' := ((25, [(4, .int 4), (6, .int 0), (5, .int 1), (3, .ref 153), (2, .ref 66), (1, .ref 64), (0, .ref 63)], [.int 4], jzv187) : jS)) rfl ?_
  refine jl_s (S' := ((26, [(4, .int 4), (6, .int 0), (5, .int 1), (3, .ref 153), (2, .ref 66), (1, .ref 64), (0, .ref 63)], [.ref 63, .int 4], jzv187) : jS)) rfl ?_
  refine jl_s (S' := ((27, [(4, .int 4), (6, .int 0), (5, .int 1), (3, .ref 153), (2, .ref 66), (1, .ref 64), (0, .ref 63)], [.int 4, .int 4], jzv187) : jS)) rfl ?_
  refine jl_s (S' := ((28, [(4, .int 4), (6, .int 0), (5, .int 1), (3, .ref 153), (2, .ref 66), (1, .ref 64), (0, .ref 63)], [.int 4, .int 4, .int 4], jzv187) : jS)) rfl ?_
  refine jl_s (S' := ((29, [(4, .int 4), (6, .int 0), (5, .int 1), (3, .ref 153), (2, .ref 66), (1, .ref 64), (0, .ref 63)], [.int 0, .int 4], jzv187) : jS)) rfl ?_
  refine jl_s (S' := ((1199, [(4, .int 4), (6, .int 0), (5, .int 1), (3, .ref 153), (2, .ref 66), (1, .ref 64), (0, .ref 63)], [], jzv187) : jS)) rfl ?_
  refine jl_s (S' := ((1200, [(4, .int 4), (6, .int 0), (5, .int 1), (3, .ref 153), (2, .ref 66), (1, .ref 64), (0, .ref 63)], [.int 1], jzv187) : jS)) rfl ?_
  exact jl_r (r := (.inl (some (.int 1)), jzv187)) rfl
-- op 7 n: jzl90
set_option maxHeartbeats 4000000 in
set_option maxRecDepth 100000 in
theorem jzl91 (xs : Nat → Int32) (hop : xs 0 &&& 31 = 7) (h1 : Op.if_icmp.holds .lt (xs 1) 0 = false) (h2 : Op.if_icmp.holds .gt (xs 1) (-1) = true) : jRun ((4, xs) : jX) 2000 37 39 [.ref 64] jzv181 = some (.inr 154, jzv186) := by
  refine jr_run (e := jm39) rfl (Nat.le_of_ble_eq_true rfl) ?_
  refine jl_s (S' := ((1, [(0, .ref 64)], [.ref 64], jzv181) : jS)) rfl ?_
  refine jl_s (S' := ((4, [(0, .ref 64)], [.null], jzv181) : jS)) rfl ?_
  refine jl_s (S' := ((5, [(1, .null), (0, .ref 64)], [], jzv181) : jS)) rfl ?_
  refine jl_s (S' := ((6, [(1, .null), (0, .ref 64)], [.null], jzv181) : jS)) rfl ?_
  refine jl_s (S' := ((9, [(1, .null), (0, .ref 64)], [], jzv181) : jS)) rfl ?_
  exact jl_r (r := (.inr 154, jzv186)) rfl
set_option maxHeartbeats 4000000 in
set_option maxRecDepth 100000 in
theorem jzl92 (xs : Nat → Int32) (hop : xs 0 &&& 31 = 7) (h1 : Op.if_icmp.holds .lt (xs 1) 0 = false) (h2 : Op.if_icmp.holds .gt (xs 1) (-1) = true) : jRun ((4, xs) : jX) 2000 38 27 [.ref 64, .int (xs 1), .int (xs 2)] jzv181 = some (.inr 154, jzv186) := by
  refine jr_run (e := jm27) rfl (Nat.le_of_ble_eq_true rfl) ?_
  refine jl_s (S' := ((1, [(0, .ref 64), (1, .int (xs 1)), (2, .int (xs 2))], [.ref 64], jzv181) : jS)) rfl ?_
  exact jl_ct (t := 39) (as := [.ref 64]) (V := jzv181) (r := (.inr 154, jzv186)) (q := (.inr 154, jzv186)) rfl (jzl91 xs hop h1 h2) rfl
set_option maxHeartbeats 4000000 in
set_option maxRecDepth 100000 in
theorem jzl93 (xs : Nat → Int32) (hop : xs 0 &&& 31 = 7) (h1 : Op.if_icmp.holds .lt (xs 1) 0 = false) (h2 : Op.if_icmp.holds .gt (xs 1) (-1) = true) : jRun ((4, xs) : jX) 2000 39 6 [.ref 64, .int (xs 1), .int (xs 2), .ref 153] jzv181 = some (.inl (some (.int 1)), jzv186) := by
  refine jr_run (e := jm6) rfl (Nat.le_of_ble_eq_true rfl) ?_
  refine jl_s (S' := ((1, [(0, .ref 64), (1, .int (xs 1)), (2, .int (xs 2)), (3, .ref 153)], [.ref 153], jzv181) : jS)) rfl ?_
  refine jl_s (S' := ((2, [(0, .ref 64), (1, .int (xs 1)), (2, .int (xs 2)), (3, .ref 153)], [.int 0, .ref 153], jzv181) : jS)) rfl ?_
  refine jl_s (S' := ((3, [(0, .ref 64), (1, .int (xs 1)), (2, .int (xs 2)), (3, .ref 153)], [.ref 64, .int 0, .ref 153], jzv181) : jS)) rfl ?_
  refine jl_s (S' := ((4, [(0, .ref 64), (1, .int (xs 1)), (2, .int (xs 2)), (3, .ref 153)], [.int (xs 1), .ref 64, .int 0, .ref 153], jzv181) : jS)) rfl ?_
  refine jl_s (S' := ((5, [(0, .ref 64), (1, .int (xs 1)), (2, .int (xs 2)), (3, .ref 153)], [.int (xs 2), .int (xs 1), .ref 64, .int 0, .ref 153], jzv181) : jS)) rfl ?_
  refine jl_c (t := 27) (as := [.ref 64, .int (xs 1), .int (xs 2)]) (V := jzv181) (r := (.inr 154, jzv186)) (S' := ((13, [(0, .ref 64), (1, .int (xs 1)), (2, .int (xs 2)), (3, .ref 153)], [.ref 154], jzv186) : jS)) rfl (jzl92 xs hop h1 h2) rfl ?_
  refine jl_s (S' := ((15, [(4, .ref 154), (0, .ref 64), (1, .int (xs 1)), (2, .int (xs 2)), (3, .ref 153)], [], jzv186) : jS)) rfl ?_
  refine jl_s (S' := ((16, [(4, .ref 154), (0, .ref 64), (1, .int (xs 1)), (2, .int (xs 2)), (3, .ref 153)], [.int 1], jzv186) : jS)) rfl ?_
  exact jl_r (r := (.inl (some (.int 1)), jzv186)) rfl
set_option maxHeartbeats 4000000 in
set_option maxRecDepth 100000 in
theorem jzl94 (xs : Nat → Int32) (hop : xs 0 &&& 31 = 7) (h1 : Op.if_icmp.holds .lt (xs 1) 0 = false) (h2 : Op.if_icmp.holds .gt (xs 1) (-1) = true) : jRun ((4, xs) : jX) 2000 38 246 [.int (xs 1), .int 0, .int (-1)] jzv186 = some (.inl (some (.int 0)), jzv186) := by
  refine jr_run (e := jm246) rfl (Nat.le_of_ble_eq_true rfl) ?_
  refine jl_s (S' := ((1, [(0, .int (xs 1)), (1, .int 0), (2, .int (-1))], [.int (xs 1)], jzv186) : jS)) rfl ?_
  refine jl_s (S' := ((2, [(0, .int (xs 1)), (1, .int 0), (2, .int (-1))], [.int 0, .int (xs 1)], jzv186) : jS)) rfl ?_
  refine jl_icf (e := jm246) (o := 12) rfl (h1) ?_
  refine jl_s (S' := ((6, [(0, .int (xs 1)), (1, .int 0), (2, .int (-1))], [.int (xs 1)], jzv186) : jS)) rfl ?_
  refine jl_s (S' := ((7, [(0, .int (xs 1)), (1, .int 0), (2, .int (-1))], [.int (-1), .int (xs 1)], jzv186) : jS)) rfl ?_
  refine jl_ict (e := jm246) (o := 7) rfl (h2) (t := 14) rfl ?_
  refine jl_s (S' := ((15, [(0, .int (xs 1)), (1, .int 0), (2, .int (-1))], [.int 0], jzv186) : jS)) rfl ?_
  exact jl_r (r := (.inl (some (.int 0)), jzv186)) rfl
set_option maxHeartbeats 4000000 in
set_option maxRecDepth 100000 in
theorem jzl95 (xs : Nat → Int32) (hop : xs 0 &&& 31 = 7) (h1 : Op.if_icmp.holds .lt (xs 1) 0 = false) (h2 : Op.if_icmp.holds .gt (xs 1) (-1) = true) : jRun ((4, xs) : jX) 2000 38 245 [.ref 66, .int 1, .int 0, .int 0] jzv186 = some (.inl (some (.int 1)), jzv187) := by
  refine jr_run (e := jm245) rfl (Nat.le_of_ble_eq_true rfl) ?_
  refine jl_s (S' := ((1, [(0, .ref 66), (1, .int 1), (2, .int 0), (3, .int 0)], [.ref 66], jzv186) : jS)) rfl ?_
  refine jl_s (S' := ((2, [(0, .ref 66), (1, .int 1), (2, .int 0), (3, .int 0)], [.int 1, .ref 66], jzv186) : jS)) rfl ?_
  refine jl_s (S' := ((5, [(0, .ref 66), (1, .int 1), (2, .int 0), (3, .int 0)], [.ref 66], jzv186) : jS)) rfl ?_
  refine jl_s (S' := ((6, [(0, .ref 66), (1, .int 1), (2, .int 0), (3, .int 0)], [.int 1, .ref 66], jzv186) : jS)) rfl ?_
  refine jl_s (S' := ((26, [(0, .ref 66), (1, .int 1), (2, .int 0), (3, .int 0)], [.int 1, .ref 66], jzv186) : jS)) rfl ?_
  refine jl_s (S' := ((29, [(0, .ref 66), (1, .int 1), (2, .int 0), (3, .int 0)], [], jzv187) : jS)) rfl ?_
  refine jl_s (S' := ((30, [(0, .ref 66), (1, .int 1), (2, .int 0), (3, .int 0)], [.ref 66], jzv187) : jS)) rfl ?_
  refine jl_s (S' := ((33, [(0, .ref 66), (1, .int 1), (2, .int 0), (3, .int 0)], [.int 1], jzv187) : jS)) rfl ?_
  refine jl_s (S' := ((36, [(0, .ref 66), (1, .int 1), (2, .int 0), (3, .int 0)], [], jzv187) : jS)) rfl ?_
  refine jl_s (S' := ((37, [(0, .ref 66), (1, .int 1), (2, .int 0), (3, .int 0)], [.int 1], jzv187) : jS)) rfl ?_
  refine jl_s (S' := ((41, [(0, .ref 66), (1, .int 1), (2, .int 0), (3, .int 0)], [.int 1], jzv187) : jS)) rfl ?_
  exact jl_r (r := (.inl (some (.int 1)), jzv187)) rfl
set_option maxHeartbeats 4000000 in
set_option maxRecDepth 100000 in
theorem jzl96 (xs : Nat → Int32) (hop : xs 0 &&& 31 = 7) (h1 : Op.if_icmp.holds .lt (xs 1) 0 = false) (h2 : Op.if_icmp.holds .gt (xs 1) (-1) = true) : jRun ((4, xs) : jX) 2000 39 407 [.ref 66, .int (xs 1), .int (xs 2)] jzv186 = some (.inl (some (.int 0)), jzv187) := by
  refine jr_run (e := jm407) rfl (Nat.le_of_ble_eq_true rfl) ?_
  refine jl_s (S' := ((1, [(0, .ref 66), (1, .int (xs 1)), (2, .int (xs 2))], [.int (xs 1)], jzv186) : jS)) rfl ?_
  refine jl_s (S' := ((2, [(0, .ref 66), (1, .int (xs 1)), (2, .int (xs 2))], [.int 0, .int (xs 1)], jzv186) : jS)) rfl ?_
  refine jl_s (S' := ((3, [(0, .ref 66), (1, .int (xs 1)), (2, .int (xs 2))], [.ref 66, .int 0, .int (xs 1)], jzv186) : jS)) rfl ?_
  refine jl_s (S' := ((6, [(0, .ref 66), (1, .int (xs 1)), (2, .int (xs 2))], [.int 0, .int 0, .int (xs 1)], jzv186) : jS)) rfl ?_
  refine jl_s (S' := ((7, [(0, .ref 66), (1, .int (xs 1)), (2, .int (xs 2))], [.int 1, .int 0, .int 0, .int (xs 1)], jzv186) : jS)) rfl ?_
  refine jl_s (S' := ((8, [(0, .ref 66), (1, .int (xs 1)), (2, .int (xs 2))], [.int (-1), .int 0, .int (xs 1)], jzv186) : jS)) rfl ?_
  refine jl_c (t := 246) (as := [.int (xs 1), .int 0, .int (-1)]) (V := jzv186) (r := (.inl (some (.int 0)), jzv186)) (S' := ((11, [(0, .ref 66), (1, .int (xs 1)), (2, .int (xs 2))], [.int 0], jzv186) : jS)) rfl (jzl94 xs hop h1 h2) rfl ?_
  refine jl_s (S' := ((12, [(3, .int 0), (0, .ref 66), (1, .int (xs 1)), (2, .int (xs 2))], [], jzv186) : jS)) rfl ?_
  refine jl_s (S' := ((13, [(3, .int 0), (0, .ref 66), (1, .int (xs 1)), (2, .int (xs 2))], [.ref 66], jzv186) : jS)) rfl ?_
  refine jl_s (S' := ((14, [(3, .int 0), (0, .ref 66), (1, .int (xs 1)), (2, .int (xs 2))], [.ref 66, .ref 66], jzv186) : jS)) rfl ?_
  refine jl_s (S' := ((17, [(3, .int 0), (0, .ref 66), (1, .int (xs 1)), (2, .int (xs 2))], [.int 0, .ref 66], jzv186) : jS)) rfl ?_
  refine jl_s (S' := ((20, [(3, .int 0), (0, .ref 66), (1, .int (xs 1)), (2, .int (xs 2))], [.ref 66], jzv186) : jS)) rfl ?_
  refine jl_s (S' := ((21, [(3, .int 0), (0, .ref 66), (1, .int (xs 1)), (2, .int (xs 2))], [.int 1, .ref 66], jzv186) : jS)) rfl ?_
  refine jl_s (S' := ((25, [(3, .int 0), (0, .ref 66), (1, .int (xs 1)), (2, .int (xs 2))], [.int 1, .ref 66], jzv186) : jS)) rfl ?_
  refine jl_s (S' := ((26, [(3, .int 0), (0, .ref 66), (1, .int (xs 1)), (2, .int (xs 2))], [.ref 66, .int 1, .ref 66], jzv186) : jS)) rfl ?_
  refine jl_s (S' := ((29, [(3, .int 0), (0, .ref 66), (1, .int (xs 1)), (2, .int (xs 2))], [.int 0, .int 1, .ref 66], jzv186) : jS)) rfl ?_
  refine jl_s (S' := ((40, [(3, .int 0), (0, .ref 66), (1, .int (xs 1)), (2, .int (xs 2))], [.int 1, .ref 66], jzv186) : jS)) rfl ?_
  refine jl_s (S' := ((41, [(3, .int 0), (0, .ref 66), (1, .int (xs 1)), (2, .int (xs 2))], [.int 0, .int 1, .ref 66], jzv186) : jS)) rfl ?_
  refine jl_s (S' := ((42, [(3, .int 0), (0, .ref 66), (1, .int (xs 1)), (2, .int (xs 2))], [.ref 66, .int 0, .int 1, .ref 66], jzv186) : jS)) rfl ?_
  refine jl_s (S' := ((45, [(3, .int 0), (0, .ref 66), (1, .int (xs 1)), (2, .int (xs 2))], [.int 0, .int 0, .int 1, .ref 66], jzv186) : jS)) rfl ?_
  refine jl_s (S' := ((65, [(3, .int 0), (0, .ref 66), (1, .int (xs 1)), (2, .int (xs 2))], [.int 0, .int 1, .ref 66], jzv186) : jS)) rfl ?_
  refine jl_s (S' := ((66, [(3, .int 0), (0, .ref 66), (1, .int (xs 1)), (2, .int (xs 2))], [.int 0, .int 0, .int 1, .ref 66], jzv186) : jS)) rfl ?_
  refine jl_c (t := 245) (as := [.ref 66, .int 1, .int 0, .int 0]) (V := jzv186) (r := (.inl (some (.int 1)), jzv187)) (S' := ((69, [(3, .int 0), (0, .ref 66), (1, .int (xs 1)), (2, .int (xs 2))], [.int 1], jzv187) : jS)) rfl (jzl95 xs hop h1 h2) rfl ?_
  refine jl_s (S' := ((72, [(3, .int 0), (0, .ref 66), (1, .int (xs 1)), (2, .int (xs 2))], [], jzv187) : jS)) rfl ?_
  refine jl_s (S' := ((73, [(3, .int 0), (0, .ref 66), (1, .int (xs 1)), (2, .int (xs 2))], [.int 0], jzv187) : jS)) rfl ?_
  exact jl_r (r := (.inl (some (.int 0)), jzv187)) rfl
set_option maxHeartbeats 4000000 in
set_option maxRecDepth 100000 in
theorem jzl97 (xs : Nat → Int32) (hop : xs 0 &&& 31 = 7) (h1 : Op.if_icmp.holds .lt (xs 1) 0 = false) (h2 : Op.if_icmp.holds .gt (xs 1) (-1) = true) : jRun ((4, xs) : jX) 2000 39 244 [.ref 66] jzv187 = some (.inl (some (.int 1)), jzv187) := by
  refine jr_run (e := jm244) rfl (Nat.le_of_ble_eq_true rfl) ?_
  refine jl_s (S' := ((1, [(0, .ref 66)], [.ref 66], jzv187) : jS)) rfl ?_
  refine jl_s (S' := ((4, [(0, .ref 66)], [.int 1], jzv187) : jS)) rfl ?_
  exact jl_r (r := (.inl (some (.int 1)), jzv187)) rfl
set_option maxHeartbeats 4000000 in
set_option maxRecDepth 100000 in
theorem jzl98 (xs : Nat → Int32) (hop : xs 0 &&& 31 = 7) (h1 : Op.if_icmp.holds .lt (xs 1) 0 = false) (h2 : Op.if_icmp.holds .gt (xs 1) (-1) = true) : jLoop (jRun ((4, xs) : jX) 2000 39) ((4, xs) : jX) jm18 1000 ((23, [(4, .int 0), (3, .ref 153), (2, .ref 66), (1, .ref 64), (0, .ref 63)], [], jzv181) : jS) = some (.inl (some (.int 1)), jzv187) := by
  refine jl_s (S' := ((25, [(4, .int 0), (3, .ref 153), (2, .ref 66), (1, .ref 64), (0, .ref 63)], [.int 0], jzv181) : jS)) rfl ?_
  refine jl_s (S' := ((26, [(4, .int 0), (3, .ref 153), (2, .ref 66), (1, .ref 64), (0, .ref 63)], [.ref 63, .int 0], jzv181) : jS)) rfl ?_
  refine jl_s (S' := ((27, [(4, .int 0), (3, .ref 153), (2, .ref 66), (1, .ref 64), (0, .ref 63)], [.int 4, .int 0], jzv181) : jS)) rfl ?_
  refine jl_s (S' := ((28, [(4, .int 0), (3, .ref 153), (2, .ref 66), (1, .ref 64), (0, .ref 63)], [.int 4, .int 4, .int 0], jzv181) : jS)) rfl ?_
  refine jl_s (S' := ((29, [(4, .int 0), (3, .ref 153), (2, .ref 66), (1, .ref 64), (0, .ref 63)], [.int 0, .int 0], jzv181) : jS)) rfl ?_
  refine jl_s (S' := ((32, [(4, .int 0), (3, .ref 153), (2, .ref 66), (1, .ref 64), (0, .ref 63)], [], jzv181) : jS)) rfl ?_
  refine jl_s (S' := ((33, [(4, .int 0), (3, .ref 153), (2, .ref 66), (1, .ref 64), (0, .ref 63)], [.ref 63], jzv181) : jS)) rfl ?_
  refine jl_s (S' := ((35, [(4, .int 0), (3, .ref 153), (2, .ref 66), (1, .ref 64), (0, .ref 63)], [.int 0, .ref 63], jzv181) : jS)) rfl ?_
  refine jl_s (S' := ((36, [(4, .int 0), (3, .ref 153), (2, .ref 66), (1, .ref 64), (0, .ref 63)], [.int (xs 0)], jzv181) : jS)) rfl ?_
  refine jl_s (S' := ((38, [(4, .int 0), (3, .ref 153), (2, .ref 66), (1, .ref 64), (0, .ref 63)], [.int 31, .int (xs 0)], jzv181) : jS)) rfl ?_
  refine jl_s (S' := ((39, [(4, .int 0), (3, .ref 153), (2, .ref 66), (1, .ref 64), (0, .ref 63)], [.int ((xs 0) &&& 31)], jzv181) : jS)) rfl ?_
  rw [hop]
  refine jl_s (S' := ((505, [(4, .int 0), (3, .ref 153), (2, .ref 66), (1, .ref 64), (0, .ref 63)], [], jzv181) : jS)) rfl ?_
  refine jl_s (S' := ((506, [(4, .int 0), (3, .ref 153), (2, .ref 66), (1, .ref 64), (0, .ref 63)], [.ref 64], jzv181) : jS)) rfl ?_
  refine jl_s (S' := ((507, [(4, .int 0), (3, .ref 153), (2, .ref 66), (1, .ref 64), (0, .ref 63)], [.ref 63, .ref 64], jzv181) : jS)) rfl ?_
  refine jl_s (S' := ((509, [(4, .int 0), (3, .ref 153), (2, .ref 66), (1, .ref 64), (0, .ref 63)], [.int 0, .ref 63, .ref 64], jzv181) : jS)) rfl ?_
  refine jl_s (S' := ((510, [(4, .int 0), (3, .ref 153), (2, .ref 66), (1, .ref 64), (0, .ref 63)], [.int 1, .int 0, .ref 63, .ref 64], jzv181) : jS)) rfl ?_
  refine jl_s (S' := ((511, [(4, .int 0), (3, .ref 153), (2, .ref 66), (1, .ref 64), (0, .ref 63)], [.int 1, .ref 63, .ref 64], jzv181) : jS)) rfl ?_
  refine jl_s (S' := ((512, [(4, .int 0), (3, .ref 153), (2, .ref 66), (1, .ref 64), (0, .ref 63)], [.int (xs 1), .ref 64], jzv181) : jS)) rfl ?_
  refine jl_s (S' := ((513, [(4, .int 0), (3, .ref 153), (2, .ref 66), (1, .ref 64), (0, .ref 63)], [.ref 63, .int (xs 1), .ref 64], jzv181) : jS)) rfl ?_
  refine jl_s (S' := ((515, [(4, .int 0), (3, .ref 153), (2, .ref 66), (1, .ref 64), (0, .ref 63)], [.int 0, .ref 63, .int (xs 1), .ref 64], jzv181) : jS)) rfl ?_
  refine jl_s (S' := ((516, [(4, .int 0), (3, .ref 153), (2, .ref 66), (1, .ref 64), (0, .ref 63)], [.int 2, .int 0, .ref 63, .int (xs 1), .ref 64], jzv181) : jS)) rfl ?_
  refine jl_s (S' := ((517, [(4, .int 0), (3, .ref 153), (2, .ref 66), (1, .ref 64), (0, .ref 63)], [.int 2, .ref 63, .int (xs 1), .ref 64], jzv181) : jS)) rfl ?_
  refine jl_s (S' := ((518, [(4, .int 0), (3, .ref 153), (2, .ref 66), (1, .ref 64), (0, .ref 63)], [.int (xs 2), .int (xs 1), .ref 64], jzv181) : jS)) rfl ?_
  refine jl_s (S' := ((519, [(4, .int 0), (3, .ref 153), (2, .ref 66), (1, .ref 64), (0, .ref 63)], [.ref 153, .int (xs 2), .int (xs 1), .ref 64], jzv181) : jS)) rfl ?_
  refine jl_c (t := 6) (as := [.ref 64, .int (xs 1), .int (xs 2), .ref 153]) (V := jzv181) (r := (.inl (some (.int 1)), jzv186)) (S' := ((522, [(4, .int 0), (3, .ref 153), (2, .ref 66), (1, .ref 64), (0, .ref 63)], [.int 1], jzv186) : jS)) rfl (jzl93 xs hop h1 h2) rfl ?_
  refine jl_s (S' := ((524, [(5, .int 1), (4, .int 0), (3, .ref 153), (2, .ref 66), (1, .ref 64), (0, .ref 63)], [], jzv186) : jS)) rfl ?_
  refine jl_s (S' := ((525, [(5, .int 1), (4, .int 0), (3, .ref 153), (2, .ref 66), (1, .ref 64), (0, .ref 63)], [.ref 66], jzv186) : jS)) rfl ?_
  refine jl_s (S' := ((526, [(5, .int 1), (4, .int 0), (3, .ref 153), (2, .ref 66), (1, .ref 64), (0, .ref 63)], [.ref 63, .ref 66], jzv186) : jS)) rfl ?_
  refine jl_s (S' := ((528, [(5, .int 1), (4, .int 0), (3, .ref 153), (2, .ref 66), (1, .ref 64), (0, .ref 63)], [.int 0, .ref 63, .ref 66], jzv186) : jS)) rfl ?_
  refine jl_s (S' := ((529, [(5, .int 1), (4, .int 0), (3, .ref 153), (2, .ref 66), (1, .ref 64), (0, .ref 63)], [.int 1, .int 0, .ref 63, .ref 66], jzv186) : jS)) rfl ?_
  refine jl_s (S' := ((530, [(5, .int 1), (4, .int 0), (3, .ref 153), (2, .ref 66), (1, .ref 64), (0, .ref 63)], [.int 1, .ref 63, .ref 66], jzv186) : jS)) rfl ?_
  refine jl_s (S' := ((531, [(5, .int 1), (4, .int 0), (3, .ref 153), (2, .ref 66), (1, .ref 64), (0, .ref 63)], [.int (xs 1), .ref 66], jzv186) : jS)) rfl ?_
  refine jl_s (S' := ((532, [(5, .int 1), (4, .int 0), (3, .ref 153), (2, .ref 66), (1, .ref 64), (0, .ref 63)], [.ref 63, .int (xs 1), .ref 66], jzv186) : jS)) rfl ?_
  refine jl_s (S' := ((534, [(5, .int 1), (4, .int 0), (3, .ref 153), (2, .ref 66), (1, .ref 64), (0, .ref 63)], [.int 0, .ref 63, .int (xs 1), .ref 66], jzv186) : jS)) rfl ?_
  refine jl_s (S' := ((535, [(5, .int 1), (4, .int 0), (3, .ref 153), (2, .ref 66), (1, .ref 64), (0, .ref 63)], [.int 2, .int 0, .ref 63, .int (xs 1), .ref 66], jzv186) : jS)) rfl ?_
  refine jl_s (S' := ((536, [(5, .int 1), (4, .int 0), (3, .ref 153), (2, .ref 66), (1, .ref 64), (0, .ref 63)], [.int 2, .ref 63, .int (xs 1), .ref 66], jzv186) : jS)) rfl ?_
  refine jl_s (S' := ((537, [(5, .int 1), (4, .int 0), (3, .ref 153), (2, .ref 66), (1, .ref 64), (0, .ref 63)], [.int (xs 2), .int (xs 1), .ref 66], jzv186) : jS)) rfl ?_
  refine jl_c (t := 407) (as := [.ref 66, .int (xs 1), .int (xs 2)]) (V := jzv186) (r := (.inl (some (.int 0)), jzv187)) (S' := ((540, [(5, .int 1), (4, .int 0), (3, .ref 153), (2, .ref 66), (1, .ref 64), (0, .ref 63)], [.int 0], jzv187) : jS)) rfl (jzl96 xs hop h1 h2) rfl ?_
  refine jl_s (S' := ((542, [(6, .int 0), (5, .int 1), (4, .int 0), (3, .ref 153), (2, .ref 66), (1, .ref 64), (0, .ref 63)], [], jzv187) : jS)) rfl ?_
  refine jl_s (S' := ((543, [(6, .int 0), (5, .int 1), (4, .int 0), (3, .ref 153), (2, .ref 66), (1, .ref 64), (0, .ref 63)], [.ref 66], jzv187) : jS)) rfl ?_
  refine jl_c (t := 244) (as := [.ref 66]) (V := jzv187) (r := (.inl (some (.int 1)), jzv187)) (S' := ((546, [(6, .int 0), (5, .int 1), (4, .int 0), (3, .ref 153), (2, .ref 66), (1, .ref 64), (0, .ref 63)], [.int 1], jzv187) : jS)) rfl (jzl97 xs hop h1 h2) rfl ?_
  refine jl_s (S' := ((548, [(6, .int 0), (5, .int 1), (4, .int 0), (3, .ref 153), (2, .ref 66), (1, .ref 64), (0, .ref 63)], [.int 1, .int 1], jzv187) : jS)) rfl ?_
  refine jl_s (S' := ((553, [(6, .int 0), (5, .int 1), (4, .int 0), (3, .ref 153), (2, .ref 66), (1, .ref 64), (0, .ref 63)], [], jzv187) : jS)) rfl ?_
  refine jl_s (S' := ((555, [(6, .int 0), (5, .int 1), (4, .int 0), (3, .ref 153), (2, .ref 66), (1, .ref 64), (0, .ref 63)], [.int 1], jzv187) : jS)) rfl ?_
  refine jl_s (S' := ((570, [(6, .int 0), (5, .int 1), (4, .int 0), (3, .ref 153), (2, .ref 66), (1, .ref 64), (0, .ref 63)], [], jzv187) : jS)) rfl ?_
  refine jl_s (S' := ((1193, [(6, .int 0), (5, .int 1), (4, .int 0), (3, .ref 153), (2, .ref 66), (1, .ref 64), (0, .ref 63)], [], jzv187) : jS)) rfl ?_
  refine jl_s (S' := ((1196, [(4, .int 4), (6, .int 0), (5, .int 1), (3, .ref 153), (2, .ref 66), (1, .ref 64), (0, .ref 63)], [], jzv187) : jS)) rfl ?_
  refine jl_s (S' := ((23, [(4, .int 4), (6, .int 0), (5, .int 1), (3, .ref 153), (2, .ref 66), (1, .ref 64), (0, .ref 63)], [], jzv187) : jS)) rfl ?_
  refine jl_s (S' := ((25, [(4, .int 4), (6, .int 0), (5, .int 1), (3, .ref 153), (2, .ref 66), (1, .ref 64), (0, .ref 63)], [.int 4], jzv187) : jS)) rfl ?_
  refine jl_s (S' := ((26, [(4, .int 4), (6, .int 0), (5, .int 1), (3, .ref 153), (2, .ref 66), (1, .ref 64), (0, .ref 63)], [.ref 63, .int 4], jzv187) : jS)) rfl ?_
  refine jl_s (S' := ((27, [(4, .int 4), (6, .int 0), (5, .int 1), (3, .ref 153), (2, .ref 66), (1, .ref 64), (0, .ref 63)], [.int 4, .int 4], jzv187) : jS)) rfl ?_
  refine jl_s (S' := ((28, [(4, .int 4), (6, .int 0), (5, .int 1), (3, .ref 153), (2, .ref 66), (1, .ref 64), (0, .ref 63)], [.int 4, .int 4, .int 4], jzv187) : jS)) rfl ?_
  refine jl_s (S' := ((29, [(4, .int 4), (6, .int 0), (5, .int 1), (3, .ref 153), (2, .ref 66), (1, .ref 64), (0, .ref 63)], [.int 0, .int 4], jzv187) : jS)) rfl ?_
  refine jl_s (S' := ((1199, [(4, .int 4), (6, .int 0), (5, .int 1), (3, .ref 153), (2, .ref 66), (1, .ref 64), (0, .ref 63)], [], jzv187) : jS)) rfl ?_
  refine jl_s (S' := ((1200, [(4, .int 4), (6, .int 0), (5, .int 1), (3, .ref 153), (2, .ref 66), (1, .ref 64), (0, .ref 63)], [.int 1], jzv187) : jS)) rfl ?_
  exact jl_r (r := (.inl (some (.int 1)), jzv187)) rfl
-- op 7 p: jzl98
set_option maxHeartbeats 4000000 in
set_option maxRecDepth 100000 in
theorem jzl99 (xs : Nat → Int32) (hop : xs 0 &&& 31 = 8)  : jRun ((4, xs) : jX) 2000 37 39 [.ref 64] jzv181 = some (.inr 154, jzv186) := by
  refine jr_run (e := jm39) rfl (Nat.le_of_ble_eq_true rfl) ?_
  refine jl_s (S' := ((1, [(0, .ref 64)], [.ref 64], jzv181) : jS)) rfl ?_
  refine jl_s (S' := ((4, [(0, .ref 64)], [.null], jzv181) : jS)) rfl ?_
  refine jl_s (S' := ((5, [(1, .null), (0, .ref 64)], [], jzv181) : jS)) rfl ?_
  refine jl_s (S' := ((6, [(1, .null), (0, .ref 64)], [.null], jzv181) : jS)) rfl ?_
  refine jl_s (S' := ((9, [(1, .null), (0, .ref 64)], [], jzv181) : jS)) rfl ?_
  exact jl_r (r := (.inr 154, jzv186)) rfl
set_option maxHeartbeats 4000000 in
set_option maxRecDepth 100000 in
theorem jzl100 (xs : Nat → Int32) (hop : xs 0 &&& 31 = 8)  : jRun ((4, xs) : jX) 2000 38 28 [.ref 64] jzv181 = some (.inr 154, jzv186) := by
  refine jr_run (e := jm28) rfl (Nat.le_of_ble_eq_true rfl) ?_
  refine jl_s (S' := ((1, [(0, .ref 64)], [.ref 64], jzv181) : jS)) rfl ?_
  exact jl_ct (t := 39) (as := [.ref 64]) (V := jzv181) (r := (.inr 154, jzv186)) (q := (.inr 154, jzv186)) rfl (jzl99 xs hop ) rfl
set_option maxHeartbeats 4000000 in
set_option maxRecDepth 100000 in
theorem jzl101 (xs : Nat → Int32) (hop : xs 0 &&& 31 = 8)  : jRun ((4, xs) : jX) 2000 39 7 [.ref 64] jzv181 = some (.inl (some (.int 1)), jzv186) := by
  refine jr_run (e := jm7) rfl (Nat.le_of_ble_eq_true rfl) ?_
  refine jl_s (S' := ((1, [(0, .ref 64)], [.ref 64], jzv181) : jS)) rfl ?_
  refine jl_c (t := 28) (as := [.ref 64]) (V := jzv181) (r := (.inr 154, jzv186)) (S' := ((7, [(0, .ref 64)], [.ref 154], jzv186) : jS)) rfl (jzl100 xs hop ) rfl ?_
  refine jl_s (S' := ((8, [(1, .ref 154), (0, .ref 64)], [], jzv186) : jS)) rfl ?_
  refine jl_s (S' := ((9, [(1, .ref 154), (0, .ref 64)], [.int 1], jzv186) : jS)) rfl ?_
  exact jl_r (r := (.inl (some (.int 1)), jzv186)) rfl
set_option maxHeartbeats 4000000 in
set_option maxRecDepth 100000 in
theorem jzl102 (xs : Nat → Int32) (hop : xs 0 &&& 31 = 8)  : jRun ((4, xs) : jX) 2000 38 245 [.ref 66, .int 1, .int 0, .int 0] jzv186 = some (.inl (some (.int 1)), jzv187) := by
  refine jr_run (e := jm245) rfl (Nat.le_of_ble_eq_true rfl) ?_
  refine jl_s (S' := ((1, [(0, .ref 66), (1, .int 1), (2, .int 0), (3, .int 0)], [.ref 66], jzv186) : jS)) rfl ?_
  refine jl_s (S' := ((2, [(0, .ref 66), (1, .int 1), (2, .int 0), (3, .int 0)], [.int 1, .ref 66], jzv186) : jS)) rfl ?_
  refine jl_s (S' := ((5, [(0, .ref 66), (1, .int 1), (2, .int 0), (3, .int 0)], [.ref 66], jzv186) : jS)) rfl ?_
  refine jl_s (S' := ((6, [(0, .ref 66), (1, .int 1), (2, .int 0), (3, .int 0)], [.int 1, .ref 66], jzv186) : jS)) rfl ?_
  refine jl_s (S' := ((26, [(0, .ref 66), (1, .int 1), (2, .int 0), (3, .int 0)], [.int 1, .ref 66], jzv186) : jS)) rfl ?_
  refine jl_s (S' := ((29, [(0, .ref 66), (1, .int 1), (2, .int 0), (3, .int 0)], [], jzv187) : jS)) rfl ?_
  refine jl_s (S' := ((30, [(0, .ref 66), (1, .int 1), (2, .int 0), (3, .int 0)], [.ref 66], jzv187) : jS)) rfl ?_
  refine jl_s (S' := ((33, [(0, .ref 66), (1, .int 1), (2, .int 0), (3, .int 0)], [.int 1], jzv187) : jS)) rfl ?_
  refine jl_s (S' := ((36, [(0, .ref 66), (1, .int 1), (2, .int 0), (3, .int 0)], [], jzv187) : jS)) rfl ?_
  refine jl_s (S' := ((37, [(0, .ref 66), (1, .int 1), (2, .int 0), (3, .int 0)], [.int 1], jzv187) : jS)) rfl ?_
  refine jl_s (S' := ((41, [(0, .ref 66), (1, .int 1), (2, .int 0), (3, .int 0)], [.int 1], jzv187) : jS)) rfl ?_
  exact jl_r (r := (.inl (some (.int 1)), jzv187)) rfl
set_option maxHeartbeats 4000000 in
set_option maxRecDepth 100000 in
theorem jzl103 (xs : Nat → Int32) (hop : xs 0 &&& 31 = 8)  : jRun ((4, xs) : jX) 2000 39 396 [.ref 66] jzv186 = some (.inl none, jzv187) := by
  refine jr_run (e := jm396) rfl (Nat.le_of_ble_eq_true rfl) ?_
  refine jl_s (S' := ((1, [(0, .ref 66)], [.ref 66], jzv186) : jS)) rfl ?_
  refine jl_s (S' := ((2, [(0, .ref 66)], [.ref 66, .ref 66], jzv186) : jS)) rfl ?_
  refine jl_s (S' := ((5, [(0, .ref 66)], [.int 0, .ref 66], jzv186) : jS)) rfl ?_
  refine jl_s (S' := ((8, [(0, .ref 66)], [.ref 66], jzv186) : jS)) rfl ?_
  refine jl_s (S' := ((9, [(0, .ref 66)], [.int 1, .ref 66], jzv186) : jS)) rfl ?_
  refine jl_s (S' := ((13, [(0, .ref 66)], [.int 1, .ref 66], jzv186) : jS)) rfl ?_
  refine jl_s (S' := ((14, [(0, .ref 66)], [.int 0, .int 1, .ref 66], jzv186) : jS)) rfl ?_
  refine jl_s (S' := ((15, [(0, .ref 66)], [.int 0, .int 0, .int 1, .ref 66], jzv186) : jS)) rfl ?_
  refine jl_c (t := 245) (as := [.ref 66, .int 1, .int 0, .int 0]) (V := jzv186) (r := (.inl (some (.int 1)), jzv187)) (S' := ((18, [(0, .ref 66)], [.int 1], jzv187) : jS)) rfl (jzl102 xs hop ) rfl ?_
  refine jl_s (S' := ((25, [(0, .ref 66)], [], jzv187) : jS)) rfl ?_
  exact jl_r (r := (.inl none, jzv187)) rfl
set_option maxHeartbeats 4000000 in
set_option maxRecDepth 100000 in
theorem jzl104 (xs : Nat → Int32) (hop : xs 0 &&& 31 = 8)  : jRun ((4, xs) : jX) 2000 39 244 [.ref 66] jzv187 = some (.inl (some (.int 1)), jzv187) := by
  refine jr_run (e := jm244) rfl (Nat.le_of_ble_eq_true rfl) ?_
  refine jl_s (S' := ((1, [(0, .ref 66)], [.ref 66], jzv187) : jS)) rfl ?_
  refine jl_s (S' := ((4, [(0, .ref 66)], [.int 1], jzv187) : jS)) rfl ?_
  exact jl_r (r := (.inl (some (.int 1)), jzv187)) rfl
set_option maxHeartbeats 4000000 in
set_option maxRecDepth 100000 in
theorem jzl105 (xs : Nat → Int32) (hop : xs 0 &&& 31 = 8)  : jLoop (jRun ((4, xs) : jX) 2000 39) ((4, xs) : jX) jm18 1000 ((23, [(4, .int 0), (3, .ref 153), (2, .ref 66), (1, .ref 64), (0, .ref 63)], [], jzv181) : jS) = some (.inl (some (.int 1)), jzv187) := by
  refine jl_s (S' := ((25, [(4, .int 0), (3, .ref 153), (2, .ref 66), (1, .ref 64), (0, .ref 63)], [.int 0], jzv181) : jS)) rfl ?_
  refine jl_s (S' := ((26, [(4, .int 0), (3, .ref 153), (2, .ref 66), (1, .ref 64), (0, .ref 63)], [.ref 63, .int 0], jzv181) : jS)) rfl ?_
  refine jl_s (S' := ((27, [(4, .int 0), (3, .ref 153), (2, .ref 66), (1, .ref 64), (0, .ref 63)], [.int 4, .int 0], jzv181) : jS)) rfl ?_
  refine jl_s (S' := ((28, [(4, .int 0), (3, .ref 153), (2, .ref 66), (1, .ref 64), (0, .ref 63)], [.int 4, .int 4, .int 0], jzv181) : jS)) rfl ?_
  refine jl_s (S' := ((29, [(4, .int 0), (3, .ref 153), (2, .ref 66), (1, .ref 64), (0, .ref 63)], [.int 0, .int 0], jzv181) : jS)) rfl ?_
  refine jl_s (S' := ((32, [(4, .int 0), (3, .ref 153), (2, .ref 66), (1, .ref 64), (0, .ref 63)], [], jzv181) : jS)) rfl ?_
  refine jl_s (S' := ((33, [(4, .int 0), (3, .ref 153), (2, .ref 66), (1, .ref 64), (0, .ref 63)], [.ref 63], jzv181) : jS)) rfl ?_
  refine jl_s (S' := ((35, [(4, .int 0), (3, .ref 153), (2, .ref 66), (1, .ref 64), (0, .ref 63)], [.int 0, .ref 63], jzv181) : jS)) rfl ?_
  refine jl_s (S' := ((36, [(4, .int 0), (3, .ref 153), (2, .ref 66), (1, .ref 64), (0, .ref 63)], [.int (xs 0)], jzv181) : jS)) rfl ?_
  refine jl_s (S' := ((38, [(4, .int 0), (3, .ref 153), (2, .ref 66), (1, .ref 64), (0, .ref 63)], [.int 31, .int (xs 0)], jzv181) : jS)) rfl ?_
  refine jl_s (S' := ((39, [(4, .int 0), (3, .ref 153), (2, .ref 66), (1, .ref 64), (0, .ref 63)], [.int ((xs 0) &&& 31)], jzv181) : jS)) rfl ?_
  rw [hop]
  refine jl_s (S' := ((573, [(4, .int 0), (3, .ref 153), (2, .ref 66), (1, .ref 64), (0, .ref 63)], [], jzv181) : jS)) rfl ?_
  refine jl_s (S' := ((574, [(4, .int 0), (3, .ref 153), (2, .ref 66), (1, .ref 64), (0, .ref 63)], [.ref 64], jzv181) : jS)) rfl ?_
  refine jl_c (t := 7) (as := [.ref 64]) (V := jzv181) (r := (.inl (some (.int 1)), jzv186)) (S' := ((577, [(4, .int 0), (3, .ref 153), (2, .ref 66), (1, .ref 64), (0, .ref 63)], [.int 1], jzv186) : jS)) rfl (jzl101 xs hop ) rfl ?_
  refine jl_s (S' := ((579, [(5, .int 1), (4, .int 0), (3, .ref 153), (2, .ref 66), (1, .ref 64), (0, .ref 63)], [], jzv186) : jS)) rfl ?_
  refine jl_s (S' := ((580, [(5, .int 1), (4, .int 0), (3, .ref 153), (2, .ref 66), (1, .ref 64), (0, .ref 63)], [.ref 66], jzv186) : jS)) rfl ?_
  refine jl_c (t := 396) (as := [.ref 66]) (V := jzv186) (r := (.inl none, jzv187)) (S' := ((583, [(5, .int 1), (4, .int 0), (3, .ref 153), (2, .ref 66), (1, .ref 64), (0, .ref 63)], [], jzv187) : jS)) rfl (jzl103 xs hop ) rfl ?_
  refine jl_s (S' := ((584, [(5, .int 1), (4, .int 0), (3, .ref 153), (2, .ref 66), (1, .ref 64), (0, .ref 63)], [.ref 66], jzv187) : jS)) rfl ?_
  refine jl_c (t := 244) (as := [.ref 66]) (V := jzv187) (r := (.inl (some (.int 1)), jzv187)) (S' := ((587, [(5, .int 1), (4, .int 0), (3, .ref 153), (2, .ref 66), (1, .ref 64), (0, .ref 63)], [.int 1], jzv187) : jS)) rfl (jzl104 xs hop ) rfl ?_
  refine jl_s (S' := ((589, [(5, .int 1), (4, .int 0), (3, .ref 153), (2, .ref 66), (1, .ref 64), (0, .ref 63)], [.int 1, .int 1], jzv187) : jS)) rfl ?_
  refine jl_s (S' := ((594, [(5, .int 1), (4, .int 0), (3, .ref 153), (2, .ref 66), (1, .ref 64), (0, .ref 63)], [], jzv187) : jS)) rfl ?_
  refine jl_s (S' := ((1193, [(5, .int 1), (4, .int 0), (3, .ref 153), (2, .ref 66), (1, .ref 64), (0, .ref 63)], [], jzv187) : jS)) rfl ?_
  refine jl_s (S' := ((1196, [(4, .int 4), (5, .int 1), (3, .ref 153), (2, .ref 66), (1, .ref 64), (0, .ref 63)], [], jzv187) : jS)) rfl ?_
  refine jl_s (S' := ((23, [(4, .int 4), (5, .int 1), (3, .ref 153), (2, .ref 66), (1, .ref 64), (0, .ref 63)], [], jzv187) : jS)) rfl ?_
  refine jl_s (S' := ((25, [(4, .int 4), (5, .int 1), (3, .ref 153), (2, .ref 66), (1, .ref 64), (0, .ref 63)], [.int 4], jzv187) : jS)) rfl ?_
  refine jl_s (S' := ((26, [(4, .int 4), (5, .int 1), (3, .ref 153), (2, .ref 66), (1, .ref 64), (0, .ref 63)], [.ref 63, .int 4], jzv187) : jS)) rfl ?_
  refine jl_s (S' := ((27, [(4, .int 4), (5, .int 1), (3, .ref 153), (2, .ref 66), (1, .ref 64), (0, .ref 63)], [.int 4, .int 4], jzv187) : jS)) rfl ?_
  refine jl_s (S' := ((28, [(4, .int 4), (5, .int 1), (3, .ref 153), (2, .ref 66), (1, .ref 64), (0, .ref 63)], [.int 4, .int 4, .int 4], jzv187) : jS)) rfl ?_
  refine jl_s (S' := ((29, [(4, .int 4), (5, .int 1), (3, .ref 153), (2, .ref 66), (1, .ref 64), (0, .ref 63)], [.int 0, .int 4], jzv187) : jS)) rfl ?_
  refine jl_s (S' := ((1199, [(4, .int 4), (5, .int 1), (3, .ref 153), (2, .ref 66), (1, .ref 64), (0, .ref 63)], [], jzv187) : jS)) rfl ?_
  refine jl_s (S' := ((1200, [(4, .int 4), (5, .int 1), (3, .ref 153), (2, .ref 66), (1, .ref 64), (0, .ref 63)], [.int 1], jzv187) : jS)) rfl ?_
  exact jl_r (r := (.inl (some (.int 1)), jzv187)) rfl
-- op 8 : jzl105
set_option maxHeartbeats 4000000 in
set_option maxRecDepth 100000 in
theorem jzl106 (xs : Nat → Int32) (hop : xs 0 &&& 31 = 9)  : jRun ((4, xs) : jX) 2000 37 39 [.ref 64] jzv181 = some (.inr 154, jzv186) := by
  refine jr_run (e := jm39) rfl (Nat.le_of_ble_eq_true rfl) ?_
  refine jl_s (S' := ((1, [(0, .ref 64)], [.ref 64], jzv181) : jS)) rfl ?_
  refine jl_s (S' := ((4, [(0, .ref 64)], [.null], jzv181) : jS)) rfl ?_
  refine jl_s (S' := ((5, [(1, .null), (0, .ref 64)], [], jzv181) : jS)) rfl ?_
  refine jl_s (S' := ((6, [(1, .null), (0, .ref 64)], [.null], jzv181) : jS)) rfl ?_
  refine jl_s (S' := ((9, [(1, .null), (0, .ref 64)], [], jzv181) : jS)) rfl ?_
  exact jl_r (r := (.inr 154, jzv186)) rfl
set_option maxHeartbeats 4000000 in
set_option maxRecDepth 100000 in
theorem jzl107 (xs : Nat → Int32) (hop : xs 0 &&& 31 = 9)  : jRun ((4, xs) : jX) 2000 38 29 [.ref 64, .int (xs 1)] jzv181 = some (.inr 154, jzv186) := by
  refine jr_run (e := jm29) rfl (Nat.le_of_ble_eq_true rfl) ?_
  refine jl_s (S' := ((1, [(0, .ref 64), (1, .int (xs 1))], [.ref 64], jzv181) : jS)) rfl ?_
  exact jl_ct (t := 39) (as := [.ref 64]) (V := jzv181) (r := (.inr 154, jzv186)) (q := (.inr 154, jzv186)) rfl (jzl106 xs hop ) rfl
set_option maxHeartbeats 4000000 in
set_option maxRecDepth 100000 in
theorem jzl108 (xs : Nat → Int32) (hop : xs 0 &&& 31 = 9)  : jRun ((4, xs) : jX) 2000 39 8 [.ref 64, .int (xs 1), .ref 153] jzv181 = some (.inl (some (.int 1)), jzv186) := by
  refine jr_run (e := jm8) rfl (Nat.le_of_ble_eq_true rfl) ?_
  refine jl_s (S' := ((1, [(0, .ref 64), (1, .int (xs 1)), (2, .ref 153)], [.ref 153], jzv181) : jS)) rfl ?_
  refine jl_s (S' := ((2, [(0, .ref 64), (1, .int (xs 1)), (2, .ref 153)], [.int 0, .ref 153], jzv181) : jS)) rfl ?_
  refine jl_s (S' := ((3, [(0, .ref 64), (1, .int (xs 1)), (2, .ref 153)], [.ref 64, .int 0, .ref 153], jzv181) : jS)) rfl ?_
  refine jl_s (S' := ((4, [(0, .ref 64), (1, .int (xs 1)), (2, .ref 153)], [.int (xs 1), .ref 64, .int 0, .ref 153], jzv181) : jS)) rfl ?_
  refine jl_c (t := 29) (as := [.ref 64, .int (xs 1)]) (V := jzv181) (r := (.inr 154, jzv186)) (S' := ((12, [(0, .ref 64), (1, .int (xs 1)), (2, .ref 153)], [.ref 154], jzv186) : jS)) rfl (jzl107 xs hop ) rfl ?_
  refine jl_s (S' := ((13, [(3, .ref 154), (0, .ref 64), (1, .int (xs 1)), (2, .ref 153)], [], jzv186) : jS)) rfl ?_
  refine jl_s (S' := ((14, [(3, .ref 154), (0, .ref 64), (1, .int (xs 1)), (2, .ref 153)], [.int 1], jzv186) : jS)) rfl ?_
  exact jl_r (r := (.inl (some (.int 1)), jzv186)) rfl
set_option maxHeartbeats 4000000 in
set_option maxRecDepth 100000 in
theorem jzl109 (xs : Nat → Int32) (hop : xs 0 &&& 31 = 9)  : jRun ((4, xs) : jX) 2000 38 245 [.ref 66, .int 1, .int 0, .int 0] jzv186 = some (.inl (some (.int 1)), jzv187) := by
  refine jr_run (e := jm245) rfl (Nat.le_of_ble_eq_true rfl) ?_
  refine jl_s (S' := ((1, [(0, .ref 66), (1, .int 1), (2, .int 0), (3, .int 0)], [.ref 66], jzv186) : jS)) rfl ?_
  refine jl_s (S' := ((2, [(0, .ref 66), (1, .int 1), (2, .int 0), (3, .int 0)], [.int 1, .ref 66], jzv186) : jS)) rfl ?_
  refine jl_s (S' := ((5, [(0, .ref 66), (1, .int 1), (2, .int 0), (3, .int 0)], [.ref 66], jzv186) : jS)) rfl ?_
  refine jl_s (S' := ((6, [(0, .ref 66), (1, .int 1), (2, .int 0), (3, .int 0)], [.int 1, .ref 66], jzv186) : jS)) rfl ?_
  refine jl_s (S' := ((26, [(0, .ref 66), (1, .int 1), (2, .int 0), (3, .int 0)], [.int 1, .ref 66], jzv186) : jS)) rfl ?_
  refine jl_s (S' := ((29, [(0, .ref 66), (1, .int 1), (2, .int 0), (3, .int 0)], [], jzv187) : jS)) rfl ?_
  refine jl_s (S' := ((30, [(0, .ref 66), (1, .int 1), (2, .int 0), (3, .int 0)], [.ref 66], jzv187) : jS)) rfl ?_
  refine jl_s (S' := ((33, [(0, .ref 66), (1, .int 1), (2, .int 0), (3, .int 0)], [.int 1], jzv187) : jS)) rfl ?_
  refine jl_s (S' := ((36, [(0, .ref 66), (1, .int 1), (2, .int 0), (3, .int 0)], [], jzv187) : jS)) rfl ?_
  refine jl_s (S' := ((37, [(0, .ref 66), (1, .int 1), (2, .int 0), (3, .int 0)], [.int 1], jzv187) : jS)) rfl ?_
  refine jl_s (S' := ((41, [(0, .ref 66), (1, .int 1), (2, .int 0), (3, .int 0)], [.int 1], jzv187) : jS)) rfl ?_
  exact jl_r (r := (.inl (some (.int 1)), jzv187)) rfl
set_option maxHeartbeats 4000000 in
set_option maxRecDepth 100000 in
theorem jzl110 (xs : Nat → Int32) (hop : xs 0 &&& 31 = 9)  : jRun ((4, xs) : jX) 2000 39 397 [.ref 66, .int (xs 1)] jzv186 = some (.inl (some (.int 0)), jzv187) := by
  refine jr_run (e := jm397) rfl (Nat.le_of_ble_eq_true rfl) ?_
  refine jl_s (S' := ((1, [(0, .ref 66), (1, .int (xs 1))], [.ref 66], jzv186) : jS)) rfl ?_
  refine jl_s (S' := ((2, [(0, .ref 66), (1, .int (xs 1))], [.ref 66, .ref 66], jzv186) : jS)) rfl ?_
  refine jl_s (S' := ((5, [(0, .ref 66), (1, .int (xs 1))], [.int 0, .ref 66], jzv186) : jS)) rfl ?_
  refine jl_s (S' := ((8, [(0, .ref 66), (1, .int (xs 1))], [.ref 66], jzv186) : jS)) rfl ?_
  refine jl_s (S' := ((9, [(0, .ref 66), (1, .int (xs 1))], [.int 1, .ref 66], jzv186) : jS)) rfl ?_
  refine jl_s (S' := ((13, [(0, .ref 66), (1, .int (xs 1))], [.int 1, .ref 66], jzv186) : jS)) rfl ?_
  refine jl_s (S' := ((14, [(0, .ref 66), (1, .int (xs 1))], [.ref 66, .int 1, .ref 66], jzv186) : jS)) rfl ?_
  refine jl_s (S' := ((17, [(0, .ref 66), (1, .int (xs 1))], [.int 0, .int 1, .ref 66], jzv186) : jS)) rfl ?_
  refine jl_s (S' := ((34, [(0, .ref 66), (1, .int (xs 1))], [.int 1, .ref 66], jzv186) : jS)) rfl ?_
  refine jl_s (S' := ((35, [(0, .ref 66), (1, .int (xs 1))], [.int 0, .int 1, .ref 66], jzv186) : jS)) rfl ?_
  refine jl_s (S' := ((36, [(0, .ref 66), (1, .int (xs 1))], [.int 0, .int 0, .int 1, .ref 66], jzv186) : jS)) rfl ?_
  refine jl_c (t := 245) (as := [.ref 66, .int 1, .int 0, .int 0]) (V := jzv186) (r := (.inl (some (.int 1)), jzv187)) (S' := ((39, [(0, .ref 66), (1, .int (xs 1))], [.int 1], jzv187) : jS)) rfl (jzl109 xs hop ) rfl ?_
  refine jl_s (S' := ((42, [(0, .ref 66), (1, .int (xs 1))], [], jzv187) : jS)) rfl ?_
  refine jl_s (S' := ((43, [(0, .ref 66), (1, .int (xs 1))], [.int 0], jzv187) : jS)) rfl ?_
  exact jl_r (r := (.inl (some (.int 0)), jzv187)) rfl
set_option maxHeartbeats 4000000 in
set_option maxRecDepth 100000 in
theorem jzl111 (xs : Nat → Int32) (hop : xs 0 &&& 31 = 9)  : jRun ((4, xs) : jX) 2000 39 244 [.ref 66] jzv187 = some (.inl (some (.int 1)), jzv187) := by
  refine jr_run (e := jm244) rfl (Nat.le_of_ble_eq_true rfl) ?_
  refine jl_s (S' := ((1, [(0, .ref 66)], [.ref 66], jzv187) : jS)) rfl ?_
  refine jl_s (S' := ((4, [(0, .ref 66)], [.int 1], jzv187) : jS)) rfl ?_
  exact jl_r (r := (.inl (some (.int 1)), jzv187)) rfl
set_option maxHeartbeats 4000000 in
set_option maxRecDepth 100000 in
theorem jzl112 (xs : Nat → Int32) (hop : xs 0 &&& 31 = 9)  : jLoop (jRun ((4, xs) : jX) 2000 39) ((4, xs) : jX) jm18 1000 ((23, [(4, .int 0), (3, .ref 153), (2, .ref 66), (1, .ref 64), (0, .ref 63)], [], jzv181) : jS) = some (.inl (some (.int 1)), jzv187) := by
  refine jl_s (S' := ((25, [(4, .int 0), (3, .ref 153), (2, .ref 66), (1, .ref 64), (0, .ref 63)], [.int 0], jzv181) : jS)) rfl ?_
  refine jl_s (S' := ((26, [(4, .int 0), (3, .ref 153), (2, .ref 66), (1, .ref 64), (0, .ref 63)], [.ref 63, .int 0], jzv181) : jS)) rfl ?_
  refine jl_s (S' := ((27, [(4, .int 0), (3, .ref 153), (2, .ref 66), (1, .ref 64), (0, .ref 63)], [.int 4, .int 0], jzv181) : jS)) rfl ?_
  refine jl_s (S' := ((28, [(4, .int 0), (3, .ref 153), (2, .ref 66), (1, .ref 64), (0, .ref 63)], [.int 4, .int 4, .int 0], jzv181) : jS)) rfl ?_
  refine jl_s (S' := ((29, [(4, .int 0), (3, .ref 153), (2, .ref 66), (1, .ref 64), (0, .ref 63)], [.int 0, .int 0], jzv181) : jS)) rfl ?_
  refine jl_s (S' := ((32, [(4, .int 0), (3, .ref 153), (2, .ref 66), (1, .ref 64), (0, .ref 63)], [], jzv181) : jS)) rfl ?_
  refine jl_s (S' := ((33, [(4, .int 0), (3, .ref 153), (2, .ref 66), (1, .ref 64), (0, .ref 63)], [.ref 63], jzv181) : jS)) rfl ?_
  refine jl_s (S' := ((35, [(4, .int 0), (3, .ref 153), (2, .ref 66), (1, .ref 64), (0, .ref 63)], [.int 0, .ref 63], jzv181) : jS)) rfl ?_
  refine jl_s (S' := ((36, [(4, .int 0), (3, .ref 153), (2, .ref 66), (1, .ref 64), (0, .ref 63)], [.int (xs 0)], jzv181) : jS)) rfl ?_
  refine jl_s (S' := ((38, [(4, .int 0), (3, .ref 153), (2, .ref 66), (1, .ref 64), (0, .ref 63)], [.int 31, .int (xs 0)], jzv181) : jS)) rfl ?_
  refine jl_s (S' := ((39, [(4, .int 0), (3, .ref 153), (2, .ref 66), (1, .ref 64), (0, .ref 63)], [.int ((xs 0) &&& 31)], jzv181) : jS)) rfl ?_
  rw [hop]
  refine jl_s (S' := ((597, [(4, .int 0), (3, .ref 153), (2, .ref 66), (1, .ref 64), (0, .ref 63)], [], jzv181) : jS)) rfl ?_
  refine jl_s (S' := ((598, [(4, .int 0), (3, .ref 153), (2, .ref 66), (1, .ref 64), (0, .ref 63)], [.ref 64], jzv181) : jS)) rfl ?_
  refine jl_s (S' := ((599, [(4, .int 0), (3, .ref 153), (2, .ref 66), (1, .ref 64), (0, .ref 63)], [.ref 63, .ref 64], jzv181) : jS)) rfl ?_
  refine jl_s (S' := ((601, [(4, .int 0), (3, .ref 153), (2, .ref 66), (1, .ref 64), (0, .ref 63)], [.int 0, .ref 63, .ref 64], jzv181) : jS)) rfl ?_
  refine jl_s (S' := ((602, [(4, .int 0), (3, .ref 153), (2, .ref 66), (1, .ref 64), (0, .ref 63)], [.int 1, .int 0, .ref 63, .ref 64], jzv181) : jS)) rfl ?_
  refine jl_s (S' := ((603, [(4, .int 0), (3, .ref 153), (2, .ref 66), (1, .ref 64), (0, .ref 63)], [.int 1, .ref 63, .ref 64], jzv181) : jS)) rfl ?_
  refine jl_s (S' := ((604, [(4, .int 0), (3, .ref 153), (2, .ref 66), (1, .ref 64), (0, .ref 63)], [.int (xs 1), .ref 64], jzv181) : jS)) rfl ?_
  refine jl_s (S' := ((605, [(4, .int 0), (3, .ref 153), (2, .ref 66), (1, .ref 64), (0, .ref 63)], [.ref 153, .int (xs 1), .ref 64], jzv181) : jS)) rfl ?_
  refine jl_c (t := 8) (as := [.ref 64, .int (xs 1), .ref 153]) (V := jzv181) (r := (.inl (some (.int 1)), jzv186)) (S' := ((608, [(4, .int 0), (3, .ref 153), (2, .ref 66), (1, .ref 64), (0, .ref 63)], [.int 1], jzv186) : jS)) rfl (jzl108 xs hop ) rfl ?_
  refine jl_s (S' := ((610, [(5, .int 1), (4, .int 0), (3, .ref 153), (2, .ref 66), (1, .ref 64), (0, .ref 63)], [], jzv186) : jS)) rfl ?_
  refine jl_s (S' := ((611, [(5, .int 1), (4, .int 0), (3, .ref 153), (2, .ref 66), (1, .ref 64), (0, .ref 63)], [.ref 66], jzv186) : jS)) rfl ?_
  refine jl_s (S' := ((612, [(5, .int 1), (4, .int 0), (3, .ref 153), (2, .ref 66), (1, .ref 64), (0, .ref 63)], [.ref 63, .ref 66], jzv186) : jS)) rfl ?_
  refine jl_s (S' := ((614, [(5, .int 1), (4, .int 0), (3, .ref 153), (2, .ref 66), (1, .ref 64), (0, .ref 63)], [.int 0, .ref 63, .ref 66], jzv186) : jS)) rfl ?_
  refine jl_s (S' := ((615, [(5, .int 1), (4, .int 0), (3, .ref 153), (2, .ref 66), (1, .ref 64), (0, .ref 63)], [.int 1, .int 0, .ref 63, .ref 66], jzv186) : jS)) rfl ?_
  refine jl_s (S' := ((616, [(5, .int 1), (4, .int 0), (3, .ref 153), (2, .ref 66), (1, .ref 64), (0, .ref 63)], [.int 1, .ref 63, .ref 66], jzv186) : jS)) rfl ?_
  refine jl_s (S' := ((617, [(5, .int 1), (4, .int 0), (3, .ref 153), (2, .ref 66), (1, .ref 64), (0, .ref 63)], [.int (xs 1), .ref 66], jzv186) : jS)) rfl ?_
  refine jl_c (t := 397) (as := [.ref 66, .int (xs 1)]) (V := jzv186) (r := (.inl (some (.int 0)), jzv187)) (S' := ((620, [(5, .int 1), (4, .int 0), (3, .ref 153), (2, .ref 66), (1, .ref 64), (0, .ref 63)], [.int 0], jzv187) : jS)) rfl (jzl110 xs hop ) rfl ?_
  refine jl_s (S' := ((622, [(6, .int 0), (5, .int 1), (4, .int 0), (3, .ref 153), (2, .ref 66), (1, .ref 64), (0, .ref 63)], [], jzv187) : jS)) rfl ?_
  refine jl_s (S' := ((623, [(6, .int 0), (5, .int 1), (4, .int 0), (3, .ref 153), (2, .ref 66), (1, .ref 64), (0, .ref 63)], [.ref 66], jzv187) : jS)) rfl ?_
  refine jl_c (t := 244) (as := [.ref 66]) (V := jzv187) (r := (.inl (some (.int 1)), jzv187)) (S' := ((626, [(6, .int 0), (5, .int 1), (4, .int 0), (3, .ref 153), (2, .ref 66), (1, .ref 64), (0, .ref 63)], [.int 1], jzv187) : jS)) rfl (jzl111 xs hop ) rfl ?_
  refine jl_s (S' := ((628, [(6, .int 0), (5, .int 1), (4, .int 0), (3, .ref 153), (2, .ref 66), (1, .ref 64), (0, .ref 63)], [.int 1, .int 1], jzv187) : jS)) rfl ?_
  refine jl_s (S' := ((633, [(6, .int 0), (5, .int 1), (4, .int 0), (3, .ref 153), (2, .ref 66), (1, .ref 64), (0, .ref 63)], [], jzv187) : jS)) rfl ?_
  refine jl_s (S' := ((635, [(6, .int 0), (5, .int 1), (4, .int 0), (3, .ref 153), (2, .ref 66), (1, .ref 64), (0, .ref 63)], [.int 1], jzv187) : jS)) rfl ?_
  refine jl_s (S' := ((650, [(6, .int 0), (5, .int 1), (4, .int 0), (3, .ref 153), (2, .ref 66), (1, .ref 64), (0, .ref 63)], [], jzv187) : jS)) rfl ?_
  refine jl_s (S' := ((1193, [(6, .int 0), (5, .int 1), (4, .int 0), (3, .ref 153), (2, .ref 66), (1, .ref 64), (0, .ref 63)], [], jzv187) : jS)) rfl ?_
  refine jl_s (S' := ((1196, [(4, .int 4), (6, .int 0), (5, .int 1), (3, .ref 153), (2, .ref 66), (1, .ref 64), (0, .ref 63)], [], jzv187) : jS)) rfl ?_
  refine jl_s (S' := ((23, [(4, .int 4), (6, .int 0), (5, .int 1), (3, .ref 153), (2, .ref 66), (1, .ref 64), (0, .ref 63)], [], jzv187) : jS)) rfl ?_
  refine jl_s (S' := ((25, [(4, .int 4), (6, .int 0), (5, .int 1), (3, .ref 153), (2, .ref 66), (1, .ref 64), (0, .ref 63)], [.int 4], jzv187) : jS)) rfl ?_
  refine jl_s (S' := ((26, [(4, .int 4), (6, .int 0), (5, .int 1), (3, .ref 153), (2, .ref 66), (1, .ref 64), (0, .ref 63)], [.ref 63, .int 4], jzv187) : jS)) rfl ?_
  refine jl_s (S' := ((27, [(4, .int 4), (6, .int 0), (5, .int 1), (3, .ref 153), (2, .ref 66), (1, .ref 64), (0, .ref 63)], [.int 4, .int 4], jzv187) : jS)) rfl ?_
  refine jl_s (S' := ((28, [(4, .int 4), (6, .int 0), (5, .int 1), (3, .ref 153), (2, .ref 66), (1, .ref 64), (0, .ref 63)], [.int 4, .int 4, .int 4], jzv187) : jS)) rfl ?_
  refine jl_s (S' := ((29, [(4, .int 4), (6, .int 0), (5, .int 1), (3, .ref 153), (2, .ref 66), (1, .ref 64), (0, .ref 63)], [.int 0, .int 4], jzv187) : jS)) rfl ?_
  refine jl_s (S' := ((1199, [(4, .int 4), (6, .int 0), (5, .int 1), (3, .ref 153), (2, .ref 66), (1, .ref 64), (0, .ref 63)], [], jzv187) : jS)) rfl ?_
  refine jl_s (S' := ((1200, [(4, .int 4), (6, .int 0), (5, .int 1), (3, .ref 153), (2, .ref 66), (1, .ref 64), (0, .ref 63)], [.int 1], jzv187) : jS)) rfl ?_
  exact jl_r (r := (.inl (some (.int 1)), jzv187)) rfl
-- op 9 : jzl112
set_option maxHeartbeats 4000000 in
set_option maxRecDepth 100000 in
theorem jzl113 (xs : Nat → Int32) (hop : xs 0 &&& 31 = 10)  : jRun ((4, xs) : jX) 2000 36 39 [.ref 64] jzv181 = some (.inr 154, jzv186) := by
  refine jr_run (e := jm39) rfl (Nat.le_of_ble_eq_true rfl) ?_
  refine jl_s (S' := ((1, [(0, .ref 64)], [.ref 64], jzv181) : jS)) rfl ?_
  refine jl_s (S' := ((4, [(0, .ref 64)], [.null], jzv181) : jS)) rfl ?_
  refine jl_s (S' := ((5, [(1, .null), (0, .ref 64)], [], jzv181) : jS)) rfl ?_
  refine jl_s (S' := ((6, [(1, .null), (0, .ref 64)], [.null], jzv181) : jS)) rfl ?_
  refine jl_s (S' := ((9, [(1, .null), (0, .ref 64)], [], jzv181) : jS)) rfl ?_
  exact jl_r (r := (.inr 154, jzv186)) rfl
set_option maxHeartbeats 4000000 in
set_option maxRecDepth 100000 in
theorem jzl114 (xs : Nat → Int32) (hop : xs 0 &&& 31 = 10)  : jRun ((4, xs) : jX) 2000 37 40 [.ref 64, .int (xs 1)] jzv181 = some (.inr 154, jzv186) := by
  refine jr_run (e := jm40) rfl (Nat.le_of_ble_eq_true rfl) ?_
  refine jl_s (S' := ((1, [(0, .ref 64), (1, .int (xs 1))], [.ref 64], jzv181) : jS)) rfl ?_
  exact jl_ct (t := 39) (as := [.ref 64]) (V := jzv181) (r := (.inr 154, jzv186)) (q := (.inr 154, jzv186)) rfl (jzl113 xs hop ) rfl
set_option maxHeartbeats 4000000 in
set_option maxRecDepth 100000 in
theorem jzl115 (xs : Nat → Int32) (hop : xs 0 &&& 31 = 10)  : jRun ((4, xs) : jX) 2000 38 30 [.ref 64, .int (xs 1), .int (xs 2)] jzv181 = some (.inr 154, jzv186) := by
  refine jr_run (e := jm30) rfl (Nat.le_of_ble_eq_true rfl) ?_
  refine jl_s (S' := ((1, [(0, .ref 64), (1, .int (xs 1)), (2, .int (xs 2))], [.ref 64], jzv181) : jS)) rfl ?_
  refine jl_s (S' := ((2, [(0, .ref 64), (1, .int (xs 1)), (2, .int (xs 2))], [.int (xs 1), .ref 64], jzv181) : jS)) rfl ?_
  exact jl_ct (t := 40) (as := [.ref 64, .int (xs 1)]) (V := jzv181) (r := (.inr 154, jzv186)) (q := (.inr 154, jzv186)) rfl (jzl114 xs hop ) rfl
set_option maxHeartbeats 4000000 in
set_option maxRecDepth 100000 in
theorem jzl116 (xs : Nat → Int32) (hop : xs 0 &&& 31 = 10)  : jRun ((4, xs) : jX) 2000 39 9 [.ref 64, .int (xs 1), .int (xs 2), .ref 153] jzv181 = some (.inl (some (.int 1)), jzv186) := by
  refine jr_run (e := jm9) rfl (Nat.le_of_ble_eq_true rfl) ?_
  refine jl_s (S' := ((1, [(0, .ref 64), (1, .int (xs 1)), (2, .int (xs 2)), (3, .ref 153)], [.ref 153], jzv181) : jS)) rfl ?_
  refine jl_s (S' := ((2, [(0, .ref 64), (1, .int (xs 1)), (2, .int (xs 2)), (3, .ref 153)], [.int 0, .ref 153], jzv181) : jS)) rfl ?_
  refine jl_s (S' := ((3, [(0, .ref 64), (1, .int (xs 1)), (2, .int (xs 2)), (3, .ref 153)], [.ref 64, .int 0, .ref 153], jzv181) : jS)) rfl ?_
  refine jl_s (S' := ((4, [(0, .ref 64), (1, .int (xs 1)), (2, .int (xs 2)), (3, .ref 153)], [.int (xs 1), .ref 64, .int 0, .ref 153], jzv181) : jS)) rfl ?_
  refine jl_s (S' := ((5, [(0, .ref 64), (1, .int (xs 1)), (2, .int (xs 2)), (3, .ref 153)], [.int (xs 2), .int (xs 1), .ref 64, .int 0, .ref 153], jzv181) : jS)) rfl ?_
  refine jl_c (t := 30) (as := [.ref 64, .int (xs 1), .int (xs 2)]) (V := jzv181) (r := (.inr 154, jzv186)) (S' := ((13, [(0, .ref 64), (1, .int (xs 1)), (2, .int (xs 2)), (3, .ref 153)], [.ref 154], jzv186) : jS)) rfl (jzl115 xs hop ) rfl ?_
  refine jl_s (S' := ((15, [(4, .ref 154), (0, .ref 64), (1, .int (xs 1)), (2, .int (xs 2)), (3, .ref 153)], [], jzv186) : jS)) rfl ?_
  refine jl_s (S' := ((16, [(4, .ref 154), (0, .ref 64), (1, .int (xs 1)), (2, .int (xs 2)), (3, .ref 153)], [.int 1], jzv186) : jS)) rfl ?_
  exact jl_r (r := (.inl (some (.int 1)), jzv186)) rfl
set_option maxHeartbeats 4000000 in
set_option maxRecDepth 100000 in
theorem jzl117 (xs : Nat → Int32) (hop : xs 0 &&& 31 = 10)  : jRun ((4, xs) : jX) 2000 38 245 [.ref 66, .int 1, .int 0, .int 0] jzv186 = some (.inl (some (.int 1)), jzv187) := by
  refine jr_run (e := jm245) rfl (Nat.le_of_ble_eq_true rfl) ?_
  refine jl_s (S' := ((1, [(0, .ref 66), (1, .int 1), (2, .int 0), (3, .int 0)], [.ref 66], jzv186) : jS)) rfl ?_
  refine jl_s (S' := ((2, [(0, .ref 66), (1, .int 1), (2, .int 0), (3, .int 0)], [.int 1, .ref 66], jzv186) : jS)) rfl ?_
  refine jl_s (S' := ((5, [(0, .ref 66), (1, .int 1), (2, .int 0), (3, .int 0)], [.ref 66], jzv186) : jS)) rfl ?_
  refine jl_s (S' := ((6, [(0, .ref 66), (1, .int 1), (2, .int 0), (3, .int 0)], [.int 1, .ref 66], jzv186) : jS)) rfl ?_
  refine jl_s (S' := ((26, [(0, .ref 66), (1, .int 1), (2, .int 0), (3, .int 0)], [.int 1, .ref 66], jzv186) : jS)) rfl ?_
  refine jl_s (S' := ((29, [(0, .ref 66), (1, .int 1), (2, .int 0), (3, .int 0)], [], jzv187) : jS)) rfl ?_
  refine jl_s (S' := ((30, [(0, .ref 66), (1, .int 1), (2, .int 0), (3, .int 0)], [.ref 66], jzv187) : jS)) rfl ?_
  refine jl_s (S' := ((33, [(0, .ref 66), (1, .int 1), (2, .int 0), (3, .int 0)], [.int 1], jzv187) : jS)) rfl ?_
  refine jl_s (S' := ((36, [(0, .ref 66), (1, .int 1), (2, .int 0), (3, .int 0)], [], jzv187) : jS)) rfl ?_
  refine jl_s (S' := ((37, [(0, .ref 66), (1, .int 1), (2, .int 0), (3, .int 0)], [.int 1], jzv187) : jS)) rfl ?_
  refine jl_s (S' := ((41, [(0, .ref 66), (1, .int 1), (2, .int 0), (3, .int 0)], [.int 1], jzv187) : jS)) rfl ?_
  exact jl_r (r := (.inl (some (.int 1)), jzv187)) rfl
set_option maxHeartbeats 4000000 in
set_option maxRecDepth 100000 in
theorem jzl118 (xs : Nat → Int32) (hop : xs 0 &&& 31 = 10)  : jRun ((4, xs) : jX) 2000 39 399 [.ref 66, .int (xs 1), .int (xs 2)] jzv186 = some (.inl (some (.int 0)), jzv187) := by
  refine jr_run (e := jm399) rfl (Nat.le_of_ble_eq_true rfl) ?_
  refine jl_s (S' := ((1, [(0, .ref 66), (1, .int (xs 1)), (2, .int (xs 2))], [.ref 66], jzv186) : jS)) rfl ?_
  refine jl_s (S' := ((2, [(0, .ref 66), (1, .int (xs 1)), (2, .int (xs 2))], [.ref 66, .ref 66], jzv186) : jS)) rfl ?_
  refine jl_s (S' := ((5, [(0, .ref 66), (1, .int (xs 1)), (2, .int (xs 2))], [.int 0, .ref 66], jzv186) : jS)) rfl ?_
  refine jl_s (S' := ((8, [(0, .ref 66), (1, .int (xs 1)), (2, .int (xs 2))], [.ref 66], jzv186) : jS)) rfl ?_
  refine jl_s (S' := ((9, [(0, .ref 66), (1, .int (xs 1)), (2, .int (xs 2))], [.int 1, .ref 66], jzv186) : jS)) rfl ?_
  refine jl_s (S' := ((13, [(0, .ref 66), (1, .int (xs 1)), (2, .int (xs 2))], [.int 1, .ref 66], jzv186) : jS)) rfl ?_
  refine jl_s (S' := ((14, [(0, .ref 66), (1, .int (xs 1)), (2, .int (xs 2))], [.ref 66, .int 1, .ref 66], jzv186) : jS)) rfl ?_
  refine jl_s (S' := ((17, [(0, .ref 66), (1, .int (xs 1)), (2, .int (xs 2))], [.int 0, .int 1, .ref 66], jzv186) : jS)) rfl ?_
  refine jl_s (S' := ((32, [(0, .ref 66), (1, .int (xs 1)), (2, .int (xs 2))], [.int 1, .ref 66], jzv186) : jS)) rfl ?_
  refine jl_s (S' := ((33, [(0, .ref 66), (1, .int (xs 1)), (2, .int (xs 2))], [.int 0, .int 1, .ref 66], jzv186) : jS)) rfl ?_
  refine jl_s (S' := ((34, [(0, .ref 66), (1, .int (xs 1)), (2, .int (xs 2))], [.ref 66, .int 0, .int 1, .ref 66], jzv186) : jS)) rfl ?_
  refine jl_s (S' := ((37, [(0, .ref 66), (1, .int (xs 1)), (2, .int (xs 2))], [.int 0, .int 0, .int 1, .ref 66], jzv186) : jS)) rfl ?_
  refine jl_s (S' := ((63, [(0, .ref 66), (1, .int (xs 1)), (2, .int (xs 2))], [.int 0, .int 1, .ref 66], jzv186) : jS)) rfl ?_
  refine jl_s (S' := ((64, [(0, .ref 66), (1, .int (xs 1)), (2, .int (xs 2))], [.int 0, .int 0, .int 1, .ref 66], jzv186) : jS)) rfl ?_
  refine jl_c (t := 245) (as := [.ref 66, .int 1, .int 0, .int 0]) (V := jzv186) (r := (.inl (some (.int 1)), jzv187)) (S' := ((67, [(0, .ref 66), (1, .int (xs 1)), (2, .int (xs 2))], [.int 1], jzv187) : jS)) rfl (jzl117 xs hop ) rfl ?_
  refine jl_s (S' := ((70, [(0, .ref 66), (1, .int (xs 1)), (2, .int (xs 2))], [], jzv187) : jS)) rfl ?_
  refine jl_s (S' := ((71, [(0, .ref 66), (1, .int (xs 1)), (2, .int (xs 2))], [.int 0], jzv187) : jS)) rfl ?_
  exact jl_r (r := (.inl (some (.int 0)), jzv187)) rfl
set_option maxHeartbeats 4000000 in
set_option maxRecDepth 100000 in
theorem jzl119 (xs : Nat → Int32) (hop : xs 0 &&& 31 = 10)  : jRun ((4, xs) : jX) 2000 39 244 [.ref 66] jzv187 = some (.inl (some (.int 1)), jzv187) := by
  refine jr_run (e := jm244) rfl (Nat.le_of_ble_eq_true rfl) ?_
  refine jl_s (S' := ((1, [(0, .ref 66)], [.ref 66], jzv187) : jS)) rfl ?_
  refine jl_s (S' := ((4, [(0, .ref 66)], [.int 1], jzv187) : jS)) rfl ?_
  exact jl_r (r := (.inl (some (.int 1)), jzv187)) rfl
set_option maxHeartbeats 4000000 in
set_option maxRecDepth 100000 in
theorem jzl120 (xs : Nat → Int32) (hop : xs 0 &&& 31 = 10)  : jLoop (jRun ((4, xs) : jX) 2000 39) ((4, xs) : jX) jm18 1000 ((23, [(4, .int 0), (3, .ref 153), (2, .ref 66), (1, .ref 64), (0, .ref 63)], [], jzv181) : jS) = some (.inl (some (.int 1)), jzv187) := by
  refine jl_s (S' := ((25, [(4, .int 0), (3, .ref 153), (2, .ref 66), (1, .ref 64), (0, .ref 63)], [.int 0], jzv181) : jS)) rfl ?_
  refine jl_s (S' := ((26, [(4, .int 0), (3, .ref 153), (2, .ref 66), (1, .ref 64), (0, .ref 63)], [.ref 63, .int 0], jzv181) : jS)) rfl ?_
  refine jl_s (S' := ((27, [(4, .int 0), (3, .ref 153), (2, .ref 66), (1, .ref 64), (0, .ref 63)], [.int 4, .int 0], jzv181) : jS)) rfl ?_
  refine jl_s (S' := ((28, [(4, .int 0), (3, .ref 153), (2, .ref 66), (1, .ref 64), (0, .ref 63)], [.int 4, .int 4, .int 0], jzv181) : jS)) rfl ?_
  refine jl_s (S' := ((29, [(4, .int 0), (3, .ref 153), (2, .ref 66), (1, .ref 64), (0, .ref 63)], [.int 0, .int 0], jzv181) : jS)) rfl ?_
  refine jl_s (S' := ((32, [(4, .int 0), (3, .ref 153), (2, .ref 66), (1, .ref 64), (0, .ref 63)], [], jzv181) : jS)) rfl ?_
  refine jl_s (S' := ((33, [(4, .int 0), (3, .ref 153), (2, .ref 66), (1, .ref 64), (0, .ref 63)], [.ref 63], jzv181) : jS)) rfl ?_
  refine jl_s (S' := ((35, [(4, .int 0), (3, .ref 153), (2, .ref 66), (1, .ref 64), (0, .ref 63)], [.int 0, .ref 63], jzv181) : jS)) rfl ?_
  refine jl_s (S' := ((36, [(4, .int 0), (3, .ref 153), (2, .ref 66), (1, .ref 64), (0, .ref 63)], [.int (xs 0)], jzv181) : jS)) rfl ?_
  refine jl_s (S' := ((38, [(4, .int 0), (3, .ref 153), (2, .ref 66), (1, .ref 64), (0, .ref 63)], [.int 31, .int (xs 0)], jzv181) : jS)) rfl ?_
  refine jl_s (S' := ((39, [(4, .int 0), (3, .ref 153), (2, .ref 66), (1, .ref 64), (0, .ref 63)], [.int ((xs 0) &&& 31)], jzv181) : jS)) rfl ?_
  rw [hop]
  refine jl_s (S' := ((653, [(4, .int 0), (3, .ref 153), (2, .ref 66), (1, .ref 64), (0, .ref 63)], [], jzv181) : jS)) rfl ?_
  refine jl_s (S' := ((654, [(4, .int 0), (3, .ref 153), (2, .ref 66), (1, .ref 64), (0, .ref 63)], [.ref 64], jzv181) : jS)) rfl ?_
  refine jl_s (S' := ((655, [(4, .int 0), (3, .ref 153), (2, .ref 66), (1, .ref 64), (0, .ref 63)], [.ref 63, .ref 64], jzv181) : jS)) rfl ?_
  refine jl_s (S' := ((657, [(4, .int 0), (3, .ref 153), (2, .ref 66), (1, .ref 64), (0, .ref 63)], [.int 0, .ref 63, .ref 64], jzv181) : jS)) rfl ?_
  refine jl_s (S' := ((658, [(4, .int 0), (3, .ref 153), (2, .ref 66), (1, .ref 64), (0, .ref 63)], [.int 1, .int 0, .ref 63, .ref 64], jzv181) : jS)) rfl ?_
  refine jl_s (S' := ((659, [(4, .int 0), (3, .ref 153), (2, .ref 66), (1, .ref 64), (0, .ref 63)], [.int 1, .ref 63, .ref 64], jzv181) : jS)) rfl ?_
  refine jl_s (S' := ((660, [(4, .int 0), (3, .ref 153), (2, .ref 66), (1, .ref 64), (0, .ref 63)], [.int (xs 1), .ref 64], jzv181) : jS)) rfl ?_
  refine jl_s (S' := ((661, [(4, .int 0), (3, .ref 153), (2, .ref 66), (1, .ref 64), (0, .ref 63)], [.ref 63, .int (xs 1), .ref 64], jzv181) : jS)) rfl ?_
  refine jl_s (S' := ((663, [(4, .int 0), (3, .ref 153), (2, .ref 66), (1, .ref 64), (0, .ref 63)], [.int 0, .ref 63, .int (xs 1), .ref 64], jzv181) : jS)) rfl ?_
  refine jl_s (S' := ((664, [(4, .int 0), (3, .ref 153), (2, .ref 66), (1, .ref 64), (0, .ref 63)], [.int 2, .int 0, .ref 63, .int (xs 1), .ref 64], jzv181) : jS)) rfl ?_
  refine jl_s (S' := ((665, [(4, .int 0), (3, .ref 153), (2, .ref 66), (1, .ref 64), (0, .ref 63)], [.int 2, .ref 63, .int (xs 1), .ref 64], jzv181) : jS)) rfl ?_
  refine jl_s (S' := ((666, [(4, .int 0), (3, .ref 153), (2, .ref 66), (1, .ref 64), (0, .ref 63)], [.int (xs 2), .int (xs 1), .ref 64], jzv181) : jS)) rfl ?_
  refine jl_s (S' := ((667, [(4, .int 0), (3, .ref 153), (2, .ref 66), (1, .ref 64), (0, .ref 63)], [.ref 153, .int (xs 2), .int (xs 1), .ref 64], jzv181) : jS)) rfl ?_
  refine jl_c (t := 9) (as := [.ref 64, .int (xs 1), .int (xs 2), .ref 153]) (V := jzv181) (r := (.inl (some (.int 1)), jzv186)) (S' := ((670, [(4, .int 0), (3, .ref 153), (2, .ref 66), (1, .ref 64), (0, .ref 63)], [.int 1], jzv186) : jS)) rfl (jzl116 xs hop ) rfl ?_
  refine jl_s (S' := ((672, [(5, .int 1), (4, .int 0), (3, .ref 153), (2, .ref 66), (1, .ref 64), (0, .ref 63)], [], jzv186) : jS)) rfl ?_
  refine jl_s (S' := ((673, [(5, .int 1), (4, .int 0), (3, .ref 153), (2, .ref 66), (1, .ref 64), (0, .ref 63)], [.ref 66], jzv186) : jS)) rfl ?_
  refine jl_s (S' := ((674, [(5, .int 1), (4, .int 0), (3, .ref 153), (2, .ref 66), (1, .ref 64), (0, .ref 63)], [.ref 63, .ref 66], jzv186) : jS)) rfl ?_
  refine jl_s (S' := ((676, [(5, .int 1), (4, .int 0), (3, .ref 153), (2, .ref 66), (1, .ref 64), (0, .ref 63)], [.int 0, .ref 63, .ref 66], jzv186) : jS)) rfl ?_
  refine jl_s (S' := ((677, [(5, .int 1), (4, .int 0), (3, .ref 153), (2, .ref 66), (1, .ref 64), (0, .ref 63)], [.int 1, .int 0, .ref 63, .ref 66], jzv186) : jS)) rfl ?_
  refine jl_s (S' := ((678, [(5, .int 1), (4, .int 0), (3, .ref 153), (2, .ref 66), (1, .ref 64), (0, .ref 63)], [.int 1, .ref 63, .ref 66], jzv186) : jS)) rfl ?_
  refine jl_s (S' := ((679, [(5, .int 1), (4, .int 0), (3, .ref 153), (2, .ref 66), (1, .ref 64), (0, .ref 63)], [.int (xs 1), .ref 66], jzv186) : jS)) rfl ?_
  refine jl_s (S' := ((680, [(5, .int 1), (4, .int 0), (3, .ref 153), (2, .ref 66), (1, .ref 64), (0, .ref 63)], [.ref 63, .int (xs 1), .ref 66], jzv186) : jS)) rfl ?_
  refine jl_s (S' := ((682, [(5, .int 1), (4, .int 0), (3, .ref 153), (2, .ref 66), (1, .ref 64), (0, .ref 63)], [.int 0, .ref 63, .int (xs 1), .ref 66], jzv186) : jS)) rfl ?_
  refine jl_s (S' := ((683, [(5, .int 1), (4, .int 0), (3, .ref 153), (2, .ref 66), (1, .ref 64), (0, .ref 63)], [.int 2, .int 0, .ref 63, .int (xs 1), .ref 66], jzv186) : jS)) rfl ?_
  refine jl_s (S' := ((684, [(5, .int 1), (4, .int 0), (3, .ref 153), (2, .ref 66), (1, .ref 64), (0, .ref 63)], [.int 2, .ref 63, .int (xs 1), .ref 66], jzv186) : jS)) rfl ?_
  refine jl_s (S' := ((685, [(5, .int 1), (4, .int 0), (3, .ref 153), (2, .ref 66), (1, .ref 64), (0, .ref 63)], [.int (xs 2), .int (xs 1), .ref 66], jzv186) : jS)) rfl ?_
  refine jl_c (t := 399) (as := [.ref 66, .int (xs 1), .int (xs 2)]) (V := jzv186) (r := (.inl (some (.int 0)), jzv187)) (S' := ((688, [(5, .int 1), (4, .int 0), (3, .ref 153), (2, .ref 66), (1, .ref 64), (0, .ref 63)], [.int 0], jzv187) : jS)) rfl (jzl118 xs hop ) rfl ?_
  refine jl_s (S' := ((690, [(6, .int 0), (5, .int 1), (4, .int 0), (3, .ref 153), (2, .ref 66), (1, .ref 64), (0, .ref 63)], [], jzv187) : jS)) rfl ?_
  refine jl_s (S' := ((691, [(6, .int 0), (5, .int 1), (4, .int 0), (3, .ref 153), (2, .ref 66), (1, .ref 64), (0, .ref 63)], [.ref 66], jzv187) : jS)) rfl ?_
  refine jl_c (t := 244) (as := [.ref 66]) (V := jzv187) (r := (.inl (some (.int 1)), jzv187)) (S' := ((694, [(6, .int 0), (5, .int 1), (4, .int 0), (3, .ref 153), (2, .ref 66), (1, .ref 64), (0, .ref 63)], [.int 1], jzv187) : jS)) rfl (jzl119 xs hop ) rfl ?_
  refine jl_s (S' := ((696, [(6, .int 0), (5, .int 1), (4, .int 0), (3, .ref 153), (2, .ref 66), (1, .ref 64), (0, .ref 63)], [.int 1, .int 1], jzv187) : jS)) rfl ?_
  refine jl_s (S' := ((701, [(6, .int 0), (5, .int 1), (4, .int 0), (3, .ref 153), (2, .ref 66), (1, .ref 64), (0, .ref 63)], [], jzv187) : jS)) rfl ?_
  refine jl_s (S' := ((703, [(6, .int 0), (5, .int 1), (4, .int 0), (3, .ref 153), (2, .ref 66), (1, .ref 64), (0, .ref 63)], [.int 1], jzv187) : jS)) rfl ?_
  refine jl_s (S' := ((718, [(6, .int 0), (5, .int 1), (4, .int 0), (3, .ref 153), (2, .ref 66), (1, .ref 64), (0, .ref 63)], [], jzv187) : jS)) rfl ?_
  refine jl_s (S' := ((1193, [(6, .int 0), (5, .int 1), (4, .int 0), (3, .ref 153), (2, .ref 66), (1, .ref 64), (0, .ref 63)], [], jzv187) : jS)) rfl ?_
  refine jl_s (S' := ((1196, [(4, .int 4), (6, .int 0), (5, .int 1), (3, .ref 153), (2, .ref 66), (1, .ref 64), (0, .ref 63)], [], jzv187) : jS)) rfl ?_
  refine jl_s (S' := ((23, [(4, .int 4), (6, .int 0), (5, .int 1), (3, .ref 153), (2, .ref 66), (1, .ref 64), (0, .ref 63)], [], jzv187) : jS)) rfl ?_
  refine jl_s (S' := ((25, [(4, .int 4), (6, .int 0), (5, .int 1), (3, .ref 153), (2, .ref 66), (1, .ref 64), (0, .ref 63)], [.int 4], jzv187) : jS)) rfl ?_
  refine jl_s (S' := ((26, [(4, .int 4), (6, .int 0), (5, .int 1), (3, .ref 153), (2, .ref 66), (1, .ref 64), (0, .ref 63)], [.ref 63, .int 4], jzv187) : jS)) rfl ?_
  refine jl_s (S' := ((27, [(4, .int 4), (6, .int 0), (5, .int 1), (3, .ref 153), (2, .ref 66), (1, .ref 64), (0, .ref 63)], [.int 4, .int 4], jzv187) : jS)) rfl ?_
  refine jl_s (S' := ((28, [(4, .int 4), (6, .int 0), (5, .int 1), (3, .ref 153), (2, .ref 66), (1, .ref 64), (0, .ref 63)], [.int 4, .int 4, .int 4], jzv187) : jS)) rfl ?_
  refine jl_s (S' := ((29, [(4, .int 4), (6, .int 0), (5, .int 1), (3, .ref 153), (2, .ref 66), (1, .ref 64), (0, .ref 63)], [.int 0, .int 4], jzv187) : jS)) rfl ?_
  refine jl_s (S' := ((1199, [(4, .int 4), (6, .int 0), (5, .int 1), (3, .ref 153), (2, .ref 66), (1, .ref 64), (0, .ref 63)], [], jzv187) : jS)) rfl ?_
  refine jl_s (S' := ((1200, [(4, .int 4), (6, .int 0), (5, .int 1), (3, .ref 153), (2, .ref 66), (1, .ref 64), (0, .ref 63)], [.int 1], jzv187) : jS)) rfl ?_
  exact jl_r (r := (.inl (some (.int 1)), jzv187)) rfl
-- op 10 : jzl120
set_option maxHeartbeats 4000000 in
set_option maxRecDepth 100000 in
theorem jzl121 (xs : Nat → Int32) (hop : xs 0 &&& 31 = 11)  : jRun ((4, xs) : jX) 2000 37 39 [.ref 64] jzv181 = some (.inr 154, jzv186) := by
  refine jr_run (e := jm39) rfl (Nat.le_of_ble_eq_true rfl) ?_
  refine jl_s (S' := ((1, [(0, .ref 64)], [.ref 64], jzv181) : jS)) rfl ?_
  refine jl_s (S' := ((4, [(0, .ref 64)], [.null], jzv181) : jS)) rfl ?_
  refine jl_s (S' := ((5, [(1, .null), (0, .ref 64)], [], jzv181) : jS)) rfl ?_
  refine jl_s (S' := ((6, [(1, .null), (0, .ref 64)], [.null], jzv181) : jS)) rfl ?_
  refine jl_s (S' := ((9, [(1, .null), (0, .ref 64)], [], jzv181) : jS)) rfl ?_
  exact jl_r (r := (.inr 154, jzv186)) rfl
set_option maxHeartbeats 4000000 in
set_option maxRecDepth 100000 in
theorem jzl122 (xs : Nat → Int32) (hop : xs 0 &&& 31 = 11)  : jRun ((4, xs) : jX) 2000 38 31 [.ref 64, .int (xs 1)] jzv181 = some (.inr 154, jzv186) := by
  refine jr_run (e := jm31) rfl (Nat.le_of_ble_eq_true rfl) ?_
  refine jl_s (S' := ((1, [(0, .ref 64), (1, .int (xs 1))], [.ref 64], jzv181) : jS)) rfl ?_
  exact jl_ct (t := 39) (as := [.ref 64]) (V := jzv181) (r := (.inr 154, jzv186)) (q := (.inr 154, jzv186)) rfl (jzl121 xs hop ) rfl
set_option maxHeartbeats 4000000 in
set_option maxRecDepth 100000 in
theorem jzl123 (xs : Nat → Int32) (hop : xs 0 &&& 31 = 11)  : jRun ((4, xs) : jX) 2000 39 10 [.ref 64, .int (xs 1), .ref 153] jzv181 = some (.inl (some (.int 1)), jzv186) := by
  refine jr_run (e := jm10) rfl (Nat.le_of_ble_eq_true rfl) ?_
  refine jl_s (S' := ((1, [(0, .ref 64), (1, .int (xs 1)), (2, .ref 153)], [.ref 153], jzv181) : jS)) rfl ?_
  refine jl_s (S' := ((2, [(0, .ref 64), (1, .int (xs 1)), (2, .ref 153)], [.int 0, .ref 153], jzv181) : jS)) rfl ?_
  refine jl_s (S' := ((3, [(0, .ref 64), (1, .int (xs 1)), (2, .ref 153)], [.ref 64, .int 0, .ref 153], jzv181) : jS)) rfl ?_
  refine jl_s (S' := ((4, [(0, .ref 64), (1, .int (xs 1)), (2, .ref 153)], [.int (xs 1), .ref 64, .int 0, .ref 153], jzv181) : jS)) rfl ?_
  refine jl_c (t := 31) (as := [.ref 64, .int (xs 1)]) (V := jzv181) (r := (.inr 154, jzv186)) (S' := ((12, [(0, .ref 64), (1, .int (xs 1)), (2, .ref 153)], [.ref 154], jzv186) : jS)) rfl (jzl122 xs hop ) rfl ?_
  refine jl_s (S' := ((13, [(3, .ref 154), (0, .ref 64), (1, .int (xs 1)), (2, .ref 153)], [], jzv186) : jS)) rfl ?_
  refine jl_s (S' := ((14, [(3, .ref 154), (0, .ref 64), (1, .int (xs 1)), (2, .ref 153)], [.int 1], jzv186) : jS)) rfl ?_
  exact jl_r (r := (.inl (some (.int 1)), jzv186)) rfl
set_option maxHeartbeats 4000000 in
set_option maxRecDepth 100000 in
theorem jzl124 (xs : Nat → Int32) (hop : xs 0 &&& 31 = 11)  : jRun ((4, xs) : jX) 2000 38 245 [.ref 66, .int 1, .int 0, .int 0] jzv186 = some (.inl (some (.int 1)), jzv187) := by
  refine jr_run (e := jm245) rfl (Nat.le_of_ble_eq_true rfl) ?_
  refine jl_s (S' := ((1, [(0, .ref 66), (1, .int 1), (2, .int 0), (3, .int 0)], [.ref 66], jzv186) : jS)) rfl ?_
  refine jl_s (S' := ((2, [(0, .ref 66), (1, .int 1), (2, .int 0), (3, .int 0)], [.int 1, .ref 66], jzv186) : jS)) rfl ?_
  refine jl_s (S' := ((5, [(0, .ref 66), (1, .int 1), (2, .int 0), (3, .int 0)], [.ref 66], jzv186) : jS)) rfl ?_
  refine jl_s (S' := ((6, [(0, .ref 66), (1, .int 1), (2, .int 0), (3, .int 0)], [.int 1, .ref 66], jzv186) : jS)) rfl ?_
  refine jl_s (S' := ((26, [(0, .ref 66), (1, .int 1), (2, .int 0), (3, .int 0)], [.int 1, .ref 66], jzv186) : jS)) rfl ?_
  refine jl_s (S' := ((29, [(0, .ref 66), (1, .int 1), (2, .int 0), (3, .int 0)], [], jzv187) : jS)) rfl ?_
  refine jl_s (S' := ((30, [(0, .ref 66), (1, .int 1), (2, .int 0), (3, .int 0)], [.ref 66], jzv187) : jS)) rfl ?_
  refine jl_s (S' := ((33, [(0, .ref 66), (1, .int 1), (2, .int 0), (3, .int 0)], [.int 1], jzv187) : jS)) rfl ?_
  refine jl_s (S' := ((36, [(0, .ref 66), (1, .int 1), (2, .int 0), (3, .int 0)], [], jzv187) : jS)) rfl ?_
  refine jl_s (S' := ((37, [(0, .ref 66), (1, .int 1), (2, .int 0), (3, .int 0)], [.int 1], jzv187) : jS)) rfl ?_
  refine jl_s (S' := ((41, [(0, .ref 66), (1, .int 1), (2, .int 0), (3, .int 0)], [.int 1], jzv187) : jS)) rfl ?_
  exact jl_r (r := (.inl (some (.int 1)), jzv187)) rfl
set_option maxHeartbeats 4000000 in
set_option maxRecDepth 100000 in
theorem jzl125 (xs : Nat → Int32) (hop : xs 0 &&& 31 = 11)  : jRun ((4, xs) : jX) 2000 39 400 [.ref 66, .int (xs 1)] jzv186 = some (.inl (some (.int 0)), jzv187) := by
  refine jr_run (e := jm400) rfl (Nat.le_of_ble_eq_true rfl) ?_
  refine jl_s (S' := ((1, [(0, .ref 66), (1, .int (xs 1))], [.ref 66], jzv186) : jS)) rfl ?_
  refine jl_s (S' := ((2, [(0, .ref 66), (1, .int (xs 1))], [.ref 66, .ref 66], jzv186) : jS)) rfl ?_
  refine jl_s (S' := ((5, [(0, .ref 66), (1, .int (xs 1))], [.int 0, .ref 66], jzv186) : jS)) rfl ?_
  refine jl_s (S' := ((8, [(0, .ref 66), (1, .int (xs 1))], [.ref 66], jzv186) : jS)) rfl ?_
  refine jl_s (S' := ((9, [(0, .ref 66), (1, .int (xs 1))], [.int 1, .ref 66], jzv186) : jS)) rfl ?_
  refine jl_s (S' := ((13, [(0, .ref 66), (1, .int (xs 1))], [.int 1, .ref 66], jzv186) : jS)) rfl ?_
  refine jl_s (S' := ((14, [(0, .ref 66), (1, .int (xs 1))], [.ref 66, .int 1, .ref 66], jzv186) : jS)) rfl ?_
  refine jl_s (S' := ((17, [(0, .ref 66), (1, .int (xs 1))], [.int 0, .int 1, .ref 66], jzv186) : jS)) rfl ?_
  refine jl_s (S' := ((35, [(0, .ref 66), (1, .int (xs 1))], [.int 1, .ref 66], jzv186) : jS)) rfl ?_
  refine jl_s (S' := ((36, [(0, .ref 66), (1, .int (xs 1))], [.int 0, .int 1, .ref 66], jzv186) : jS)) rfl ?_
  refine jl_s (S' := ((37, [(0, .ref 66), (1, .int (xs 1))], [.int 0, .int 0, .int 1, .ref 66], jzv186) : jS)) rfl ?_
  refine jl_c (t := 245) (as := [.ref 66, .int 1, .int 0, .int 0]) (V := jzv186) (r := (.inl (some (.int 1)), jzv187)) (S' := ((40, [(0, .ref 66), (1, .int (xs 1))], [.int 1], jzv187) : jS)) rfl (jzl124 xs hop ) rfl ?_
  refine jl_s (S' := ((43, [(0, .ref 66), (1, .int (xs 1))], [], jzv187) : jS)) rfl ?_
  refine jl_s (S' := ((44, [(0, .ref 66), (1, .int (xs 1))], [.int 0], jzv187) : jS)) rfl ?_
  exact jl_r (r := (.inl (some (.int 0)), jzv187)) rfl
set_option maxHeartbeats 4000000 in
set_option maxRecDepth 100000 in
theorem jzl126 (xs : Nat → Int32) (hop : xs 0 &&& 31 = 11)  : jRun ((4, xs) : jX) 2000 39 244 [.ref 66] jzv187 = some (.inl (some (.int 1)), jzv187) := by
  refine jr_run (e := jm244) rfl (Nat.le_of_ble_eq_true rfl) ?_
  refine jl_s (S' := ((1, [(0, .ref 66)], [.ref 66], jzv187) : jS)) rfl ?_
  refine jl_s (S' := ((4, [(0, .ref 66)], [.int 1], jzv187) : jS)) rfl ?_
  exact jl_r (r := (.inl (some (.int 1)), jzv187)) rfl
set_option maxHeartbeats 4000000 in
set_option maxRecDepth 100000 in
theorem jzl127 (xs : Nat → Int32) (hop : xs 0 &&& 31 = 11)  : jLoop (jRun ((4, xs) : jX) 2000 39) ((4, xs) : jX) jm18 1000 ((23, [(4, .int 0), (3, .ref 153), (2, .ref 66), (1, .ref 64), (0, .ref 63)], [], jzv181) : jS) = some (.inl (some (.int 1)), jzv187) := by
  refine jl_s (S' := ((25, [(4, .int 0), (3, .ref 153), (2, .ref 66), (1, .ref 64), (0, .ref 63)], [.int 0], jzv181) : jS)) rfl ?_
  refine jl_s (S' := ((26, [(4, .int 0), (3, .ref 153), (2, .ref 66), (1, .ref 64), (0, .ref 63)], [.ref 63, .int 0], jzv181) : jS)) rfl ?_
  refine jl_s (S' := ((27, [(4, .int 0), (3, .ref 153), (2, .ref 66), (1, .ref 64), (0, .ref 63)], [.int 4, .int 0], jzv181) : jS)) rfl ?_
  refine jl_s (S' := ((28, [(4, .int 0), (3, .ref 153), (2, .ref 66), (1, .ref 64), (0, .ref 63)], [.int 4, .int 4, .int 0], jzv181) : jS)) rfl ?_
  refine jl_s (S' := ((29, [(4, .int 0), (3, .ref 153), (2, .ref 66), (1, .ref 64), (0, .ref 63)], [.int 0, .int 0], jzv181) : jS)) rfl ?_
  refine jl_s (S' := ((32, [(4, .int 0), (3, .ref 153), (2, .ref 66), (1, .ref 64), (0, .ref 63)], [], jzv181) : jS)) rfl ?_
  refine jl_s (S' := ((33, [(4, .int 0), (3, .ref 153), (2, .ref 66), (1, .ref 64), (0, .ref 63)], [.ref 63], jzv181) : jS)) rfl ?_
  refine jl_s (S' := ((35, [(4, .int 0), (3, .ref 153), (2, .ref 66), (1, .ref 64), (0, .ref 63)], [.int 0, .ref 63], jzv181) : jS)) rfl ?_
  refine jl_s (S' := ((36, [(4, .int 0), (3, .ref 153), (2, .ref 66), (1, .ref 64), (0, .ref 63)], [.int (xs 0)], jzv181) : jS)) rfl ?_
  refine jl_s (S' := ((38, [(4, .int 0), (3, .ref 153), (2, .ref 66), (1, .ref 64), (0, .ref 63)], [.int 31, .int (xs 0)], jzv181) : jS)) rfl ?_
  refine jl_s (S' := ((39, [(4, .int 0), (3, .ref 153), (2, .ref 66), (1, .ref 64), (0, .ref 63)], [.int ((xs 0) &&& 31)], jzv181) : jS)) rfl ?_
  rw [hop]
  refine jl_s (S' := ((721, [(4, .int 0), (3, .ref 153), (2, .ref 66), (1, .ref 64), (0, .ref 63)], [], jzv181) : jS)) rfl ?_
  refine jl_s (S' := ((722, [(4, .int 0), (3, .ref 153), (2, .ref 66), (1, .ref 64), (0, .ref 63)], [.ref 64], jzv181) : jS)) rfl ?_
  refine jl_s (S' := ((723, [(4, .int 0), (3, .ref 153), (2, .ref 66), (1, .ref 64), (0, .ref 63)], [.ref 63, .ref 64], jzv181) : jS)) rfl ?_
  refine jl_s (S' := ((725, [(4, .int 0), (3, .ref 153), (2, .ref 66), (1, .ref 64), (0, .ref 63)], [.int 0, .ref 63, .ref 64], jzv181) : jS)) rfl ?_
  refine jl_s (S' := ((726, [(4, .int 0), (3, .ref 153), (2, .ref 66), (1, .ref 64), (0, .ref 63)], [.int 1, .int 0, .ref 63, .ref 64], jzv181) : jS)) rfl ?_
  refine jl_s (S' := ((727, [(4, .int 0), (3, .ref 153), (2, .ref 66), (1, .ref 64), (0, .ref 63)], [.int 1, .ref 63, .ref 64], jzv181) : jS)) rfl ?_
  refine jl_s (S' := ((728, [(4, .int 0), (3, .ref 153), (2, .ref 66), (1, .ref 64), (0, .ref 63)], [.int (xs 1), .ref 64], jzv181) : jS)) rfl ?_
  refine jl_s (S' := ((729, [(4, .int 0), (3, .ref 153), (2, .ref 66), (1, .ref 64), (0, .ref 63)], [.ref 153, .int (xs 1), .ref 64], jzv181) : jS)) rfl ?_
  refine jl_c (t := 10) (as := [.ref 64, .int (xs 1), .ref 153]) (V := jzv181) (r := (.inl (some (.int 1)), jzv186)) (S' := ((732, [(4, .int 0), (3, .ref 153), (2, .ref 66), (1, .ref 64), (0, .ref 63)], [.int 1], jzv186) : jS)) rfl (jzl123 xs hop ) rfl ?_
  refine jl_s (S' := ((734, [(5, .int 1), (4, .int 0), (3, .ref 153), (2, .ref 66), (1, .ref 64), (0, .ref 63)], [], jzv186) : jS)) rfl ?_
  refine jl_s (S' := ((735, [(5, .int 1), (4, .int 0), (3, .ref 153), (2, .ref 66), (1, .ref 64), (0, .ref 63)], [.ref 66], jzv186) : jS)) rfl ?_
  refine jl_s (S' := ((736, [(5, .int 1), (4, .int 0), (3, .ref 153), (2, .ref 66), (1, .ref 64), (0, .ref 63)], [.ref 63, .ref 66], jzv186) : jS)) rfl ?_
  refine jl_s (S' := ((738, [(5, .int 1), (4, .int 0), (3, .ref 153), (2, .ref 66), (1, .ref 64), (0, .ref 63)], [.int 0, .ref 63, .ref 66], jzv186) : jS)) rfl ?_
  refine jl_s (S' := ((739, [(5, .int 1), (4, .int 0), (3, .ref 153), (2, .ref 66), (1, .ref 64), (0, .ref 63)], [.int 1, .int 0, .ref 63, .ref 66], jzv186) : jS)) rfl ?_
  refine jl_s (S' := ((740, [(5, .int 1), (4, .int 0), (3, .ref 153), (2, .ref 66), (1, .ref 64), (0, .ref 63)], [.int 1, .ref 63, .ref 66], jzv186) : jS)) rfl ?_
  refine jl_s (S' := ((741, [(5, .int 1), (4, .int 0), (3, .ref 153), (2, .ref 66), (1, .ref 64), (0, .ref 63)], [.int (xs 1), .ref 66], jzv186) : jS)) rfl ?_
  refine jl_c (t := 400) (as := [.ref 66, .int (xs 1)]) (V := jzv186) (r := (.inl (some (.int 0)), jzv187)) (S' := ((744, [(5, .int 1), (4, .int 0), (3, .ref 153), (2, .ref 66), (1, .ref 64), (0, .ref 63)], [.int 0], jzv187) : jS)) rfl (jzl125 xs hop ) rfl ?_
  refine jl_s (S' := ((746, [(6, .int 0), (5, .int 1), (4, .int 0), (3, .ref 153), (2, .ref 66), (1, .ref 64), (0, .ref 63)], [], jzv187) : jS)) rfl ?_
  refine jl_s (S' := ((747, [(6, .int 0), (5, .int 1), (4, .int 0), (3, .ref 153), (2, .ref 66), (1, .ref 64), (0, .ref 63)], [.ref 66], jzv187) : jS)) rfl ?_
  refine jl_c (t := 244) (as := [.ref 66]) (V := jzv187) (r := (.inl (some (.int 1)), jzv187)) (S' := ((750, [(6, .int 0), (5, .int 1), (4, .int 0), (3, .ref 153), (2, .ref 66), (1, .ref 64), (0, .ref 63)], [.int 1], jzv187) : jS)) rfl (jzl126 xs hop ) rfl ?_
  refine jl_s (S' := ((752, [(6, .int 0), (5, .int 1), (4, .int 0), (3, .ref 153), (2, .ref 66), (1, .ref 64), (0, .ref 63)], [.int 1, .int 1], jzv187) : jS)) rfl ?_
  refine jl_s (S' := ((757, [(6, .int 0), (5, .int 1), (4, .int 0), (3, .ref 153), (2, .ref 66), (1, .ref 64), (0, .ref 63)], [], jzv187) : jS)) rfl ?_
  refine jl_s (S' := ((759, [(6, .int 0), (5, .int 1), (4, .int 0), (3, .ref 153), (2, .ref 66), (1, .ref 64), (0, .ref 63)], [.int 1], jzv187) : jS)) rfl ?_
  refine jl_s (S' := ((774, [(6, .int 0), (5, .int 1), (4, .int 0), (3, .ref 153), (2, .ref 66), (1, .ref 64), (0, .ref 63)], [], jzv187) : jS)) rfl ?_
  refine jl_s (S' := ((1193, [(6, .int 0), (5, .int 1), (4, .int 0), (3, .ref 153), (2, .ref 66), (1, .ref 64), (0, .ref 63)], [], jzv187) : jS)) rfl ?_
  refine jl_s (S' := ((1196, [(4, .int 4), (6, .int 0), (5, .int 1), (3, .ref 153), (2, .ref 66), (1, .ref 64), (0, .ref 63)], [], jzv187) : jS)) rfl ?_
  refine jl_s (S' := ((23, [(4, .int 4), (6, .int 0), (5, .int 1), (3, .ref 153), (2, .ref 66), (1, .ref 64), (0, .ref 63)], [], jzv187) : jS)) rfl ?_
  refine jl_s (S' := ((25, [(4, .int 4), (6, .int 0), (5, .int 1), (3, .ref 153), (2, .ref 66), (1, .ref 64), (0, .ref 63)], [.int 4], jzv187) : jS)) rfl ?_
  refine jl_s (S' := ((26, [(4, .int 4), (6, .int 0), (5, .int 1), (3, .ref 153), (2, .ref 66), (1, .ref 64), (0, .ref 63)], [.ref 63, .int 4], jzv187) : jS)) rfl ?_
  refine jl_s (S' := ((27, [(4, .int 4), (6, .int 0), (5, .int 1), (3, .ref 153), (2, .ref 66), (1, .ref 64), (0, .ref 63)], [.int 4, .int 4], jzv187) : jS)) rfl ?_
  refine jl_s (S' := ((28, [(4, .int 4), (6, .int 0), (5, .int 1), (3, .ref 153), (2, .ref 66), (1, .ref 64), (0, .ref 63)], [.int 4, .int 4, .int 4], jzv187) : jS)) rfl ?_
  refine jl_s (S' := ((29, [(4, .int 4), (6, .int 0), (5, .int 1), (3, .ref 153), (2, .ref 66), (1, .ref 64), (0, .ref 63)], [.int 0, .int 4], jzv187) : jS)) rfl ?_
  refine jl_s (S' := ((1199, [(4, .int 4), (6, .int 0), (5, .int 1), (3, .ref 153), (2, .ref 66), (1, .ref 64), (0, .ref 63)], [], jzv187) : jS)) rfl ?_
  refine jl_s (S' := ((1200, [(4, .int 4), (6, .int 0), (5, .int 1), (3, .ref 153), (2, .ref 66), (1, .ref 64), (0, .ref 63)], [.int 1], jzv187) : jS)) rfl ?_
  exact jl_r (r := (.inl (some (.int 1)), jzv187)) rfl
-- op 11 : jzl127
set_option maxHeartbeats 4000000 in
set_option maxRecDepth 100000 in
theorem jzl128 (xs : Nat → Int32) (hop : xs 0 &&& 31 = 12)  : jRun ((4, xs) : jX) 2000 37 39 [.ref 64] jzv181 = some (.inr 154, jzv186) := by
  refine jr_run (e := jm39) rfl (Nat.le_of_ble_eq_true rfl) ?_
  refine jl_s (S' := ((1, [(0, .ref 64)], [.ref 64], jzv181) : jS)) rfl ?_
  refine jl_s (S' := ((4, [(0, .ref 64)], [.null], jzv181) : jS)) rfl ?_
  refine jl_s (S' := ((5, [(1, .null), (0, .ref 64)], [], jzv181) : jS)) rfl ?_
  refine jl_s (S' := ((6, [(1, .null), (0, .ref 64)], [.null], jzv181) : jS)) rfl ?_
  refine jl_s (S' := ((9, [(1, .null), (0, .ref 64)], [], jzv181) : jS)) rfl ?_
  exact jl_r (r := (.inr 154, jzv186)) rfl
set_option maxHeartbeats 4000000 in
set_option maxRecDepth 100000 in
theorem jzl129 (xs : Nat → Int32) (hop : xs 0 &&& 31 = 12)  : jRun ((4, xs) : jX) 2000 38 32 [.ref 64, .int (xs 1)] jzv181 = some (.inr 154, jzv186) := by
  refine jr_run (e := jm32) rfl (Nat.le_of_ble_eq_true rfl) ?_
  refine jl_s (S' := ((1, [(0, .ref 64), (1, .int (xs 1))], [.ref 64], jzv181) : jS)) rfl ?_
  exact jl_ct (t := 39) (as := [.ref 64]) (V := jzv181) (r := (.inr 154, jzv186)) (q := (.inr 154, jzv186)) rfl (jzl128 xs hop ) rfl
set_option maxHeartbeats 4000000 in
set_option maxRecDepth 100000 in
theorem jzl130 (xs : Nat → Int32) (hop : xs 0 &&& 31 = 12)  : jRun ((4, xs) : jX) 2000 39 11 [.ref 64, .int (xs 1), .ref 153] jzv181 = some (.inl (some (.int 1)), jzv186) := by
  refine jr_run (e := jm11) rfl (Nat.le_of_ble_eq_true rfl) ?_
  refine jl_s (S' := ((1, [(0, .ref 64), (1, .int (xs 1)), (2, .ref 153)], [.ref 153], jzv181) : jS)) rfl ?_
  refine jl_s (S' := ((2, [(0, .ref 64), (1, .int (xs 1)), (2, .ref 153)], [.int 0, .ref 153], jzv181) : jS)) rfl ?_
  refine jl_s (S' := ((3, [(0, .ref 64), (1, .int (xs 1)), (2, .ref 153)], [.ref 64, .int 0, .ref 153], jzv181) : jS)) rfl ?_
  refine jl_s (S' := ((4, [(0, .ref 64), (1, .int (xs 1)), (2, .ref 153)], [.int (xs 1), .ref 64, .int 0, .ref 153], jzv181) : jS)) rfl ?_
  refine jl_c (t := 32) (as := [.ref 64, .int (xs 1)]) (V := jzv181) (r := (.inr 154, jzv186)) (S' := ((12, [(0, .ref 64), (1, .int (xs 1)), (2, .ref 153)], [.ref 154], jzv186) : jS)) rfl (jzl129 xs hop ) rfl ?_
  refine jl_s (S' := ((13, [(3, .ref 154), (0, .ref 64), (1, .int (xs 1)), (2, .ref 153)], [], jzv186) : jS)) rfl ?_
  refine jl_s (S' := ((14, [(3, .ref 154), (0, .ref 64), (1, .int (xs 1)), (2, .ref 153)], [.int 1], jzv186) : jS)) rfl ?_
  exact jl_r (r := (.inl (some (.int 1)), jzv186)) rfl
set_option maxHeartbeats 4000000 in
set_option maxRecDepth 100000 in
theorem jzl131 (xs : Nat → Int32) (hop : xs 0 &&& 31 = 12)  : jRun ((4, xs) : jX) 2000 38 245 [.ref 66, .int 1, .int 0, .int 0] jzv186 = some (.inl (some (.int 1)), jzv187) := by
  refine jr_run (e := jm245) rfl (Nat.le_of_ble_eq_true rfl) ?_
  refine jl_s (S' := ((1, [(0, .ref 66), (1, .int 1), (2, .int 0), (3, .int 0)], [.ref 66], jzv186) : jS)) rfl ?_
  refine jl_s (S' := ((2, [(0, .ref 66), (1, .int 1), (2, .int 0), (3, .int 0)], [.int 1, .ref 66], jzv186) : jS)) rfl ?_
  refine jl_s (S' := ((5, [(0, .ref 66), (1, .int 1), (2, .int 0), (3, .int 0)], [.ref 66], jzv186) : jS)) rfl ?_
  refine jl_s (S' := ((6, [(0, .ref 66), (1, .int 1), (2, .int 0), (3, .int 0)], [.int 1, .ref 66], jzv186) : jS)) rfl ?_
  refine jl_s (S' := ((26, [(0, .ref 66), (1, .int 1), (2, .int 0), (3, .int 0)], [.int 1, .ref 66], jzv186) : jS)) rfl ?_
  refine jl_s (S' := ((29, [(0, .ref 66), (1, .int 1), (2, .int 0), (3, .int 0)], [], jzv187) : jS)) rfl ?_
  refine jl_s (S' := ((30, [(0, .ref 66), (1, .int 1), (2, .int 0), (3, .int 0)], [.ref 66], jzv187) : jS)) rfl ?_
  refine jl_s (S' := ((33, [(0, .ref 66), (1, .int 1), (2, .int 0), (3, .int 0)], [.int 1], jzv187) : jS)) rfl ?_
  refine jl_s (S' := ((36, [(0, .ref 66), (1, .int 1), (2, .int 0), (3, .int 0)], [], jzv187) : jS)) rfl ?_
  refine jl_s (S' := ((37, [(0, .ref 66), (1, .int 1), (2, .int 0), (3, .int 0)], [.int 1], jzv187) : jS)) rfl ?_
  refine jl_s (S' := ((41, [(0, .ref 66), (1, .int 1), (2, .int 0), (3, .int 0)], [.int 1], jzv187) : jS)) rfl ?_
  exact jl_r (r := (.inl (some (.int 1)), jzv187)) rfl
set_option maxHeartbeats 4000000 in
set_option maxRecDepth 100000 in
theorem jzl132 (xs : Nat → Int32) (hop : xs 0 &&& 31 = 12)  : jRun ((4, xs) : jX) 2000 39 401 [.ref 66, .int (xs 1)] jzv186 = some (.inl (some (.int 0)), jzv187) := by
  refine jr_run (e := jm401) rfl (Nat.le_of_ble_eq_true rfl) ?_
  refine jl_s (S' := ((1, [(0, .ref 66), (1, .int (xs 1))], [.ref 66], jzv186) : jS)) rfl ?_
  refine jl_s (S' := ((2, [(0, .ref 66), (1, .int (xs 1))], [.ref 66, .ref 66], jzv186) : jS)) rfl ?_
  refine jl_s (S' := ((5, [(0, .ref 66), (1, .int (xs 1))], [.int 0, .ref 66], jzv186) : jS)) rfl ?_
  refine jl_s (S' := ((8, [(0, .ref 66), (1, .int (xs 1))], [.ref 66], jzv186) : jS)) rfl ?_
  refine jl_s (S' := ((9, [(0, .ref 66), (1, .int (xs 1))], [.int 1, .ref 66], jzv186) : jS)) rfl ?_
  refine jl_s (S' := ((13, [(0, .ref 66), (1, .int (xs 1))], [.int 1, .ref 66], jzv186) : jS)) rfl ?_
  refine jl_s (S' := ((14, [(0, .ref 66), (1, .int (xs 1))], [.ref 66, .int 1, .ref 66], jzv186) : jS)) rfl ?_
  refine jl_s (S' := ((17, [(0, .ref 66), (1, .int (xs 1))], [.int 0, .int 1, .ref 66], jzv186) : jS)) rfl ?_
  refine jl_s (S' := ((35, [(0, .ref 66), (1, .int (xs 1))], [.int 1, .ref 66], jzv186) : jS)) rfl ?_
  refine jl_s (S' := ((36, [(0, .ref 66), (1, .int (xs 1))], [.int 0, .int 1, .ref 66], jzv186) : jS)) rfl ?_
  refine jl_s (S' := ((37, [(0, .ref 66), (1, .int (xs 1))], [.int 0, .int 0, .int 1, .ref 66], jzv186) : jS)) rfl ?_
  refine jl_c (t := 245) (as := [.ref 66, .int 1, .int 0, .int 0]) (V := jzv186) (r := (.inl (some (.int 1)), jzv187)) (S' := ((40, [(0, .ref 66), (1, .int (xs 1))], [.int 1], jzv187) : jS)) rfl (jzl131 xs hop ) rfl ?_
  refine jl_s (S' := ((43, [(0, .ref 66), (1, .int (xs 1))], [], jzv187) : jS)) rfl ?_
  refine jl_s (S' := ((44, [(0, .ref 66), (1, .int (xs 1))], [.int 0], jzv187) : jS)) rfl ?_
  exact jl_r (r := (.inl (some (.int 0)), jzv187)) rfl
set_option maxHeartbeats 4000000 in
set_option maxRecDepth 100000 in
theorem jzl133 (xs : Nat → Int32) (hop : xs 0 &&& 31 = 12)  : jRun ((4, xs) : jX) 2000 39 244 [.ref 66] jzv187 = some (.inl (some (.int 1)), jzv187) := by
  refine jr_run (e := jm244) rfl (Nat.le_of_ble_eq_true rfl) ?_
  refine jl_s (S' := ((1, [(0, .ref 66)], [.ref 66], jzv187) : jS)) rfl ?_
  refine jl_s (S' := ((4, [(0, .ref 66)], [.int 1], jzv187) : jS)) rfl ?_
  exact jl_r (r := (.inl (some (.int 1)), jzv187)) rfl
set_option maxHeartbeats 4000000 in
set_option maxRecDepth 100000 in
theorem jzl134 (xs : Nat → Int32) (hop : xs 0 &&& 31 = 12)  : jLoop (jRun ((4, xs) : jX) 2000 39) ((4, xs) : jX) jm18 1000 ((23, [(4, .int 0), (3, .ref 153), (2, .ref 66), (1, .ref 64), (0, .ref 63)], [], jzv181) : jS) = some (.inl (some (.int 1)), jzv187) := by
  refine jl_s (S' := ((25, [(4, .int 0), (3, .ref 153), (2, .ref 66), (1, .ref 64), (0, .ref 63)], [.int 0], jzv181) : jS)) rfl ?_
  refine jl_s (S' := ((26, [(4, .int 0), (3, .ref 153), (2, .ref 66), (1, .ref 64), (0, .ref 63)], [.ref 63, .int 0], jzv181) : jS)) rfl ?_
  refine jl_s (S' := ((27, [(4, .int 0), (3, .ref 153), (2, .ref 66), (1, .ref 64), (0, .ref 63)], [.int 4, .int 0], jzv181) : jS)) rfl ?_
  refine jl_s (S' := ((28, [(4, .int 0), (3, .ref 153), (2, .ref 66), (1, .ref 64), (0, .ref 63)], [.int 4, .int 4, .int 0], jzv181) : jS)) rfl ?_
  refine jl_s (S' := ((29, [(4, .int 0), (3, .ref 153), (2, .ref 66), (1, .ref 64), (0, .ref 63)], [.int 0, .int 0], jzv181) : jS)) rfl ?_
  refine jl_s (S' := ((32, [(4, .int 0), (3, .ref 153), (2, .ref 66), (1, .ref 64), (0, .ref 63)], [], jzv181) : jS)) rfl ?_
  refine jl_s (S' := ((33, [(4, .int 0), (3, .ref 153), (2, .ref 66), (1, .ref 64), (0, .ref 63)], [.ref 63], jzv181) : jS)) rfl ?_
  refine jl_s (S' := ((35, [(4, .int 0), (3, .ref 153), (2, .ref 66), (1, .ref 64), (0, .ref 63)], [.int 0, .ref 63], jzv181) : jS)) rfl ?_
  refine jl_s (S' := ((36, [(4, .int 0), (3, .ref 153), (2, .ref 66), (1, .ref 64), (0, .ref 63)], [.int (xs 0)], jzv181) : jS)) rfl ?_
  refine jl_s (S' := ((38, [(4, .int 0), (3, .ref 153), (2, .ref 66), (1, .ref 64), (0, .ref 63)], [.int 31, .int (xs 0)], jzv181) : jS)) rfl ?_
  refine jl_s (S' := ((39, [(4, .int 0), (3, .ref 153), (2, .ref 66), (1, .ref 64), (0, .ref 63)], [.int ((xs 0) &&& 31)], jzv181) : jS)) rfl ?_
  rw [hop]
  refine jl_s (S' := ((777, [(4, .int 0), (3, .ref 153), (2, .ref 66), (1, .ref 64), (0, .ref 63)], [], jzv181) : jS)) rfl ?_
  refine jl_s (S' := ((778, [(4, .int 0), (3, .ref 153), (2, .ref 66), (1, .ref 64), (0, .ref 63)], [.ref 64], jzv181) : jS)) rfl ?_
  refine jl_s (S' := ((779, [(4, .int 0), (3, .ref 153), (2, .ref 66), (1, .ref 64), (0, .ref 63)], [.ref 63, .ref 64], jzv181) : jS)) rfl ?_
  refine jl_s (S' := ((781, [(4, .int 0), (3, .ref 153), (2, .ref 66), (1, .ref 64), (0, .ref 63)], [.int 0, .ref 63, .ref 64], jzv181) : jS)) rfl ?_
  refine jl_s (S' := ((782, [(4, .int 0), (3, .ref 153), (2, .ref 66), (1, .ref 64), (0, .ref 63)], [.int 1, .int 0, .ref 63, .ref 64], jzv181) : jS)) rfl ?_
  refine jl_s (S' := ((783, [(4, .int 0), (3, .ref 153), (2, .ref 66), (1, .ref 64), (0, .ref 63)], [.int 1, .ref 63, .ref 64], jzv181) : jS)) rfl ?_
  refine jl_s (S' := ((784, [(4, .int 0), (3, .ref 153), (2, .ref 66), (1, .ref 64), (0, .ref 63)], [.int (xs 1), .ref 64], jzv181) : jS)) rfl ?_
  refine jl_s (S' := ((785, [(4, .int 0), (3, .ref 153), (2, .ref 66), (1, .ref 64), (0, .ref 63)], [.ref 153, .int (xs 1), .ref 64], jzv181) : jS)) rfl ?_
  refine jl_c (t := 11) (as := [.ref 64, .int (xs 1), .ref 153]) (V := jzv181) (r := (.inl (some (.int 1)), jzv186)) (S' := ((788, [(4, .int 0), (3, .ref 153), (2, .ref 66), (1, .ref 64), (0, .ref 63)], [.int 1], jzv186) : jS)) rfl (jzl130 xs hop ) rfl ?_
  refine jl_s (S' := ((790, [(5, .int 1), (4, .int 0), (3, .ref 153), (2, .ref 66), (1, .ref 64), (0, .ref 63)], [], jzv186) : jS)) rfl ?_
  refine jl_s (S' := ((791, [(5, .int 1), (4, .int 0), (3, .ref 153), (2, .ref 66), (1, .ref 64), (0, .ref 63)], [.ref 66], jzv186) : jS)) rfl ?_
  refine jl_s (S' := ((792, [(5, .int 1), (4, .int 0), (3, .ref 153), (2, .ref 66), (1, .ref 64), (0, .ref 63)], [.ref 63, .ref 66], jzv186) : jS)) rfl ?_
  refine jl_s (S' := ((794, [(5, .int 1), (4, .int 0), (3, .ref 153), (2, .ref 66), (1, .ref 64), (0, .ref 63)], [.int 0, .ref 63, .ref 66], jzv186) : jS)) rfl ?_
  refine jl_s (S' := ((795, [(5, .int 1), (4, .int 0), (3, .ref 153), (2, .ref 66), (1, .ref 64), (0, .ref 63)], [.int 1, .int 0, .ref 63, .ref 66], jzv186) : jS)) rfl ?_
  refine jl_s (S' := ((796, [(5, .int 1), (4, .int 0), (3, .ref 153), (2, .ref 66), (1, .ref 64), (0, .ref 63)], [.int 1, .ref 63, .ref 66], jzv186) : jS)) rfl ?_
  refine jl_s (S' := ((797, [(5, .int 1), (4, .int 0), (3, .ref 153), (2, .ref 66), (1, .ref 64), (0, .ref 63)], [.int (xs 1), .ref 66], jzv186) : jS)) rfl ?_
  refine jl_c (t := 401) (as := [.ref 66, .int (xs 1)]) (V := jzv186) (r := (.inl (some (.int 0)), jzv187)) (S' := ((800, [(5, .int 1), (4, .int 0), (3, .ref 153), (2, .ref 66), (1, .ref 64), (0, .ref 63)], [.int 0], jzv187) : jS)) rfl (jzl132 xs hop ) rfl ?_
  refine jl_s (S' := ((802, [(6, .int 0), (5, .int 1), (4, .int 0), (3, .ref 153), (2, .ref 66), (1, .ref 64), (0, .ref 63)], [], jzv187) : jS)) rfl ?_
  refine jl_s (S' := ((803, [(6, .int 0), (5, .int 1), (4, .int 0), (3, .ref 153), (2, .ref 66), (1, .ref 64), (0, .ref 63)], [.ref 66], jzv187) : jS)) rfl ?_
  refine jl_c (t := 244) (as := [.ref 66]) (V := jzv187) (r := (.inl (some (.int 1)), jzv187)) (S' := ((806, [(6, .int 0), (5, .int 1), (4, .int 0), (3, .ref 153), (2, .ref 66), (1, .ref 64), (0, .ref 63)], [.int 1], jzv187) : jS)) rfl (jzl133 xs hop ) rfl ?_
  refine jl_s (S' := ((808, [(6, .int 0), (5, .int 1), (4, .int 0), (3, .ref 153), (2, .ref 66), (1, .ref 64), (0, .ref 63)], [.int 1, .int 1], jzv187) : jS)) rfl ?_
  refine jl_s (S' := ((813, [(6, .int 0), (5, .int 1), (4, .int 0), (3, .ref 153), (2, .ref 66), (1, .ref 64), (0, .ref 63)], [], jzv187) : jS)) rfl ?_
  refine jl_s (S' := ((815, [(6, .int 0), (5, .int 1), (4, .int 0), (3, .ref 153), (2, .ref 66), (1, .ref 64), (0, .ref 63)], [.int 1], jzv187) : jS)) rfl ?_
  refine jl_s (S' := ((830, [(6, .int 0), (5, .int 1), (4, .int 0), (3, .ref 153), (2, .ref 66), (1, .ref 64), (0, .ref 63)], [], jzv187) : jS)) rfl ?_
  refine jl_s (S' := ((1193, [(6, .int 0), (5, .int 1), (4, .int 0), (3, .ref 153), (2, .ref 66), (1, .ref 64), (0, .ref 63)], [], jzv187) : jS)) rfl ?_
  refine jl_s (S' := ((1196, [(4, .int 4), (6, .int 0), (5, .int 1), (3, .ref 153), (2, .ref 66), (1, .ref 64), (0, .ref 63)], [], jzv187) : jS)) rfl ?_
  refine jl_s (S' := ((23, [(4, .int 4), (6, .int 0), (5, .int 1), (3, .ref 153), (2, .ref 66), (1, .ref 64), (0, .ref 63)], [], jzv187) : jS)) rfl ?_
  refine jl_s (S' := ((25, [(4, .int 4), (6, .int 0), (5, .int 1), (3, .ref 153), (2, .ref 66), (1, .ref 64), (0, .ref 63)], [.int 4], jzv187) : jS)) rfl ?_
  refine jl_s (S' := ((26, [(4, .int 4), (6, .int 0), (5, .int 1), (3, .ref 153), (2, .ref 66), (1, .ref 64), (0, .ref 63)], [.ref 63, .int 4], jzv187) : jS)) rfl ?_
  refine jl_s (S' := ((27, [(4, .int 4), (6, .int 0), (5, .int 1), (3, .ref 153), (2, .ref 66), (1, .ref 64), (0, .ref 63)], [.int 4, .int 4], jzv187) : jS)) rfl ?_
  refine jl_s (S' := ((28, [(4, .int 4), (6, .int 0), (5, .int 1), (3, .ref 153), (2, .ref 66), (1, .ref 64), (0, .ref 63)], [.int 4, .int 4, .int 4], jzv187) : jS)) rfl ?_
  refine jl_s (S' := ((29, [(4, .int 4), (6, .int 0), (5, .int 1), (3, .ref 153), (2, .ref 66), (1, .ref 64), (0, .ref 63)], [.int 0, .int 4], jzv187) : jS)) rfl ?_
  refine jl_s (S' := ((1199, [(4, .int 4), (6, .int 0), (5, .int 1), (3, .ref 153), (2, .ref 66), (1, .ref 64), (0, .ref 63)], [], jzv187) : jS)) rfl ?_
  refine jl_s (S' := ((1200, [(4, .int 4), (6, .int 0), (5, .int 1), (3, .ref 153), (2, .ref 66), (1, .ref 64), (0, .ref 63)], [.int 1], jzv187) : jS)) rfl ?_
  exact jl_r (r := (.inl (some (.int 1)), jzv187)) rfl
-- op 12 : jzl134
set_option maxHeartbeats 4000000 in
set_option maxRecDepth 100000 in
theorem jzl135 (xs : Nat → Int32) (hop : xs 0 &&& 31 = 13)  : jRun ((4, xs) : jX) 2000 37 39 [.ref 64] jzv181 = some (.inr 154, jzv186) := by
  refine jr_run (e := jm39) rfl (Nat.le_of_ble_eq_true rfl) ?_
  refine jl_s (S' := ((1, [(0, .ref 64)], [.ref 64], jzv181) : jS)) rfl ?_
  refine jl_s (S' := ((4, [(0, .ref 64)], [.null], jzv181) : jS)) rfl ?_
  refine jl_s (S' := ((5, [(1, .null), (0, .ref 64)], [], jzv181) : jS)) rfl ?_
  refine jl_s (S' := ((6, [(1, .null), (0, .ref 64)], [.null], jzv181) : jS)) rfl ?_
  refine jl_s (S' := ((9, [(1, .null), (0, .ref 64)], [], jzv181) : jS)) rfl ?_
  exact jl_r (r := (.inr 154, jzv186)) rfl
set_option maxHeartbeats 4000000 in
set_option maxRecDepth 100000 in
theorem jzl136 (xs : Nat → Int32) (hop : xs 0 &&& 31 = 13)  : jRun ((4, xs) : jX) 2000 38 33 [.ref 64] jzv181 = some (.inr 154, jzv186) := by
  refine jr_run (e := jm33) rfl (Nat.le_of_ble_eq_true rfl) ?_
  refine jl_s (S' := ((1, [(0, .ref 64)], [.ref 64], jzv181) : jS)) rfl ?_
  exact jl_ct (t := 39) (as := [.ref 64]) (V := jzv181) (r := (.inr 154, jzv186)) (q := (.inr 154, jzv186)) rfl (jzl135 xs hop ) rfl
set_option maxHeartbeats 4000000 in
set_option maxRecDepth 100000 in
theorem jzl137 (xs : Nat → Int32) (hop : xs 0 &&& 31 = 13)  : jRun ((4, xs) : jX) 2000 39 12 [.ref 64, .ref 153] jzv181 = some (.inl (some (.int 1)), jzv186) := by
  refine jr_run (e := jm12) rfl (Nat.le_of_ble_eq_true rfl) ?_
  refine jl_s (S' := ((1, [(0, .ref 64), (1, .ref 153)], [.ref 153], jzv181) : jS)) rfl ?_
  refine jl_s (S' := ((2, [(0, .ref 64), (1, .ref 153)], [.int 0, .ref 153], jzv181) : jS)) rfl ?_
  refine jl_s (S' := ((3, [(0, .ref 64), (1, .ref 153)], [.ref 64, .int 0, .ref 153], jzv181) : jS)) rfl ?_
  refine jl_c (t := 33) (as := [.ref 64]) (V := jzv181) (r := (.inr 154, jzv186)) (S' := ((11, [(0, .ref 64), (1, .ref 153)], [.ref 154], jzv186) : jS)) rfl (jzl136 xs hop ) rfl ?_
  refine jl_s (S' := ((12, [(2, .ref 154), (0, .ref 64), (1, .ref 153)], [], jzv186) : jS)) rfl ?_
  refine jl_s (S' := ((13, [(2, .ref 154), (0, .ref 64), (1, .ref 153)], [.int 1], jzv186) : jS)) rfl ?_
  exact jl_r (r := (.inl (some (.int 1)), jzv186)) rfl
set_option maxHeartbeats 4000000 in
set_option maxRecDepth 100000 in
theorem jzl138 (xs : Nat → Int32) (hop : xs 0 &&& 31 = 13)  : jRun ((4, xs) : jX) 2000 38 245 [.ref 66, .int 1, .int 0, .int 0] jzv186 = some (.inl (some (.int 1)), jzv187) := by
  refine jr_run (e := jm245) rfl (Nat.le_of_ble_eq_true rfl) ?_
  refine jl_s (S' := ((1, [(0, .ref 66), (1, .int 1), (2, .int 0), (3, .int 0)], [.ref 66], jzv186) : jS)) rfl ?_
  refine jl_s (S' := ((2, [(0, .ref 66), (1, .int 1), (2, .int 0), (3, .int 0)], [.int 1, .ref 66], jzv186) : jS)) rfl ?_
  refine jl_s (S' := ((5, [(0, .ref 66), (1, .int 1), (2, .int 0), (3, .int 0)], [.ref 66], jzv186) : jS)) rfl ?_
  refine jl_s (S' := ((6, [(0, .ref 66), (1, .int 1), (2, .int 0), (3, .int 0)], [.int 1, .ref 66], jzv186) : jS)) rfl ?_
  refine jl_s (S' := ((26, [(0, .ref 66), (1, .int 1), (2, .int 0), (3, .int 0)], [.int 1, .ref 66], jzv186) : jS)) rfl ?_
  refine jl_s (S' := ((29, [(0, .ref 66), (1, .int 1), (2, .int 0), (3, .int 0)], [], jzv187) : jS)) rfl ?_
  refine jl_s (S' := ((30, [(0, .ref 66), (1, .int 1), (2, .int 0), (3, .int 0)], [.ref 66], jzv187) : jS)) rfl ?_
  refine jl_s (S' := ((33, [(0, .ref 66), (1, .int 1), (2, .int 0), (3, .int 0)], [.int 1], jzv187) : jS)) rfl ?_
  refine jl_s (S' := ((36, [(0, .ref 66), (1, .int 1), (2, .int 0), (3, .int 0)], [], jzv187) : jS)) rfl ?_
  refine jl_s (S' := ((37, [(0, .ref 66), (1, .int 1), (2, .int 0), (3, .int 0)], [.int 1], jzv187) : jS)) rfl ?_
  refine jl_s (S' := ((41, [(0, .ref 66), (1, .int 1), (2, .int 0), (3, .int 0)], [.int 1], jzv187) : jS)) rfl ?_
  exact jl_r (r := (.inl (some (.int 1)), jzv187)) rfl
set_option maxHeartbeats 4000000 in
set_option maxRecDepth 100000 in
theorem jzl139 (xs : Nat → Int32) (hop : xs 0 &&& 31 = 13)  : jRun ((4, xs) : jX) 2000 39 402 [.ref 66] jzv186 = some (.inl (some (.int 0)), jzv187) := by
  refine jr_run (e := jm402) rfl (Nat.le_of_ble_eq_true rfl) ?_
  refine jl_s (S' := ((1, [(0, .ref 66)], [.ref 66], jzv186) : jS)) rfl ?_
  refine jl_s (S' := ((2, [(0, .ref 66)], [.ref 66, .ref 66], jzv186) : jS)) rfl ?_
  refine jl_s (S' := ((5, [(0, .ref 66)], [.int 0, .ref 66], jzv186) : jS)) rfl ?_
  refine jl_s (S' := ((8, [(0, .ref 66)], [.ref 66], jzv186) : jS)) rfl ?_
  refine jl_s (S' := ((9, [(0, .ref 66)], [.int 1, .ref 66], jzv186) : jS)) rfl ?_
  refine jl_s (S' := ((13, [(0, .ref 66)], [.int 1, .ref 66], jzv186) : jS)) rfl ?_
  refine jl_s (S' := ((14, [(0, .ref 66)], [.int 0, .int 1, .ref 66], jzv186) : jS)) rfl ?_
  refine jl_s (S' := ((15, [(0, .ref 66)], [.int 0, .int 0, .int 1, .ref 66], jzv186) : jS)) rfl ?_
  refine jl_c (t := 245) (as := [.ref 66, .int 1, .int 0, .int 0]) (V := jzv186) (r := (.inl (some (.int 1)), jzv187)) (S' := ((18, [(0, .ref 66)], [.int 1], jzv187) : jS)) rfl (jzl138 xs hop ) rfl ?_
  refine jl_s (S' := ((21, [(0, .ref 66)], [], jzv187) : jS)) rfl ?_
  refine jl_s (S' := ((22, [(0, .ref 66)], [.int 0], jzv187) : jS)) rfl ?_
  refine jl_s (S' := ((29, [(0, .ref 66)], [.int 0], jzv187) : jS)) rfl ?_
  exact jl_r (r := (.inl (some (.int 0)), jzv187)) rfl
set_option maxHeartbeats 4000000 in
set_option maxRecDepth 100000 in
theorem jzl140 (xs : Nat → Int32) (hop : xs 0 &&& 31 = 13)  : jRun ((4, xs) : jX) 2000 39 244 [.ref 66] jzv187 = some (.inl (some (.int 1)), jzv187) := by
  refine jr_run (e := jm244) rfl (Nat.le_of_ble_eq_true rfl) ?_
  refine jl_s (S' := ((1, [(0, .ref 66)], [.ref 66], jzv187) : jS)) rfl ?_
  refine jl_s (S' := ((4, [(0, .ref 66)], [.int 1], jzv187) : jS)) rfl ?_
  exact jl_r (r := (.inl (some (.int 1)), jzv187)) rfl
set_option maxHeartbeats 4000000 in
set_option maxRecDepth 100000 in
theorem jzl141 (xs : Nat → Int32) (hop : xs 0 &&& 31 = 13)  : jLoop (jRun ((4, xs) : jX) 2000 39) ((4, xs) : jX) jm18 1000 ((23, [(4, .int 0), (3, .ref 153), (2, .ref 66), (1, .ref 64), (0, .ref 63)], [], jzv181) : jS) = some (.inl (some (.int 1)), jzv187) := by
  refine jl_s (S' := ((25, [(4, .int 0), (3, .ref 153), (2, .ref 66), (1, .ref 64), (0, .ref 63)], [.int 0], jzv181) : jS)) rfl ?_
  refine jl_s (S' := ((26, [(4, .int 0), (3, .ref 153), (2, .ref 66), (1, .ref 64), (0, .ref 63)], [.ref 63, .int 0], jzv181) : jS)) rfl ?_
  refine jl_s (S' := ((27, [(4, .int 0), (3, .ref 153), (2, .ref 66), (1, .ref 64), (0, .ref 63)], [.int 4, .int 0], jzv181) : jS)) rfl ?_
  refine jl_s (S' := ((28, [(4, .int 0), (3, .ref 153), (2, .ref 66), (1, .ref 64), (0, .ref 63)], [.int 4, .int 4, .int 0], jzv181) : jS)) rfl ?_
  refine jl_s (S' := ((29, [(4, .int 0), (3, .ref 153), (2, .ref 66), (1, .ref 64), (0, .ref 63)], [.int 0, .int 0], jzv181) : jS)) rfl ?_
  refine jl_s (S' := ((32, [(4, .int 0), (3, .ref 153), (2, .ref 66), (1, .ref 64), (0, .ref 63)], [], jzv181) : jS)) rfl ?_
  refine jl_s (S' := ((33, [(4, .int 0), (3, .ref 153), (2, .ref 66), (1, .ref 64), (0, .ref 63)], [.ref 63], jzv181) : jS)) rfl ?_
  refine jl_s (S' := ((35, [(4, .int 0), (3, .ref 153), (2, .ref 66), (1, .ref 64), (0, .ref 63)], [.int 0, .ref 63], jzv181) : jS)) rfl ?_
  refine jl_s (S' := ((36, [(4, .int 0), (3, .ref 153), (2, .ref 66), (1, .ref 64), (0, .ref 63)], [.int (xs 0)], jzv181) : jS)) rfl ?_
  refine jl_s (S' := ((38, [(4, .int 0), (3, .ref 153), (2, .ref 66), (1, .ref 64), (0, .ref 63)], [.int 31, .int (xs 0)], jzv181) : jS)) rfl ?_
  refine jl_s (S' := ((39, [(4, .int 0), (3, .ref 153), (2, .ref 66), (1, .ref 64), (0, .ref 63)], [.int ((xs 0) &&& 31)], jzv181) : jS)) rfl ?_
  rw [hop]
  refine jl_s (S' := ((833, [(4, .int 0), (3, .ref 153), (2, .ref 66), (1, .ref 64), (0, .ref 63)], [], jzv181) : jS)) rfl ?_
  refine jl_s (S' := ((834, [(4, .int 0), (3, .ref 153), (2, .ref 66), (1, .ref 64), (0, .ref 63)], [.ref 64], jzv181) : jS)) rfl ?_
  refine jl_s (S' := ((835, [(4, .int 0), (3, .ref 153), (2, .ref 66), (1, .ref 64), (0, .ref 63)], [.ref 153, .ref 64], jzv181) : jS)) rfl ?_
  refine jl_c (t := 12) (as := [.ref 64, .ref 153]) (V := jzv181) (r := (.inl (some (.int 1)), jzv186)) (S' := ((838, [(4, .int 0), (3, .ref 153), (2, .ref 66), (1, .ref 64), (0, .ref 63)], [.int 1], jzv186) : jS)) rfl (jzl137 xs hop ) rfl ?_
  refine jl_s (S' := ((840, [(5, .int 1), (4, .int 0), (3, .ref 153), (2, .ref 66), (1, .ref 64), (0, .ref 63)], [], jzv186) : jS)) rfl ?_
  refine jl_s (S' := ((841, [(5, .int 1), (4, .int 0), (3, .ref 153), (2, .ref 66), (1, .ref 64), (0, .ref 63)], [.ref 66], jzv186) : jS)) rfl ?_
  refine jl_c (t := 402) (as := [.ref 66]) (V := jzv186) (r := (.inl (some (.int 0)), jzv187)) (S' := ((844, [(5, .int 1), (4, .int 0), (3, .ref 153), (2, .ref 66), (1, .ref 64), (0, .ref 63)], [.int 0], jzv187) : jS)) rfl (jzl139 xs hop ) rfl ?_
  refine jl_s (S' := ((846, [(6, .int 0), (5, .int 1), (4, .int 0), (3, .ref 153), (2, .ref 66), (1, .ref 64), (0, .ref 63)], [], jzv187) : jS)) rfl ?_
  refine jl_s (S' := ((847, [(6, .int 0), (5, .int 1), (4, .int 0), (3, .ref 153), (2, .ref 66), (1, .ref 64), (0, .ref 63)], [.ref 66], jzv187) : jS)) rfl ?_
  refine jl_c (t := 244) (as := [.ref 66]) (V := jzv187) (r := (.inl (some (.int 1)), jzv187)) (S' := ((850, [(6, .int 0), (5, .int 1), (4, .int 0), (3, .ref 153), (2, .ref 66), (1, .ref 64), (0, .ref 63)], [.int 1], jzv187) : jS)) rfl (jzl140 xs hop ) rfl ?_
  refine jl_s (S' := ((852, [(6, .int 0), (5, .int 1), (4, .int 0), (3, .ref 153), (2, .ref 66), (1, .ref 64), (0, .ref 63)], [.int 1, .int 1], jzv187) : jS)) rfl ?_
  refine jl_s (S' := ((857, [(6, .int 0), (5, .int 1), (4, .int 0), (3, .ref 153), (2, .ref 66), (1, .ref 64), (0, .ref 63)], [], jzv187) : jS)) rfl ?_
  refine jl_s (S' := ((859, [(6, .int 0), (5, .int 1), (4, .int 0), (3, .ref 153), (2, .ref 66), (1, .ref 64), (0, .ref 63)], [.int 1], jzv187) : jS)) rfl ?_
  refine jl_s (S' := ((874, [(6, .int 0), (5, .int 1), (4, .int 0), (3, .ref 153), (2, .ref 66), (1, .ref 64), (0, .ref 63)], [], jzv187) : jS)) rfl ?_
  refine jl_s (S' := ((1193, [(6, .int 0), (5, .int 1), (4, .int 0), (3, .ref 153), (2, .ref 66), (1, .ref 64), (0, .ref 63)], [], jzv187) : jS)) rfl ?_
  refine jl_s (S' := ((1196, [(4, .int 4), (6, .int 0), (5, .int 1), (3, .ref 153), (2, .ref 66), (1, .ref 64), (0, .ref 63)], [], jzv187) : jS)) rfl ?_
  refine jl_s (S' := ((23, [(4, .int 4), (6, .int 0), (5, .int 1), (3, .ref 153), (2, .ref 66), (1, .ref 64), (0, .ref 63)], [], jzv187) : jS)) rfl ?_
  refine jl_s (S' := ((25, [(4, .int 4), (6, .int 0), (5, .int 1), (3, .ref 153), (2, .ref 66), (1, .ref 64), (0, .ref 63)], [.int 4], jzv187) : jS)) rfl ?_
  refine jl_s (S' := ((26, [(4, .int 4), (6, .int 0), (5, .int 1), (3, .ref 153), (2, .ref 66), (1, .ref 64), (0, .ref 63)], [.ref 63, .int 4], jzv187) : jS)) rfl ?_
  refine jl_s (S' := ((27, [(4, .int 4), (6, .int 0), (5, .int 1), (3, .ref 153), (2, .ref 66), (1, .ref 64), (0, .ref 63)], [.int 4, .int 4], jzv187) : jS)) rfl ?_
  refine jl_s (S' := ((28, [(4, .int 4), (6, .int 0), (5, .int 1), (3, .ref 153), (2, .ref 66), (1, .ref 64), (0, .ref 63)], [.int 4, .int 4, .int 4], jzv187) : jS)) rfl ?_
  refine jl_s (S' := ((29, [(4, .int 4), (6, .int 0), (5, .int 1), (3, .ref 153), (2, .ref 66), (1, .ref 64), (0, .ref 63)], [.int 0, .int 4], jzv187) : jS)) rfl ?_
  refine jl_s (S' := ((1199, [(4, .int 4), (6, .int 0), (5, .int 1), (3, .ref 153), (2, .ref 66), (1, .ref 64), (0, .ref 63)], [], jzv187) : jS)) rfl ?_
  refine jl_s (S' := ((1200, [(4, .int 4), (6, .int 0), (5, .int 1), (3, .ref 153), (2, .ref 66), (1, .ref 64), (0, .ref 63)], [.int 1], jzv187) : jS)) rfl ?_
  exact jl_r (r := (.inl (some (.int 1)), jzv187)) rfl
-- op 13 : jzl141
set_option maxHeartbeats 4000000 in
set_option maxRecDepth 100000 in
theorem jzl142 (xs : Nat → Int32) (hop : xs 0 &&& 31 = 14)  : jRun ((4, xs) : jX) 2000 36 39 [.ref 64] jzv181 = some (.inr 154, jzv186) := by
  refine jr_run (e := jm39) rfl (Nat.le_of_ble_eq_true rfl) ?_
  refine jl_s (S' := ((1, [(0, .ref 64)], [.ref 64], jzv181) : jS)) rfl ?_
  refine jl_s (S' := ((4, [(0, .ref 64)], [.null], jzv181) : jS)) rfl ?_
  refine jl_s (S' := ((5, [(1, .null), (0, .ref 64)], [], jzv181) : jS)) rfl ?_
  refine jl_s (S' := ((6, [(1, .null), (0, .ref 64)], [.null], jzv181) : jS)) rfl ?_
  refine jl_s (S' := ((9, [(1, .null), (0, .ref 64)], [], jzv181) : jS)) rfl ?_
  exact jl_r (r := (.inr 154, jzv186)) rfl
set_option maxHeartbeats 4000000 in
set_option maxRecDepth 100000 in
theorem jzl143 (xs : Nat → Int32) (hop : xs 0 &&& 31 = 14)  : jRun ((4, xs) : jX) 2000 37 40 [.ref 64, .int (xs 1)] jzv181 = some (.inr 154, jzv186) := by
  refine jr_run (e := jm40) rfl (Nat.le_of_ble_eq_true rfl) ?_
  refine jl_s (S' := ((1, [(0, .ref 64), (1, .int (xs 1))], [.ref 64], jzv181) : jS)) rfl ?_
  exact jl_ct (t := 39) (as := [.ref 64]) (V := jzv181) (r := (.inr 154, jzv186)) (q := (.inr 154, jzv186)) rfl (jzl142 xs hop ) rfl
set_option maxHeartbeats 4000000 in
set_option maxRecDepth 100000 in
theorem jzl144 (xs : Nat → Int32) (hop : xs 0 &&& 31 = 14)  : jRun ((4, xs) : jX) 2000 38 34 [.ref 64, .int (xs 1), .int (xs 2)] jzv181 = some (.inr 154, jzv186) := by
  refine jr_run (e := jm34) rfl (Nat.le_of_ble_eq_true rfl) ?_
  refine jl_s (S' := ((1, [(0, .ref 64), (1, .int (xs 1)), (2, .int (xs 2))], [.ref 64], jzv181) : jS)) rfl ?_
  refine jl_s (S' := ((2, [(0, .ref 64), (1, .int (xs 1)), (2, .int (xs 2))], [.int (xs 1), .ref 64], jzv181) : jS)) rfl ?_
  exact jl_ct (t := 40) (as := [.ref 64, .int (xs 1)]) (V := jzv181) (r := (.inr 154, jzv186)) (q := (.inr 154, jzv186)) rfl (jzl143 xs hop ) rfl
set_option maxHeartbeats 4000000 in
set_option maxRecDepth 100000 in
theorem jzl145 (xs : Nat → Int32) (hop : xs 0 &&& 31 = 14)  : jRun ((4, xs) : jX) 2000 39 13 [.ref 64, .int (xs 1), .int (xs 2), .ref 153] jzv181 = some (.inl (some (.int 1)), jzv186) := by
  refine jr_run (e := jm13) rfl (Nat.le_of_ble_eq_true rfl) ?_
  refine jl_s (S' := ((1, [(0, .ref 64), (1, .int (xs 1)), (2, .int (xs 2)), (3, .ref 153)], [.ref 153], jzv181) : jS)) rfl ?_
  refine jl_s (S' := ((2, [(0, .ref 64), (1, .int (xs 1)), (2, .int (xs 2)), (3, .ref 153)], [.int 0, .ref 153], jzv181) : jS)) rfl ?_
  refine jl_s (S' := ((3, [(0, .ref 64), (1, .int (xs 1)), (2, .int (xs 2)), (3, .ref 153)], [.ref 64, .int 0, .ref 153], jzv181) : jS)) rfl ?_
  refine jl_s (S' := ((4, [(0, .ref 64), (1, .int (xs 1)), (2, .int (xs 2)), (3, .ref 153)], [.int (xs 1), .ref 64, .int 0, .ref 153], jzv181) : jS)) rfl ?_
  refine jl_s (S' := ((5, [(0, .ref 64), (1, .int (xs 1)), (2, .int (xs 2)), (3, .ref 153)], [.int (xs 2), .int (xs 1), .ref 64, .int 0, .ref 153], jzv181) : jS)) rfl ?_
  refine jl_c (t := 34) (as := [.ref 64, .int (xs 1), .int (xs 2)]) (V := jzv181) (r := (.inr 154, jzv186)) (S' := ((13, [(0, .ref 64), (1, .int (xs 1)), (2, .int (xs 2)), (3, .ref 153)], [.ref 154], jzv186) : jS)) rfl (jzl144 xs hop ) rfl ?_
  refine jl_s (S' := ((15, [(4, .ref 154), (0, .ref 64), (1, .int (xs 1)), (2, .int (xs 2)), (3, .ref 153)], [], jzv186) : jS)) rfl ?_
  refine jl_s (S' := ((16, [(4, .ref 154), (0, .ref 64), (1, .int (xs 1)), (2, .int (xs 2)), (3, .ref 153)], [.int 1], jzv186) : jS)) rfl ?_
  exact jl_r (r := (.inl (some (.int 1)), jzv186)) rfl
set_option maxHeartbeats 4000000 in
set_option maxRecDepth 100000 in
theorem jzl146 (xs : Nat → Int32) (hop : xs 0 &&& 31 = 14)  : jRun ((4, xs) : jX) 2000 38 245 [.ref 66, .int 1, .int 0, .int 0] jzv186 = some (.inl (some (.int 1)), jzv187) := by
  refine jr_run (e := jm245) rfl (Nat.le_of_ble_eq_true rfl) ?_
  refine jl_s (S' := ((1, [(0, .ref 66), (1, .int 1), (2, .int 0), (3, .int 0)], [.ref 66], jzv186) : jS)) rfl ?_
  refine jl_s (S' := ((2, [(0, .ref 66), (1, .int 1), (2, .int 0), (3, .int 0)], [.int 1, .ref 66], jzv186) : jS)) rfl ?_
  refine jl_s (S' := ((5, [(0, .ref 66), (1, .int 1), (2, .int 0), (3, .int 0)], [.ref 66], jzv186) : jS)) rfl ?_
  refine jl_s (S' := ((6, [(0, .ref 66), (1, .int 1), (2, .int 0), (3, .int 0)], [.int 1, .ref 66], jzv186) : jS)) rfl ?_
  refine jl_s (S' := ((26, [(0, .ref 66), (1, .int 1), (2, .int 0), (3, .int 0)], [.int 1, .ref 66], jzv186) : jS)) rfl ?_
  refine jl_s (S' := ((29, [(0, .ref 66), (1, .int 1), (2, .int 0), (3, .int 0)], [], jzv187) : jS)) rfl ?_
  refine jl_s (S' := ((30, [(0, .ref 66), (1, .int 1), (2, .int 0), (3, .int 0)], [.ref 66], jzv187) : jS)) rfl ?_
  refine jl_s (S' := ((33, [(0, .ref 66), (1, .int 1), (2, .int 0), (3, .int 0)], [.int 1], jzv187) : jS)) rfl ?_
  refine jl_s (S' := ((36, [(0, .ref 66), (1, .int 1), (2, .int 0), (3, .int 0)], [], jzv187) : jS)) rfl ?_
  refine jl_s (S' := ((37, [(0, .ref 66), (1, .int 1), (2, .int 0), (3, .int 0)], [.int 1], jzv187) : jS)) rfl ?_
  refine jl_s (S' := ((41, [(0, .ref 66), (1, .int 1), (2, .int 0), (3, .int 0)], [.int 1], jzv187) : jS)) rfl ?_
  exact jl_r (r := (.inl (some (.int 1)), jzv187)) rfl
set_option maxHeartbeats 4000000 in
set_option maxRecDepth 100000 in
theorem jzl147 (xs : Nat → Int32) (hop : xs 0 &&& 31 = 14)  : jRun ((4, xs) : jX) 2000 39 408 [.ref 66, .int (xs 1), .int (xs 2)] jzv186 = some (.inl (some (.int 0)), jzv187) := by
  refine jr_run (e := jm408) rfl (Nat.le_of_ble_eq_true rfl) ?_
  refine jl_s (S' := ((1, [(0, .ref 66), (1, .int (xs 1)), (2, .int (xs 2))], [.ref 66], jzv186) : jS)) rfl ?_
  refine jl_s (S' := ((2, [(0, .ref 66), (1, .int (xs 1)), (2, .int (xs 2))], [.ref 66, .ref 66], jzv186) : jS)) rfl ?_
  refine jl_s (S' := ((5, [(0, .ref 66), (1, .int (xs 1)), (2, .int (xs 2))], [.int 0, .ref 66], jzv186) : jS)) rfl ?_
  refine jl_s (S' := ((8, [(0, .ref 66), (1, .int (xs 1)), (2, .int (xs 2))], [.ref 66], jzv186) : jS)) rfl ?_
  refine jl_s (S' := ((9, [(0, .ref 66), (1, .int (xs 1)), (2, .int (xs 2))], [.int 1, .ref 66], jzv186) : jS)) rfl ?_
  refine jl_s (S' := ((13, [(0, .ref 66), (1, .int (xs 1)), (2, .int (xs 2))], [.int 1, .ref 66], jzv186) : jS)) rfl ?_
  refine jl_s (S' := ((14, [(0, .ref 66), (1, .int (xs 1)), (2, .int (xs 2))], [.ref 66, .int 1, .ref 66], jzv186) : jS)) rfl ?_
  refine jl_s (S' := ((17, [(0, .ref 66), (1, .int (xs 1)), (2, .int (xs 2))], [.int 0, .int 1, .ref 66], jzv186) : jS)) rfl ?_
  refine jl_s (S' := ((32, [(0, .ref 66), (1, .int (xs 1)), (2, .int (xs 2))], [.int 1, .ref 66], jzv186) : jS)) rfl ?_
  refine jl_s (S' := ((33, [(0, .ref 66), (1, .int (xs 1)), (2, .int (xs 2))], [.int 0, .int 1, .ref 66], jzv186) : jS)) rfl ?_
  refine jl_s (S' := ((34, [(0, .ref 66), (1, .int (xs 1)), (2, .int (xs 2))], [.ref 66, .int 0, .int 1, .ref 66], jzv186) : jS)) rfl ?_
  refine jl_s (S' := ((37, [(0, .ref 66), (1, .int (xs 1)), (2, .int (xs 2))], [.int 0, .int 0, .int 1, .ref 66], jzv186) : jS)) rfl ?_
  refine jl_s (S' := ((62, [(0, .ref 66), (1, .int (xs 1)), (2, .int (xs 2))], [.int 0, .int 1, .ref 66], jzv186) : jS)) rfl ?_
  refine jl_s (S' := ((63, [(0, .ref 66), (1, .int (xs 1)), (2, .int (xs 2))], [.int 0, .int 0, .int 1, .ref 66], jzv186) : jS)) rfl ?_
  refine jl_c (t := 245) (as := [.ref 66, .int 1, .int 0, .int 0]) (V := jzv186) (r := (.inl (some (.int 1)), jzv187)) (S' := ((66, [(0, .ref 66), (1, .int (xs 1)), (2, .int (xs 2))], [.int 1], jzv187) : jS)) rfl (jzl146 xs hop ) rfl ?_
  refine jl_s (S' := ((69, [(0, .ref 66), (1, .int (xs 1)), (2, .int (xs 2))], [], jzv187) : jS)) rfl ?_
  refine jl_s (S' := ((70, [(0, .ref 66), (1, .int (xs 1)), (2, .int (xs 2))], [.int 0], jzv187) : jS)) rfl ?_
  exact jl_r (r := (.inl (some (.int 0)), jzv187)) rfl
set_option maxHeartbeats 4000000 in
set_option maxRecDepth 100000 in
theorem jzl148 (xs : Nat → Int32) (hop : xs 0 &&& 31 = 14)  : jRun ((4, xs) : jX) 2000 39 244 [.ref 66] jzv187 = some (.inl (some (.int 1)), jzv187) := by
  refine jr_run (e := jm244) rfl (Nat.le_of_ble_eq_true rfl) ?_
  refine jl_s (S' := ((1, [(0, .ref 66)], [.ref 66], jzv187) : jS)) rfl ?_
  refine jl_s (S' := ((4, [(0, .ref 66)], [.int 1], jzv187) : jS)) rfl ?_
  exact jl_r (r := (.inl (some (.int 1)), jzv187)) rfl
set_option maxHeartbeats 4000000 in
set_option maxRecDepth 100000 in
theorem jzl149 (xs : Nat → Int32) (hop : xs 0 &&& 31 = 14)  : jLoop (jRun ((4, xs) : jX) 2000 39) ((4, xs) : jX) jm18 1000 ((23, [(4, .int 0), (3, .ref 153), (2, .ref 66), (1, .ref 64), (0, .ref 63)], [], jzv181) : jS) = some (.inl (some (.int 1)), jzv187) := by
  refine jl_s (S' := ((25, [(4, .int 0), (3, .ref 153), (2, .ref 66), (1, .ref 64), (0, .ref 63)], [.int 0], jzv181) : jS)) rfl ?_
  refine jl_s (S' := ((26, [(4, .int 0), (3, .ref 153), (2, .ref 66), (1, .ref 64), (0, .ref 63)], [.ref 63, .int 0], jzv181) : jS)) rfl ?_
  refine jl_s (S' := ((27, [(4, .int 0), (3, .ref 153), (2, .ref 66), (1, .ref 64), (0, .ref 63)], [.int 4, .int 0], jzv181) : jS)) rfl ?_
  refine jl_s (S' := ((28, [(4, .int 0), (3, .ref 153), (2, .ref 66), (1, .ref 64), (0, .ref 63)], [.int 4, .int 4, .int 0], jzv181) : jS)) rfl ?_
  refine jl_s (S' := ((29, [(4, .int 0), (3, .ref 153), (2, .ref 66), (1, .ref 64), (0, .ref 63)], [.int 0, .int 0], jzv181) : jS)) rfl ?_
  refine jl_s (S' := ((32, [(4, .int 0), (3, .ref 153), (2, .ref 66), (1, .ref 64), (0, .ref 63)], [], jzv181) : jS)) rfl ?_
  refine jl_s (S' := ((33, [(4, .int 0), (3, .ref 153), (2, .ref 66), (1, .ref 64), (0, .ref 63)], [.ref 63], jzv181) : jS)) rfl ?_
  refine jl_s (S' := ((35, [(4, .int 0), (3, .ref 153), (2, .ref 66), (1, .ref 64), (0, .ref 63)], [.int 0, .ref 63], jzv181) : jS)) rfl ?_
  refine jl_s (S' := ((36, [(4, .int 0), (3, .ref 153), (2, .ref 66), (1, .ref 64), (0, .ref 63)], [.int (xs 0)], jzv181) : jS)) rfl ?_
  refine jl_s (S' := ((38, [(4, .int 0), (3, .ref 153), (2, .ref 66), (1, .ref 64), (0, .ref 63)], [.int 31, .int (xs 0)], jzv181) : jS)) rfl ?_
  refine jl_s (S' := ((39, [(4, .int 0), (3, .ref 153), (2, .ref 66), (1, .ref 64), (0, .ref 63)], [.int ((xs 0) &&& 31)], jzv181) : jS)) rfl ?_
  rw [hop]
  refine jl_s (S' := ((877, [(4, .int 0), (3, .ref 153), (2, .ref 66), (1, .ref 64), (0, .ref 63)], [], jzv181) : jS)) rfl ?_
  refine jl_s (S' := ((878, [(4, .int 0), (3, .ref 153), (2, .ref 66), (1, .ref 64), (0, .ref 63)], [.ref 64], jzv181) : jS)) rfl ?_
  refine jl_s (S' := ((879, [(4, .int 0), (3, .ref 153), (2, .ref 66), (1, .ref 64), (0, .ref 63)], [.ref 63, .ref 64], jzv181) : jS)) rfl ?_
  refine jl_s (S' := ((881, [(4, .int 0), (3, .ref 153), (2, .ref 66), (1, .ref 64), (0, .ref 63)], [.int 0, .ref 63, .ref 64], jzv181) : jS)) rfl ?_
  refine jl_s (S' := ((882, [(4, .int 0), (3, .ref 153), (2, .ref 66), (1, .ref 64), (0, .ref 63)], [.int 1, .int 0, .ref 63, .ref 64], jzv181) : jS)) rfl ?_
  refine jl_s (S' := ((883, [(4, .int 0), (3, .ref 153), (2, .ref 66), (1, .ref 64), (0, .ref 63)], [.int 1, .ref 63, .ref 64], jzv181) : jS)) rfl ?_
  refine jl_s (S' := ((884, [(4, .int 0), (3, .ref 153), (2, .ref 66), (1, .ref 64), (0, .ref 63)], [.int (xs 1), .ref 64], jzv181) : jS)) rfl ?_
  refine jl_s (S' := ((885, [(4, .int 0), (3, .ref 153), (2, .ref 66), (1, .ref 64), (0, .ref 63)], [.ref 63, .int (xs 1), .ref 64], jzv181) : jS)) rfl ?_
  refine jl_s (S' := ((887, [(4, .int 0), (3, .ref 153), (2, .ref 66), (1, .ref 64), (0, .ref 63)], [.int 0, .ref 63, .int (xs 1), .ref 64], jzv181) : jS)) rfl ?_
  refine jl_s (S' := ((888, [(4, .int 0), (3, .ref 153), (2, .ref 66), (1, .ref 64), (0, .ref 63)], [.int 2, .int 0, .ref 63, .int (xs 1), .ref 64], jzv181) : jS)) rfl ?_
  refine jl_s (S' := ((889, [(4, .int 0), (3, .ref 153), (2, .ref 66), (1, .ref 64), (0, .ref 63)], [.int 2, .ref 63, .int (xs 1), .ref 64], jzv181) : jS)) rfl ?_
  refine jl_s (S' := ((890, [(4, .int 0), (3, .ref 153), (2, .ref 66), (1, .ref 64), (0, .ref 63)], [.int (xs 2), .int (xs 1), .ref 64], jzv181) : jS)) rfl ?_
  refine jl_s (S' := ((891, [(4, .int 0), (3, .ref 153), (2, .ref 66), (1, .ref 64), (0, .ref 63)], [.ref 153, .int (xs 2), .int (xs 1), .ref 64], jzv181) : jS)) rfl ?_
  refine jl_c (t := 13) (as := [.ref 64, .int (xs 1), .int (xs 2), .ref 153]) (V := jzv181) (r := (.inl (some (.int 1)), jzv186)) (S' := ((894, [(4, .int 0), (3, .ref 153), (2, .ref 66), (1, .ref 64), (0, .ref 63)], [.int 1], jzv186) : jS)) rfl (jzl145 xs hop ) rfl ?_
  refine jl_s (S' := ((896, [(5, .int 1), (4, .int 0), (3, .ref 153), (2, .ref 66), (1, .ref 64), (0, .ref 63)], [], jzv186) : jS)) rfl ?_
  refine jl_s (S' := ((897, [(5, .int 1), (4, .int 0), (3, .ref 153), (2, .ref 66), (1, .ref 64), (0, .ref 63)], [.ref 66], jzv186) : jS)) rfl ?_
  refine jl_s (S' := ((898, [(5, .int 1), (4, .int 0), (3, .ref 153), (2, .ref 66), (1, .ref 64), (0, .ref 63)], [.ref 63, .ref 66], jzv186) : jS)) rfl ?_
  refine jl_s (S' := ((900, [(5, .int 1), (4, .int 0), (3, .ref 153), (2, .ref 66), (1, .ref 64), (0, .ref 63)], [.int 0, .ref 63, .ref 66], jzv186) : jS)) rfl ?_
  refine jl_s (S' := ((901, [(5, .int 1), (4, .int 0), (3, .ref 153), (2, .ref 66), (1, .ref 64), (0, .ref 63)], [.int 1, .int 0, .ref 63, .ref 66], jzv186) : jS)) rfl ?_
  refine jl_s (S' := ((902, [(5, .int 1), (4, .int 0), (3, .ref 153), (2, .ref 66), (1, .ref 64), (0, .ref 63)], [.int 1, .ref 63, .ref 66], jzv186) : jS)) rfl ?_
  refine jl_s (S' := ((903, [(5, .int 1), (4, .int 0), (3, .ref 153), (2, .ref 66), (1, .ref 64), (0, .ref 63)], [.int (xs 1), .ref 66], jzv186) : jS)) rfl ?_
  refine jl_s (S' := ((904, [(5, .int 1), (4, .int 0), (3, .ref 153), (2, .ref 66), (1, .ref 64), (0, .ref 63)], [.ref 63, .int (xs 1), .ref 66], jzv186) : jS)) rfl ?_
  refine jl_s (S' := ((906, [(5, .int 1), (4, .int 0), (3, .ref 153), (2, .ref 66), (1, .ref 64), (0, .ref 63)], [.int 0, .ref 63, .int (xs 1), .ref 66], jzv186) : jS)) rfl ?_
  refine jl_s (S' := ((907, [(5, .int 1), (4, .int 0), (3, .ref 153), (2, .ref 66), (1, .ref 64), (0, .ref 63)], [.int 2, .int 0, .ref 63, .int (xs 1), .ref 66], jzv186) : jS)) rfl ?_
  refine jl_s (S' := ((908, [(5, .int 1), (4, .int 0), (3, .ref 153), (2, .ref 66), (1, .ref 64), (0, .ref 63)], [.int 2, .ref 63, .int (xs 1), .ref 66], jzv186) : jS)) rfl ?_
  refine jl_s (S' := ((909, [(5, .int 1), (4, .int 0), (3, .ref 153), (2, .ref 66), (1, .ref 64), (0, .ref 63)], [.int (xs 2), .int (xs 1), .ref 66], jzv186) : jS)) rfl ?_
  refine jl_c (t := 408) (as := [.ref 66, .int (xs 1), .int (xs 2)]) (V := jzv186) (r := (.inl (some (.int 0)), jzv187)) (S' := ((912, [(5, .int 1), (4, .int 0), (3, .ref 153), (2, .ref 66), (1, .ref 64), (0, .ref 63)], [.int 0], jzv187) : jS)) rfl (jzl147 xs hop ) rfl ?_
  refine jl_s (S' := ((914, [(6, .int 0), (5, .int 1), (4, .int 0), (3, .ref 153), (2, .ref 66), (1, .ref 64), (0, .ref 63)], [], jzv187) : jS)) rfl ?_
  refine jl_s (S' := ((915, [(6, .int 0), (5, .int 1), (4, .int 0), (3, .ref 153), (2, .ref 66), (1, .ref 64), (0, .ref 63)], [.ref 66], jzv187) : jS)) rfl ?_
  refine jl_c (t := 244) (as := [.ref 66]) (V := jzv187) (r := (.inl (some (.int 1)), jzv187)) (S' := ((918, [(6, .int 0), (5, .int 1), (4, .int 0), (3, .ref 153), (2, .ref 66), (1, .ref 64), (0, .ref 63)], [.int 1], jzv187) : jS)) rfl (jzl148 xs hop ) rfl ?_
  refine jl_s (S' := ((920, [(6, .int 0), (5, .int 1), (4, .int 0), (3, .ref 153), (2, .ref 66), (1, .ref 64), (0, .ref 63)], [.int 1, .int 1], jzv187) : jS)) rfl ?_
  refine jl_s (S' := ((925, [(6, .int 0), (5, .int 1), (4, .int 0), (3, .ref 153), (2, .ref 66), (1, .ref 64), (0, .ref 63)], [], jzv187) : jS)) rfl ?_
  refine jl_s (S' := ((927, [(6, .int 0), (5, .int 1), (4, .int 0), (3, .ref 153), (2, .ref 66), (1, .ref 64), (0, .ref 63)], [.int 1], jzv187) : jS)) rfl ?_
  refine jl_s (S' := ((942, [(6, .int 0), (5, .int 1), (4, .int 0), (3, .ref 153), (2, .ref 66), (1, .ref 64), (0, .ref 63)], [], jzv187) : jS)) rfl ?_
  refine jl_s (S' := ((1193, [(6, .int 0), (5, .int 1), (4, .int 0), (3, .ref 153), (2, .ref 66), (1, .ref 64), (0, .ref 63)], [], jzv187) : jS)) rfl ?_
  refine jl_s (S' := ((1196, [(4, .int 4), (6, .int 0), (5, .int 1), (3, .ref 153), (2, .ref 66), (1, .ref 64), (0, .ref 63)], [], jzv187) : jS)) rfl ?_
  refine jl_s (S' := ((23, [(4, .int 4), (6, .int 0), (5, .int 1), (3, .ref 153), (2, .ref 66), (1, .ref 64), (0, .ref 63)], [], jzv187) : jS)) rfl ?_
  refine jl_s (S' := ((25, [(4, .int 4), (6, .int 0), (5, .int 1), (3, .ref 153), (2, .ref 66), (1, .ref 64), (0, .ref 63)], [.int 4], jzv187) : jS)) rfl ?_
  refine jl_s (S' := ((26, [(4, .int 4), (6, .int 0), (5, .int 1), (3, .ref 153), (2, .ref 66), (1, .ref 64), (0, .ref 63)], [.ref 63, .int 4], jzv187) : jS)) rfl ?_
  refine jl_s (S' := ((27, [(4, .int 4), (6, .int 0), (5, .int 1), (3, .ref 153), (2, .ref 66), (1, .ref 64), (0, .ref 63)], [.int 4, .int 4], jzv187) : jS)) rfl ?_
  refine jl_s (S' := ((28, [(4, .int 4), (6, .int 0), (5, .int 1), (3, .ref 153), (2, .ref 66), (1, .ref 64), (0, .ref 63)], [.int 4, .int 4, .int 4], jzv187) : jS)) rfl ?_
  refine jl_s (S' := ((29, [(4, .int 4), (6, .int 0), (5, .int 1), (3, .ref 153), (2, .ref 66), (1, .ref 64), (0, .ref 63)], [.int 0, .int 4], jzv187) : jS)) rfl ?_
  refine jl_s (S' := ((1199, [(4, .int 4), (6, .int 0), (5, .int 1), (3, .ref 153), (2, .ref 66), (1, .ref 64), (0, .ref 63)], [], jzv187) : jS)) rfl ?_
  refine jl_s (S' := ((1200, [(4, .int 4), (6, .int 0), (5, .int 1), (3, .ref 153), (2, .ref 66), (1, .ref 64), (0, .ref 63)], [.int 1], jzv187) : jS)) rfl ?_
  exact jl_r (r := (.inl (some (.int 1)), jzv187)) rfl
-- op 14 : jzl149
set_option maxHeartbeats 4000000 in
set_option maxRecDepth 100000 in
theorem jzl150 (xs : Nat → Int32) (hop : xs 0 &&& 31 = 15)  : jRun ((4, xs) : jX) 2000 36 39 [.ref 64] jzv181 = some (.inr 154, jzv186) := by
  refine jr_run (e := jm39) rfl (Nat.le_of_ble_eq_true rfl) ?_
  refine jl_s (S' := ((1, [(0, .ref 64)], [.ref 64], jzv181) : jS)) rfl ?_
  refine jl_s (S' := ((4, [(0, .ref 64)], [.null], jzv181) : jS)) rfl ?_
  refine jl_s (S' := ((5, [(1, .null), (0, .ref 64)], [], jzv181) : jS)) rfl ?_
  refine jl_s (S' := ((6, [(1, .null), (0, .ref 64)], [.null], jzv181) : jS)) rfl ?_
  refine jl_s (S' := ((9, [(1, .null), (0, .ref 64)], [], jzv181) : jS)) rfl ?_
  exact jl_r (r := (.inr 154, jzv186)) rfl
set_option maxHeartbeats 4000000 in
set_option maxRecDepth 100000 in
theorem jzl151 (xs : Nat → Int32) (hop : xs 0 &&& 31 = 15)  : jRun ((4, xs) : jX) 2000 37 40 [.ref 64, .int (xs 1)] jzv181 = some (.inr 154, jzv186) := by
  refine jr_run (e := jm40) rfl (Nat.le_of_ble_eq_true rfl) ?_
  refine jl_s (S' := ((1, [(0, .ref 64), (1, .int (xs 1))], [.ref 64], jzv181) : jS)) rfl ?_
  exact jl_ct (t := 39) (as := [.ref 64]) (V := jzv181) (r := (.inr 154, jzv186)) (q := (.inr 154, jzv186)) rfl (jzl150 xs hop ) rfl
set_option maxHeartbeats 4000000 in
set_option maxRecDepth 100000 in
theorem jzl152 (xs : Nat → Int32) (hop : xs 0 &&& 31 = 15)  : jRun ((4, xs) : jX) 2000 38 35 [.ref 64, .int (xs 1), .int (xs 2)] jzv181 = some (.inr 154, jzv186) := by
  refine jr_run (e := jm35) rfl (Nat.le_of_ble_eq_true rfl) ?_
  refine jl_s (S' := ((1, [(0, .ref 64), (1, .int (xs 1)), (2, .int (xs 2))], [.ref 64], jzv181) : jS)) rfl ?_
  refine jl_s (S' := ((2, [(0, .ref 64), (1, .int (xs 1)), (2, .int (xs 2))], [.int (xs 1), .ref 64], jzv181) : jS)) rfl ?_
  exact jl_ct (t := 40) (as := [.ref 64, .int (xs 1)]) (V := jzv181) (r := (.inr 154, jzv186)) (q := (.inr 154, jzv186)) rfl (jzl151 xs hop ) rfl
set_option maxHeartbeats 4000000 in
set_option maxRecDepth 100000 in
theorem jzl153 (xs : Nat → Int32) (hop : xs 0 &&& 31 = 15)  : jRun ((4, xs) : jX) 2000 39 14 [.ref 64, .int (xs 1), .int (xs 2), .ref 153] jzv181 = some (.inl (some (.int 1)), jzv186) := by
  refine jr_run (e := jm14) rfl (Nat.le_of_ble_eq_true rfl) ?_
  refine jl_s (S' := ((1, [(0, .ref 64), (1, .int (xs 1)), (2, .int (xs 2)), (3, .ref 153)], [.ref 153], jzv181) : jS)) rfl ?_
  refine jl_s (S' := ((2, [(0, .ref 64), (1, .int (xs 1)), (2, .int (xs 2)), (3, .ref 153)], [.int 0, .ref 153], jzv181) : jS)) rfl ?_
  refine jl_s (S' := ((3, [(0, .ref 64), (1, .int (xs 1)), (2, .int (xs 2)), (3, .ref 153)], [.ref 64, .int 0, .ref 153], jzv181) : jS)) rfl ?_
  refine jl_s (S' := ((4, [(0, .ref 64), (1, .int (xs 1)), (2, .int (xs 2)), (3, .ref 153)], [.int (xs 1), .ref 64, .int 0, .ref 153], jzv181) : jS)) rfl ?_
  refine jl_s (S' := ((5, [(0, .ref 64), (1, .int (xs 1)), (2, .int (xs 2)), (3, .ref 153)], [.int (xs 2), .int (xs 1), .ref 64, .int 0, .ref 153], jzv181) : jS)) rfl ?_
  refine jl_c (t := 35) (as := [.ref 64, .int (xs 1), .int (xs 2)]) (V := jzv181) (r := (.inr 154, jzv186)) (S' := ((13, [(0, .ref 64), (1, .int (xs 1)), (2, .int (xs 2)), (3, .ref 153)], [.ref 154], jzv186) : jS)) rfl (jzl152 xs hop ) rfl ?_
  refine jl_s (S' := ((15, [(4, .ref 154), (0, .ref 64), (1, .int (xs 1)), (2, .int (xs 2)), (3, .ref 153)], [], jzv186) : jS)) rfl ?_
  refine jl_s (S' := ((16, [(4, .ref 154), (0, .ref 64), (1, .int (xs 1)), (2, .int (xs 2)), (3, .ref 153)], [.int 1], jzv186) : jS)) rfl ?_
  exact jl_r (r := (.inl (some (.int 1)), jzv186)) rfl
set_option maxHeartbeats 4000000 in
set_option maxRecDepth 100000 in
theorem jzl154 (xs : Nat → Int32) (hop : xs 0 &&& 31 = 15)  : jRun ((4, xs) : jX) 2000 38 245 [.ref 66, .int 1, .int 0, .int 0] jzv186 = some (.inl (some (.int 1)), jzv187) := by
  refine jr_run (e := jm245) rfl (Nat.le_of_ble_eq_true rfl) ?_
  refine jl_s (S' := ((1, [(0, .ref 66), (1, .int 1), (2, .int 0), (3, .int 0)], [.ref 66], jzv186) : jS)) rfl ?_
  refine jl_s (S' := ((2, [(0, .ref 66), (1, .int 1), (2, .int 0), (3, .int 0)], [.int 1, .ref 66], jzv186) : jS)) rfl ?_
  refine jl_s (S' := ((5, [(0, .ref 66), (1, .int 1), (2, .int 0), (3, .int 0)], [.ref 66], jzv186) : jS)) rfl ?_
  refine jl_s (S' := ((6, [(0, .ref 66), (1, .int 1), (2, .int 0), (3, .int 0)], [.int 1, .ref 66], jzv186) : jS)) rfl ?_
  refine jl_s (S' := ((26, [(0, .ref 66), (1, .int 1), (2, .int 0), (3, .int 0)], [.int 1, .ref 66], jzv186) : jS)) rfl ?_
  refine jl_s (S' := ((29, [(0, .ref 66), (1, .int 1), (2, .int 0), (3, .int 0)], [], jzv187) : jS)) rfl ?_
  refine jl_s (S' := ((30, [(0, .ref 66), (1, .int 1), (2, .int 0), (3, .int 0)], [.ref 66], jzv187) : jS)) rfl ?_
  refine jl_s (S' := ((33, [(0, .ref 66), (1, .int 1), (2, .int 0), (3, .int 0)], [.int 1], jzv187) : jS)) rfl ?_
  refine jl_s (S' := ((36, [(0, .ref 66), (1, .int 1), (2, .int 0), (3, .int 0)], [], jzv187) : jS)) rfl ?_
  refine jl_s (S' := ((37, [(0, .ref 66), (1, .int 1), (2, .int 0), (3, .int 0)], [.int 1], jzv187) : jS)) rfl ?_
  refine jl_s (S' := ((41, [(0, .ref 66), (1, .int 1), (2, .int 0), (3, .int 0)], [.int 1], jzv187) : jS)) rfl ?_
  exact jl_r (r := (.inl (some (.int 1)), jzv187)) rfl
set_option maxHeartbeats 4000000 in
set_option maxRecDepth 100000 in
theorem jzl155 (xs : Nat → Int32) (hop : xs 0 &&& 31 = 15)  : jRun ((4, xs) : jX) 2000 39 409 [.ref 66, .int (xs 1), .int (xs 2)] jzv186 = some (.inl (some (.int 0)), jzv187) := by
  refine jr_run (e := jm409) rfl (Nat.le_of_ble_eq_true rfl) ?_
  refine jl_s (S' := ((1, [(0, .ref 66), (1, .int (xs 1)), (2, .int (xs 2))], [.ref 66], jzv186) : jS)) rfl ?_
  refine jl_s (S' := ((4, [(0, .ref 66), (1, .int (xs 1)), (2, .int (xs 2))], [.int 0], jzv186) : jS)) rfl ?_
  refine jl_s (S' := ((19, [(0, .ref 66), (1, .int (xs 1)), (2, .int (xs 2))], [], jzv186) : jS)) rfl ?_
  refine jl_s (S' := ((20, [(0, .ref 66), (1, .int (xs 1)), (2, .int (xs 2))], [.int 0], jzv186) : jS)) rfl ?_
  refine jl_s (S' := ((21, [(3, .int 0), (0, .ref 66), (1, .int (xs 1)), (2, .int (xs 2))], [], jzv186) : jS)) rfl ?_
  refine jl_s (S' := ((22, [(3, .int 0), (0, .ref 66), (1, .int (xs 1)), (2, .int (xs 2))], [.int 0], jzv186) : jS)) rfl ?_
  refine jl_s (S' := ((36, [(3, .int 0), (0, .ref 66), (1, .int (xs 1)), (2, .int (xs 2))], [], jzv186) : jS)) rfl ?_
  refine jl_s (S' := ((37, [(3, .int 0), (0, .ref 66), (1, .int (xs 1)), (2, .int (xs 2))], [.int 0], jzv186) : jS)) rfl ?_
  refine jl_s (S' := ((39, [(4, .int 0), (3, .int 0), (0, .ref 66), (1, .int (xs 1)), (2, .int (xs 2))], [], jzv186) : jS)) rfl ?_
  refine jl_s (S' := ((40, [(4, .int 0), (3, .int 0), (0, .ref 66), (1, .int (xs 1)), (2, .int (xs 2))], [.int 0], jzv186) : jS)) rfl ?_
  refine jl_s (S' := ((59, [(4, .int 0), (3, .int 0), (0, .ref 66), (1, .int (xs 1)), (2, .int (xs 2))], [], jzv186) : jS)) rfl ?_
  refine jl_s (S' := ((60, [(4, .int 0), (3, .int 0), (0, .ref 66), (1, .int (xs 1)), (2, .int (xs 2))], [.int 0], jzv186) : jS)) rfl ?_
  refine jl_s (S' := ((62, [(5, .int 0), (4, .int 0), (3, .int 0), (0, .ref 66), (1, .int (xs 1)), (2, .int (xs 2))], [], jzv186) : jS)) rfl ?_
  refine jl_s (S' := ((63, [(5, .int 0), (4, .int 0), (3, .int 0), (0, .ref 66), (1, .int (xs 1)), (2, .int (xs 2))], [.ref 66], jzv186) : jS)) rfl ?_
  refine jl_s (S' := ((64, [(5, .int 0), (4, .int 0), (3, .int 0), (0, .ref 66), (1, .int (xs 1)), (2, .int (xs 2))], [.ref 66, .ref 66], jzv186) : jS)) rfl ?_
  refine jl_s (S' := ((67, [(5, .int 0), (4, .int 0), (3, .int 0), (0, .ref 66), (1, .int (xs 1)), (2, .int (xs 2))], [.int 0, .ref 66], jzv186) : jS)) rfl ?_
  refine jl_s (S' := ((70, [(5, .int 0), (4, .int 0), (3, .int 0), (0, .ref 66), (1, .int (xs 1)), (2, .int (xs 2))], [.ref 66], jzv186) : jS)) rfl ?_
  refine jl_s (S' := ((71, [(5, .int 0), (4, .int 0), (3, .int 0), (0, .ref 66), (1, .int (xs 1)), (2, .int (xs 2))], [.int 1, .ref 66], jzv186) : jS)) rfl ?_
  refine jl_s (S' := ((75, [(5, .int 0), (4, .int 0), (3, .int 0), (0, .ref 66), (1, .int (xs 1)), (2, .int (xs 2))], [.int 1, .ref 66], jzv186) : jS)) rfl ?_
  refine jl_s (S' := ((76, [(5, .int 0), (4, .int 0), (3, .int 0), (0, .ref 66), (1, .int (xs 1)), (2, .int (xs 2))], [.ref 66, .int 1, .ref 66], jzv186) : jS)) rfl ?_
  refine jl_s (S' := ((79, [(5, .int 0), (4, .int 0), (3, .int 0), (0, .ref 66), (1, .int (xs 1)), (2, .int (xs 2))], [.int 0, .int 1, .ref 66], jzv186) : jS)) rfl ?_
  refine jl_s (S' := ((90, [(5, .int 0), (4, .int 0), (3, .int 0), (0, .ref 66), (1, .int (xs 1)), (2, .int (xs 2))], [.int 1, .ref 66], jzv186) : jS)) rfl ?_
  refine jl_s (S' := ((91, [(5, .int 0), (4, .int 0), (3, .int 0), (0, .ref 66), (1, .int (xs 1)), (2, .int (xs 2))], [.int 0, .int 1, .ref 66], jzv186) : jS)) rfl ?_
  refine jl_s (S' := ((92, [(5, .int 0), (4, .int 0), (3, .int 0), (0, .ref 66), (1, .int (xs 1)), (2, .int (xs 2))], [.int 0, .int 0, .int 1, .ref 66], jzv186) : jS)) rfl ?_
  refine jl_s (S' := ((111, [(5, .int 0), (4, .int 0), (3, .int 0), (0, .ref 66), (1, .int (xs 1)), (2, .int (xs 2))], [.int 0, .int 1, .ref 66], jzv186) : jS)) rfl ?_
  refine jl_s (S' := ((112, [(5, .int 0), (4, .int 0), (3, .int 0), (0, .ref 66), (1, .int (xs 1)), (2, .int (xs 2))], [.int 0, .int 0, .int 1, .ref 66], jzv186) : jS)) rfl ?_
  refine jl_c (t := 245) (as := [.ref 66, .int 1, .int 0, .int 0]) (V := jzv186) (r := (.inl (some (.int 1)), jzv187)) (S' := ((115, [(5, .int 0), (4, .int 0), (3, .int 0), (0, .ref 66), (1, .int (xs 1)), (2, .int (xs 2))], [.int 1], jzv187) : jS)) rfl (jzl154 xs hop ) rfl ?_
  refine jl_s (S' := ((118, [(5, .int 0), (4, .int 0), (3, .int 0), (0, .ref 66), (1, .int (xs 1)), (2, .int (xs 2))], [], jzv187) : jS)) rfl ?_
  refine jl_s (S' := ((119, [(5, .int 0), (4, .int 0), (3, .int 0), (0, .ref 66), (1, .int (xs 1)), (2, .int (xs 2))], [.int 0], jzv187) : jS)) rfl ?_
  exact jl_r (r := (.inl (some (.int 0)), jzv187)) rfl
set_option maxHeartbeats 4000000 in
set_option maxRecDepth 100000 in
theorem jzl156 (xs : Nat → Int32) (hop : xs 0 &&& 31 = 15)  : jRun ((4, xs) : jX) 2000 39 244 [.ref 66] jzv187 = some (.inl (some (.int 1)), jzv187) := by
  refine jr_run (e := jm244) rfl (Nat.le_of_ble_eq_true rfl) ?_
  refine jl_s (S' := ((1, [(0, .ref 66)], [.ref 66], jzv187) : jS)) rfl ?_
  refine jl_s (S' := ((4, [(0, .ref 66)], [.int 1], jzv187) : jS)) rfl ?_
  exact jl_r (r := (.inl (some (.int 1)), jzv187)) rfl
set_option maxHeartbeats 4000000 in
set_option maxRecDepth 100000 in
theorem jzl157 (xs : Nat → Int32) (hop : xs 0 &&& 31 = 15)  : jLoop (jRun ((4, xs) : jX) 2000 39) ((4, xs) : jX) jm18 1000 ((23, [(4, .int 0), (3, .ref 153), (2, .ref 66), (1, .ref 64), (0, .ref 63)], [], jzv181) : jS) = some (.inl (some (.int 1)), jzv187) := by
  refine jl_s (S' := ((25, [(4, .int 0), (3, .ref 153), (2, .ref 66), (1, .ref 64), (0, .ref 63)], [.int 0], jzv181) : jS)) rfl ?_
  refine jl_s (S' := ((26, [(4, .int 0), (3, .ref 153), (2, .ref 66), (1, .ref 64), (0, .ref 63)], [.ref 63, .int 0], jzv181) : jS)) rfl ?_
  refine jl_s (S' := ((27, [(4, .int 0), (3, .ref 153), (2, .ref 66), (1, .ref 64), (0, .ref 63)], [.int 4, .int 0], jzv181) : jS)) rfl ?_
  refine jl_s (S' := ((28, [(4, .int 0), (3, .ref 153), (2, .ref 66), (1, .ref 64), (0, .ref 63)], [.int 4, .int 4, .int 0], jzv181) : jS)) rfl ?_
  refine jl_s (S' := ((29, [(4, .int 0), (3, .ref 153), (2, .ref 66), (1, .ref 64), (0, .ref 63)], [.int 0, .int 0], jzv181) : jS)) rfl ?_
  refine jl_s (S' := ((32, [(4, .int 0), (3, .ref 153), (2, .ref 66), (1, .ref 64), (0, .ref 63)], [], jzv181) : jS)) rfl ?_
  refine jl_s (S' := ((33, [(4, .int 0), (3, .ref 153), (2, .ref 66), (1, .ref 64), (0, .ref 63)], [.ref 63], jzv181) : jS)) rfl ?_
  refine jl_s (S' := ((35, [(4, .int 0), (3, .ref 153), (2, .ref 66), (1, .ref 64), (0, .ref 63)], [.int 0, .ref 63], jzv181) : jS)) rfl ?_
  refine jl_s (S' := ((36, [(4, .int 0), (3, .ref 153), (2, .ref 66), (1, .ref 64), (0, .ref 63)], [.int (xs 0)], jzv181) : jS)) rfl ?_
  refine jl_s (S' := ((38, [(4, .int 0), (3, .ref 153), (2, .ref 66), (1, .ref 64), (0, .ref 63)], [.int 31, .int (xs 0)], jzv181) : jS)) rfl ?_
  refine jl_s (S' := ((39, [(4, .int 0), (3, .ref 153), (2, .ref 66), (1, .ref 64), (0, .ref 63)], [.int ((xs 0) &&& 31)], jzv181) : jS)) rfl ?_
  rw [hop]
  refine jl_s (S' := ((945, [(4, .int 0), (3, .ref 153), (2, .ref 66), (1, .ref 64), (0, .ref 63)], [], jzv181) : jS)) rfl ?_
  refine jl_s (S' := ((946, [(4, .int 0), (3, .ref 153), (2, .ref 66), (1, .ref 64), (0, .ref 63)], [.ref 64], jzv181) : jS)) rfl ?_
  refine jl_s (S' := ((947, [(4, .int 0), (3, .ref 153), (2, .ref 66), (1, .ref 64), (0, .ref 63)], [.ref 63, .ref 64], jzv181) : jS)) rfl ?_
  refine jl_s (S' := ((949, [(4, .int 0), (3, .ref 153), (2, .ref 66), (1, .ref 64), (0, .ref 63)], [.int 0, .ref 63, .ref 64], jzv181) : jS)) rfl ?_
  refine jl_s (S' := ((950, [(4, .int 0), (3, .ref 153), (2, .ref 66), (1, .ref 64), (0, .ref 63)], [.int 1, .int 0, .ref 63, .ref 64], jzv181) : jS)) rfl ?_
  refine jl_s (S' := ((951, [(4, .int 0), (3, .ref 153), (2, .ref 66), (1, .ref 64), (0, .ref 63)], [.int 1, .ref 63, .ref 64], jzv181) : jS)) rfl ?_
  refine jl_s (S' := ((952, [(4, .int 0), (3, .ref 153), (2, .ref 66), (1, .ref 64), (0, .ref 63)], [.int (xs 1), .ref 64], jzv181) : jS)) rfl ?_
  refine jl_s (S' := ((953, [(4, .int 0), (3, .ref 153), (2, .ref 66), (1, .ref 64), (0, .ref 63)], [.ref 63, .int (xs 1), .ref 64], jzv181) : jS)) rfl ?_
  refine jl_s (S' := ((955, [(4, .int 0), (3, .ref 153), (2, .ref 66), (1, .ref 64), (0, .ref 63)], [.int 0, .ref 63, .int (xs 1), .ref 64], jzv181) : jS)) rfl ?_
  refine jl_s (S' := ((956, [(4, .int 0), (3, .ref 153), (2, .ref 66), (1, .ref 64), (0, .ref 63)], [.int 2, .int 0, .ref 63, .int (xs 1), .ref 64], jzv181) : jS)) rfl ?_
  refine jl_s (S' := ((957, [(4, .int 0), (3, .ref 153), (2, .ref 66), (1, .ref 64), (0, .ref 63)], [.int 2, .ref 63, .int (xs 1), .ref 64], jzv181) : jS)) rfl ?_
  refine jl_s (S' := ((958, [(4, .int 0), (3, .ref 153), (2, .ref 66), (1, .ref 64), (0, .ref 63)], [.int (xs 2), .int (xs 1), .ref 64], jzv181) : jS)) rfl ?_
  refine jl_s (S' := ((959, [(4, .int 0), (3, .ref 153), (2, .ref 66), (1, .ref 64), (0, .ref 63)], [.ref 153, .int (xs 2), .int (xs 1), .ref 64], jzv181) : jS)) rfl ?_
  refine jl_c (t := 14) (as := [.ref 64, .int (xs 1), .int (xs 2), .ref 153]) (V := jzv181) (r := (.inl (some (.int 1)), jzv186)) (S' := ((962, [(4, .int 0), (3, .ref 153), (2, .ref 66), (1, .ref 64), (0, .ref 63)], [.int 1], jzv186) : jS)) rfl (jzl153 xs hop ) rfl ?_
  refine jl_s (S' := ((964, [(5, .int 1), (4, .int 0), (3, .ref 153), (2, .ref 66), (1, .ref 64), (0, .ref 63)], [], jzv186) : jS)) rfl ?_
  refine jl_s (S' := ((965, [(5, .int 1), (4, .int 0), (3, .ref 153), (2, .ref 66), (1, .ref 64), (0, .ref 63)], [.ref 66], jzv186) : jS)) rfl ?_
  refine jl_s (S' := ((966, [(5, .int 1), (4, .int 0), (3, .ref 153), (2, .ref 66), (1, .ref 64), (0, .ref 63)], [.ref 63, .ref 66], jzv186) : jS)) rfl ?_
  refine jl_s (S' := ((968, [(5, .int 1), (4, .int 0), (3, .ref 153), (2, .ref 66), (1, .ref 64), (0, .ref 63)], [.int 0, .ref 63, .ref 66], jzv186) : jS)) rfl ?_
  refine jl_s (S' := ((969, [(5, .int 1), (4, .int 0), (3, .ref 153), (2, .ref 66), (1, .ref 64), (0, .ref 63)], [.int 1, .int 0, .ref 63, .ref 66], jzv186) : jS)) rfl ?_
  refine jl_s (S' := ((970, [(5, .int 1), (4, .int 0), (3, .ref 153), (2, .ref 66), (1, .ref 64), (0, .ref 63)], [.int 1, .ref 63, .ref 66], jzv186) : jS)) rfl ?_
  refine jl_s (S' := ((971, [(5, .int 1), (4, .int 0), (3, .ref 153), (2, .ref 66), (1, .ref 64), (0, .ref 63)], [.int (xs 1), .ref 66], jzv186) : jS)) rfl ?_
  refine jl_s (S' := ((972, [(5, .int 1), (4, .int 0), (3, .ref 153), (2, .ref 66), (1, .ref 64), (0, .ref 63)], [.ref 63, .int (xs 1), .ref 66], jzv186) : jS)) rfl ?_
  refine jl_s (S' := ((974, [(5, .int 1), (4, .int 0), (3, .ref 153), (2, .ref 66), (1, .ref 64), (0, .ref 63)], [.int 0, .ref 63, .int (xs 1), .ref 66], jzv186) : jS)) rfl ?_
  refine jl_s (S' := ((975, [(5, .int 1), (4, .int 0), (3, .ref 153), (2, .ref 66), (1, .ref 64), (0, .ref 63)], [.int 2, .int 0, .ref 63, .int (xs 1), .ref 66], jzv186) : jS)) rfl ?_
  refine jl_s (S' := ((976, [(5, .int 1), (4, .int 0), (3, .ref 153), (2, .ref 66), (1, .ref 64), (0, .ref 63)], [.int 2, .ref 63, .int (xs 1), .ref 66], jzv186) : jS)) rfl ?_
  refine jl_s (S' := ((977, [(5, .int 1), (4, .int 0), (3, .ref 153), (2, .ref 66), (1, .ref 64), (0, .ref 63)], [.int (xs 2), .int (xs 1), .ref 66], jzv186) : jS)) rfl ?_
  refine jl_c (t := 409) (as := [.ref 66, .int (xs 1), .int (xs 2)]) (V := jzv186) (r := (.inl (some (.int 0)), jzv187)) (S' := ((980, [(5, .int 1), (4, .int 0), (3, .ref 153), (2, .ref 66), (1, .ref 64), (0, .ref 63)], [.int 0], jzv187) : jS)) rfl (jzl155 xs hop ) rfl ?_
  refine jl_s (S' := ((982, [(6, .int 0), (5, .int 1), (4, .int 0), (3, .ref 153), (2, .ref 66), (1, .ref 64), (0, .ref 63)], [], jzv187) : jS)) rfl ?_
  refine jl_s (S' := ((983, [(6, .int 0), (5, .int 1), (4, .int 0), (3, .ref 153), (2, .ref 66), (1, .ref 64), (0, .ref 63)], [.ref 66], jzv187) : jS)) rfl ?_
  refine jl_c (t := 244) (as := [.ref 66]) (V := jzv187) (r := (.inl (some (.int 1)), jzv187)) (S' := ((986, [(6, .int 0), (5, .int 1), (4, .int 0), (3, .ref 153), (2, .ref 66), (1, .ref 64), (0, .ref 63)], [.int 1], jzv187) : jS)) rfl (jzl156 xs hop ) rfl ?_
  refine jl_s (S' := ((988, [(6, .int 0), (5, .int 1), (4, .int 0), (3, .ref 153), (2, .ref 66), (1, .ref 64), (0, .ref 63)], [.int 1, .int 1], jzv187) : jS)) rfl ?_
  refine jl_s (S' := ((993, [(6, .int 0), (5, .int 1), (4, .int 0), (3, .ref 153), (2, .ref 66), (1, .ref 64), (0, .ref 63)], [], jzv187) : jS)) rfl ?_
  refine jl_s (S' := ((995, [(6, .int 0), (5, .int 1), (4, .int 0), (3, .ref 153), (2, .ref 66), (1, .ref 64), (0, .ref 63)], [.int 1], jzv187) : jS)) rfl ?_
  refine jl_s (S' := ((1010, [(6, .int 0), (5, .int 1), (4, .int 0), (3, .ref 153), (2, .ref 66), (1, .ref 64), (0, .ref 63)], [], jzv187) : jS)) rfl ?_
  refine jl_s (S' := ((1193, [(6, .int 0), (5, .int 1), (4, .int 0), (3, .ref 153), (2, .ref 66), (1, .ref 64), (0, .ref 63)], [], jzv187) : jS)) rfl ?_
  refine jl_s (S' := ((1196, [(4, .int 4), (6, .int 0), (5, .int 1), (3, .ref 153), (2, .ref 66), (1, .ref 64), (0, .ref 63)], [], jzv187) : jS)) rfl ?_
  refine jl_s (S' := ((23, [(4, .int 4), (6, .int 0), (5, .int 1), (3, .ref 153), (2, .ref 66), (1, .ref 64), (0, .ref 63)], [], jzv187) : jS)) rfl ?_
  refine jl_s (S' := ((25, [(4, .int 4), (6, .int 0), (5, .int 1), (3, .ref 153), (2, .ref 66), (1, .ref 64), (0, .ref 63)], [.int 4], jzv187) : jS)) rfl ?_
  refine jl_s (S' := ((26, [(4, .int 4), (6, .int 0), (5, .int 1), (3, .ref 153), (2, .ref 66), (1, .ref 64), (0, .ref 63)], [.ref 63, .int 4], jzv187) : jS)) rfl ?_
  refine jl_s (S' := ((27, [(4, .int 4), (6, .int 0), (5, .int 1), (3, .ref 153), (2, .ref 66), (1, .ref 64), (0, .ref 63)], [.int 4, .int 4], jzv187) : jS)) rfl ?_
  refine jl_s (S' := ((28, [(4, .int 4), (6, .int 0), (5, .int 1), (3, .ref 153), (2, .ref 66), (1, .ref 64), (0, .ref 63)], [.int 4, .int 4, .int 4], jzv187) : jS)) rfl ?_
  refine jl_s (S' := ((29, [(4, .int 4), (6, .int 0), (5, .int 1), (3, .ref 153), (2, .ref 66), (1, .ref 64), (0, .ref 63)], [.int 0, .int 4], jzv187) : jS)) rfl ?_
  refine jl_s (S' := ((1199, [(4, .int 4), (6, .int 0), (5, .int 1), (3, .ref 153), (2, .ref 66), (1, .ref 64), (0, .ref 63)], [], jzv187) : jS)) rfl ?_
  refine jl_s (S' := ((1200, [(4, .int 4), (6, .int 0), (5, .int 1), (3, .ref 153), (2, .ref 66), (1, .ref 64), (0, .ref 63)], [.int 1], jzv187) : jS)) rfl ?_
  exact jl_r (r := (.inl (some (.int 1)), jzv187)) rfl
-- op 15 : jzl157
set_option maxHeartbeats 4000000 in
set_option maxRecDepth 100000 in
theorem jzl158 (xs : Nat → Int32) (hop : xs 0 &&& 31 = 16)  : jRun ((4, xs) : jX) 2000 36 39 [.ref 64] jzv181 = some (.inr 154, jzv186) := by
  refine jr_run (e := jm39) rfl (Nat.le_of_ble_eq_true rfl) ?_
  refine jl_s (S' := ((1, [(0, .ref 64)], [.ref 64], jzv181) : jS)) rfl ?_
  refine jl_s (S' := ((4, [(0, .ref 64)], [.null], jzv181) : jS)) rfl ?_
  refine jl_s (S' := ((5, [(1, .null), (0, .ref 64)], [], jzv181) : jS)) rfl ?_
  refine jl_s (S' := ((6, [(1, .null), (0, .ref 64)], [.null], jzv181) : jS)) rfl ?_
  refine jl_s (S' := ((9, [(1, .null), (0, .ref 64)], [], jzv181) : jS)) rfl ?_
  exact jl_r (r := (.inr 154, jzv186)) rfl
set_option maxHeartbeats 4000000 in
set_option maxRecDepth 100000 in
theorem jzl159 (xs : Nat → Int32) (hop : xs 0 &&& 31 = 16)  : jRun ((4, xs) : jX) 2000 37 40 [.ref 64, .int (xs 1)] jzv181 = some (.inr 154, jzv186) := by
  refine jr_run (e := jm40) rfl (Nat.le_of_ble_eq_true rfl) ?_
  refine jl_s (S' := ((1, [(0, .ref 64), (1, .int (xs 1))], [.ref 64], jzv181) : jS)) rfl ?_
  exact jl_ct (t := 39) (as := [.ref 64]) (V := jzv181) (r := (.inr 154, jzv186)) (q := (.inr 154, jzv186)) rfl (jzl158 xs hop ) rfl
set_option maxHeartbeats 4000000 in
set_option maxRecDepth 100000 in
theorem jzl160 (xs : Nat → Int32) (hop : xs 0 &&& 31 = 16)  : jRun ((4, xs) : jX) 2000 38 36 [.ref 64, .int (xs 1), .int (xs 2)] jzv181 = some (.inr 154, jzv186) := by
  refine jr_run (e := jm36) rfl (Nat.le_of_ble_eq_true rfl) ?_
  refine jl_s (S' := ((1, [(0, .ref 64), (1, .int (xs 1)), (2, .int (xs 2))], [.ref 64], jzv181) : jS)) rfl ?_
  refine jl_s (S' := ((2, [(0, .ref 64), (1, .int (xs 1)), (2, .int (xs 2))], [.int (xs 1), .ref 64], jzv181) : jS)) rfl ?_
  exact jl_ct (t := 40) (as := [.ref 64, .int (xs 1)]) (V := jzv181) (r := (.inr 154, jzv186)) (q := (.inr 154, jzv186)) rfl (jzl159 xs hop ) rfl
set_option maxHeartbeats 4000000 in
set_option maxRecDepth 100000 in
theorem jzl161 (xs : Nat → Int32) (hop : xs 0 &&& 31 = 16)  : jRun ((4, xs) : jX) 2000 39 15 [.ref 64, .int (xs 1), .int (xs 2), .ref 153] jzv181 = some (.inl (some (.int 1)), jzv186) := by
  refine jr_run (e := jm15) rfl (Nat.le_of_ble_eq_true rfl) ?_
  refine jl_s (S' := ((1, [(0, .ref 64), (1, .int (xs 1)), (2, .int (xs 2)), (3, .ref 153)], [.ref 153], jzv181) : jS)) rfl ?_
  refine jl_s (S' := ((2, [(0, .ref 64), (1, .int (xs 1)), (2, .int (xs 2)), (3, .ref 153)], [.int 0, .ref 153], jzv181) : jS)) rfl ?_
  refine jl_s (S' := ((3, [(0, .ref 64), (1, .int (xs 1)), (2, .int (xs 2)), (3, .ref 153)], [.ref 64, .int 0, .ref 153], jzv181) : jS)) rfl ?_
  refine jl_s (S' := ((4, [(0, .ref 64), (1, .int (xs 1)), (2, .int (xs 2)), (3, .ref 153)], [.int (xs 1), .ref 64, .int 0, .ref 153], jzv181) : jS)) rfl ?_
  refine jl_s (S' := ((5, [(0, .ref 64), (1, .int (xs 1)), (2, .int (xs 2)), (3, .ref 153)], [.int (xs 2), .int (xs 1), .ref 64, .int 0, .ref 153], jzv181) : jS)) rfl ?_
  refine jl_c (t := 36) (as := [.ref 64, .int (xs 1), .int (xs 2)]) (V := jzv181) (r := (.inr 154, jzv186)) (S' := ((13, [(0, .ref 64), (1, .int (xs 1)), (2, .int (xs 2)), (3, .ref 153)], [.ref 154], jzv186) : jS)) rfl (jzl160 xs hop ) rfl ?_
  refine jl_s (S' := ((15, [(4, .ref 154), (0, .ref 64), (1, .int (xs 1)), (2, .int (xs 2)), (3, .ref 153)], [], jzv186) : jS)) rfl ?_
  refine jl_s (S' := ((16, [(4, .ref 154), (0, .ref 64), (1, .int (xs 1)), (2, .int (xs 2)), (3, .ref 153)], [.int 1], jzv186) : jS)) rfl ?_
  exact jl_r (r := (.inl (some (.int 1)), jzv186)) rfl
set_option maxHeartbeats 4000000 in
set_option maxRecDepth 100000 in
theorem jzl162 (xs : Nat → Int32) (hop : xs 0 &&& 31 = 16)  : jRun ((4, xs) : jX) 2000 38 245 [.ref 66, .int 1, .int 0, .int 0] jzv186 = some (.inl (some (.int 1)), jzv187) := by
  refine jr_run (e := jm245) rfl (Nat.le_of_ble_eq_true rfl) ?_
  refine jl_s (S' := ((1, [(0, .ref 66), (1, .int 1), (2, .int 0), (3, .int 0)], [.ref 66], jzv186) : jS)) rfl ?_
  refine jl_s (S' := ((2, [(0, .ref 66), (1, .int 1), (2, .int 0), (3, .int 0)], [.int 1, .ref 66], jzv186) : jS)) rfl ?_
  refine jl_s (S' := ((5, [(0, .ref 66), (1, .int 1), (2, .int 0), (3, .int 0)], [.ref 66], jzv186) : jS)) rfl ?_
  refine jl_s (S' := ((6, [(0, .ref 66), (1, .int 1), (2, .int 0), (3, .int 0)], [.int 1, .ref 66], jzv186) : jS)) rfl ?_
  refine jl_s (S' := ((26, [(0, .ref 66), (1, .int 1), (2, .int 0), (3, .int 0)], [.int 1, .ref 66], jzv186) : jS)) rfl ?_
  refine jl_s (S' := ((29, [(0, .ref 66), (1, .int 1), (2, .int 0), (3, .int 0)], [], jzv187) : jS)) rfl ?_
  refine jl_s (S' := ((30, [(0, .ref 66), (1, .int 1), (2, .int 0), (3, .int 0)], [.ref 66], jzv187) : jS)) rfl ?_
  refine jl_s (S' := ((33, [(0, .ref 66), (1, .int 1), (2, .int 0), (3, .int 0)], [.int 1], jzv187) : jS)) rfl ?_
  refine jl_s (S' := ((36, [(0, .ref 66), (1, .int 1), (2, .int 0), (3, .int 0)], [], jzv187) : jS)) rfl ?_
  refine jl_s (S' := ((37, [(0, .ref 66), (1, .int 1), (2, .int 0), (3, .int 0)], [.int 1], jzv187) : jS)) rfl ?_
  refine jl_s (S' := ((41, [(0, .ref 66), (1, .int 1), (2, .int 0), (3, .int 0)], [.int 1], jzv187) : jS)) rfl ?_
  exact jl_r (r := (.inl (some (.int 1)), jzv187)) rfl
set_option maxHeartbeats 4000000 in
set_option maxRecDepth 100000 in
theorem jzl163 (xs : Nat → Int32) (hop : xs 0 &&& 31 = 16)  : jRun ((4, xs) : jX) 2000 39 410 [.ref 66, .int (xs 1), .int (xs 2)] jzv186 = some (.inl (some (.int 0)), jzv187) := by
  refine jr_run (e := jm410) rfl (Nat.le_of_ble_eq_true rfl) ?_
  refine jl_s (S' := ((1, [(0, .ref 66), (1, .int (xs 1)), (2, .int (xs 2))], [.ref 66], jzv186) : jS)) rfl ?_
  refine jl_s (S' := ((4, [(0, .ref 66), (1, .int (xs 1)), (2, .int (xs 2))], [.int 0], jzv186) : jS)) rfl ?_
  refine jl_s (S' := ((19, [(0, .ref 66), (1, .int (xs 1)), (2, .int (xs 2))], [], jzv186) : jS)) rfl ?_
  refine jl_s (S' := ((20, [(0, .ref 66), (1, .int (xs 1)), (2, .int (xs 2))], [.int 0], jzv186) : jS)) rfl ?_
  refine jl_s (S' := ((21, [(3, .int 0), (0, .ref 66), (1, .int (xs 1)), (2, .int (xs 2))], [], jzv186) : jS)) rfl ?_
  refine jl_s (S' := ((22, [(3, .int 0), (0, .ref 66), (1, .int (xs 1)), (2, .int (xs 2))], [.int 0], jzv186) : jS)) rfl ?_
  refine jl_s (S' := ((55, [(3, .int 0), (0, .ref 66), (1, .int (xs 1)), (2, .int (xs 2))], [], jzv186) : jS)) rfl ?_
  refine jl_s (S' := ((56, [(3, .int 0), (0, .ref 66), (1, .int (xs 1)), (2, .int (xs 2))], [.int 0], jzv186) : jS)) rfl ?_
  refine jl_s (S' := ((58, [(4, .int 0), (3, .int 0), (0, .ref 66), (1, .int (xs 1)), (2, .int (xs 2))], [], jzv186) : jS)) rfl ?_
  refine jl_s (S' := ((59, [(4, .int 0), (3, .int 0), (0, .ref 66), (1, .int (xs 1)), (2, .int (xs 2))], [.ref 66], jzv186) : jS)) rfl ?_
  refine jl_s (S' := ((60, [(4, .int 0), (3, .int 0), (0, .ref 66), (1, .int (xs 1)), (2, .int (xs 2))], [.ref 66, .ref 66], jzv186) : jS)) rfl ?_
  refine jl_s (S' := ((63, [(4, .int 0), (3, .int 0), (0, .ref 66), (1, .int (xs 1)), (2, .int (xs 2))], [.int 0, .ref 66], jzv186) : jS)) rfl ?_
  refine jl_s (S' := ((66, [(4, .int 0), (3, .int 0), (0, .ref 66), (1, .int (xs 1)), (2, .int (xs 2))], [.ref 66], jzv186) : jS)) rfl ?_
  refine jl_s (S' := ((67, [(4, .int 0), (3, .int 0), (0, .ref 66), (1, .int (xs 1)), (2, .int (xs 2))], [.int 1, .ref 66], jzv186) : jS)) rfl ?_
  refine jl_s (S' := ((71, [(4, .int 0), (3, .int 0), (0, .ref 66), (1, .int (xs 1)), (2, .int (xs 2))], [.int 1, .ref 66], jzv186) : jS)) rfl ?_
  refine jl_s (S' := ((72, [(4, .int 0), (3, .int 0), (0, .ref 66), (1, .int (xs 1)), (2, .int (xs 2))], [.ref 66, .int 1, .ref 66], jzv186) : jS)) rfl ?_
  refine jl_s (S' := ((75, [(4, .int 0), (3, .int 0), (0, .ref 66), (1, .int (xs 1)), (2, .int (xs 2))], [.int 0, .int 1, .ref 66], jzv186) : jS)) rfl ?_
  refine jl_s (S' := ((86, [(4, .int 0), (3, .int 0), (0, .ref 66), (1, .int (xs 1)), (2, .int (xs 2))], [.int 1, .ref 66], jzv186) : jS)) rfl ?_
  refine jl_s (S' := ((87, [(4, .int 0), (3, .int 0), (0, .ref 66), (1, .int (xs 1)), (2, .int (xs 2))], [.int 0, .int 1, .ref 66], jzv186) : jS)) rfl ?_
  refine jl_s (S' := ((88, [(4, .int 0), (3, .int 0), (0, .ref 66), (1, .int (xs 1)), (2, .int (xs 2))], [.int 0, .int 0, .int 1, .ref 66], jzv186) : jS)) rfl ?_
  refine jl_s (S' := ((100, [(4, .int 0), (3, .int 0), (0, .ref 66), (1, .int (xs 1)), (2, .int (xs 2))], [.int 0, .int 1, .ref 66], jzv186) : jS)) rfl ?_
  refine jl_s (S' := ((101, [(4, .int 0), (3, .int 0), (0, .ref 66), (1, .int (xs 1)), (2, .int (xs 2))], [.int 0, .int 0, .int 1, .ref 66], jzv186) : jS)) rfl ?_
  refine jl_c (t := 245) (as := [.ref 66, .int 1, .int 0, .int 0]) (V := jzv186) (r := (.inl (some (.int 1)), jzv187)) (S' := ((104, [(4, .int 0), (3, .int 0), (0, .ref 66), (1, .int (xs 1)), (2, .int (xs 2))], [.int 1], jzv187) : jS)) rfl (jzl162 xs hop ) rfl ?_
  refine jl_s (S' := ((107, [(4, .int 0), (3, .int 0), (0, .ref 66), (1, .int (xs 1)), (2, .int (xs 2))], [], jzv187) : jS)) rfl ?_
  refine jl_s (S' := ((108, [(4, .int 0), (3, .int 0), (0, .ref 66), (1, .int (xs 1)), (2, .int (xs 2))], [.int 0], jzv187) : jS)) rfl ?_
  exact jl_r (r := (.inl (some (.int 0)), jzv187)) rfl
set_option maxHeartbeats 4000000 in
set_option maxRecDepth 100000 in
theorem jzl164 (xs : Nat → Int32) (hop : xs 0 &&& 31 = 16)  : jRun ((4, xs) : jX) 2000 39 244 [.ref 66] jzv187 = some (.inl (some (.int 1)), jzv187) := by
  refine jr_run (e := jm244) rfl (Nat.le_of_ble_eq_true rfl) ?_
  refine jl_s (S' := ((1, [(0, .ref 66)], [.ref 66], jzv187) : jS)) rfl ?_
  refine jl_s (S' := ((4, [(0, .ref 66)], [.int 1], jzv187) : jS)) rfl ?_
  exact jl_r (r := (.inl (some (.int 1)), jzv187)) rfl
set_option maxHeartbeats 4000000 in
set_option maxRecDepth 100000 in
theorem jzl165 (xs : Nat → Int32) (hop : xs 0 &&& 31 = 16)  : jLoop (jRun ((4, xs) : jX) 2000 39) ((4, xs) : jX) jm18 1000 ((23, [(4, .int 0), (3, .ref 153), (2, .ref 66), (1, .ref 64), (0, .ref 63)], [], jzv181) : jS) = some (.inl (some (.int 1)), jzv187) := by
  refine jl_s (S' := ((25, [(4, .int 0), (3, .ref 153), (2, .ref 66), (1, .ref 64), (0, .ref 63)], [.int 0], jzv181) : jS)) rfl ?_
  refine jl_s (S' := ((26, [(4, .int 0), (3, .ref 153), (2, .ref 66), (1, .ref 64), (0, .ref 63)], [.ref 63, .int 0], jzv181) : jS)) rfl ?_
  refine jl_s (S' := ((27, [(4, .int 0), (3, .ref 153), (2, .ref 66), (1, .ref 64), (0, .ref 63)], [.int 4, .int 0], jzv181) : jS)) rfl ?_
  refine jl_s (S' := ((28, [(4, .int 0), (3, .ref 153), (2, .ref 66), (1, .ref 64), (0, .ref 63)], [.int 4, .int 4, .int 0], jzv181) : jS)) rfl ?_
  refine jl_s (S' := ((29, [(4, .int 0), (3, .ref 153), (2, .ref 66), (1, .ref 64), (0, .ref 63)], [.int 0, .int 0], jzv181) : jS)) rfl ?_
  refine jl_s (S' := ((32, [(4, .int 0), (3, .ref 153), (2, .ref 66), (1, .ref 64), (0, .ref 63)], [], jzv181) : jS)) rfl ?_
  refine jl_s (S' := ((33, [(4, .int 0), (3, .ref 153), (2, .ref 66), (1, .ref 64), (0, .ref 63)], [.ref 63], jzv181) : jS)) rfl ?_
  refine jl_s (S' := ((35, [(4, .int 0), (3, .ref 153), (2, .ref 66), (1, .ref 64), (0, .ref 63)], [.int 0, .ref 63], jzv181) : jS)) rfl ?_
  refine jl_s (S' := ((36, [(4, .int 0), (3, .ref 153), (2, .ref 66), (1, .ref 64), (0, .ref 63)], [.int (xs 0)], jzv181) : jS)) rfl ?_
  refine jl_s (S' := ((38, [(4, .int 0), (3, .ref 153), (2, .ref 66), (1, .ref 64), (0, .ref 63)], [.int 31, .int (xs 0)], jzv181) : jS)) rfl ?_
  refine jl_s (S' := ((39, [(4, .int 0), (3, .ref 153), (2, .ref 66), (1, .ref 64), (0, .ref 63)], [.int ((xs 0) &&& 31)], jzv181) : jS)) rfl ?_
  rw [hop]
  refine jl_s (S' := ((1013, [(4, .int 0), (3, .ref 153), (2, .ref 66), (1, .ref 64), (0, .ref 63)], [], jzv181) : jS)) rfl ?_
  refine jl_s (S' := ((1014, [(4, .int 0), (3, .ref 153), (2, .ref 66), (1, .ref 64), (0, .ref 63)], [.ref 64], jzv181) : jS)) rfl ?_
  refine jl_s (S' := ((1015, [(4, .int 0), (3, .ref 153), (2, .ref 66), (1, .ref 64), (0, .ref 63)], [.ref 63, .ref 64], jzv181) : jS)) rfl ?_
  refine jl_s (S' := ((1017, [(4, .int 0), (3, .ref 153), (2, .ref 66), (1, .ref 64), (0, .ref 63)], [.int 0, .ref 63, .ref 64], jzv181) : jS)) rfl ?_
  refine jl_s (S' := ((1018, [(4, .int 0), (3, .ref 153), (2, .ref 66), (1, .ref 64), (0, .ref 63)], [.int 1, .int 0, .ref 63, .ref 64], jzv181) : jS)) rfl ?_
  refine jl_s (S' := ((1019, [(4, .int 0), (3, .ref 153), (2, .ref 66), (1, .ref 64), (0, .ref 63)], [.int 1, .ref 63, .ref 64], jzv181) : jS)) rfl ?_
  refine jl_s (S' := ((1020, [(4, .int 0), (3, .ref 153), (2, .ref 66), (1, .ref 64), (0, .ref 63)], [.int (xs 1), .ref 64], jzv181) : jS)) rfl ?_
  refine jl_s (S' := ((1021, [(4, .int 0), (3, .ref 153), (2, .ref 66), (1, .ref 64), (0, .ref 63)], [.ref 63, .int (xs 1), .ref 64], jzv181) : jS)) rfl ?_
  refine jl_s (S' := ((1023, [(4, .int 0), (3, .ref 153), (2, .ref 66), (1, .ref 64), (0, .ref 63)], [.int 0, .ref 63, .int (xs 1), .ref 64], jzv181) : jS)) rfl ?_
  refine jl_s (S' := ((1024, [(4, .int 0), (3, .ref 153), (2, .ref 66), (1, .ref 64), (0, .ref 63)], [.int 2, .int 0, .ref 63, .int (xs 1), .ref 64], jzv181) : jS)) rfl ?_
  refine jl_s (S' := ((1025, [(4, .int 0), (3, .ref 153), (2, .ref 66), (1, .ref 64), (0, .ref 63)], [.int 2, .ref 63, .int (xs 1), .ref 64], jzv181) : jS)) rfl ?_
  refine jl_s (S' := ((1026, [(4, .int 0), (3, .ref 153), (2, .ref 66), (1, .ref 64), (0, .ref 63)], [.int (xs 2), .int (xs 1), .ref 64], jzv181) : jS)) rfl ?_
  refine jl_s (S' := ((1027, [(4, .int 0), (3, .ref 153), (2, .ref 66), (1, .ref 64), (0, .ref 63)], [.ref 153, .int (xs 2), .int (xs 1), .ref 64], jzv181) : jS)) rfl ?_
  refine jl_c (t := 15) (as := [.ref 64, .int (xs 1), .int (xs 2), .ref 153]) (V := jzv181) (r := (.inl (some (.int 1)), jzv186)) (S' := ((1030, [(4, .int 0), (3, .ref 153), (2, .ref 66), (1, .ref 64), (0, .ref 63)], [.int 1], jzv186) : jS)) rfl (jzl161 xs hop ) rfl ?_
  refine jl_s (S' := ((1032, [(5, .int 1), (4, .int 0), (3, .ref 153), (2, .ref 66), (1, .ref 64), (0, .ref 63)], [], jzv186) : jS)) rfl ?_
  refine jl_s (S' := ((1033, [(5, .int 1), (4, .int 0), (3, .ref 153), (2, .ref 66), (1, .ref 64), (0, .ref 63)], [.ref 66], jzv186) : jS)) rfl ?_
  refine jl_s (S' := ((1034, [(5, .int 1), (4, .int 0), (3, .ref 153), (2, .ref 66), (1, .ref 64), (0, .ref 63)], [.ref 63, .ref 66], jzv186) : jS)) rfl ?_
  refine jl_s (S' := ((1036, [(5, .int 1), (4, .int 0), (3, .ref 153), (2, .ref 66), (1, .ref 64), (0, .ref 63)], [.int 0, .ref 63, .ref 66], jzv186) : jS)) rfl ?_
  refine jl_s (S' := ((1037, [(5, .int 1), (4, .int 0), (3, .ref 153), (2, .ref 66), (1, .ref 64), (0, .ref 63)], [.int 1, .int 0, .ref 63, .ref 66], jzv186) : jS)) rfl ?_
  refine jl_s (S' := ((1038, [(5, .int 1), (4, .int 0), (3, .ref 153), (2, .ref 66), (1, .ref 64), (0, .ref 63)], [.int 1, .ref 63, .ref 66], jzv186) : jS)) rfl ?_
  refine jl_s (S' := ((1039, [(5, .int 1), (4, .int 0), (3, .ref 153), (2, .ref 66), (1, .ref 64), (0, .ref 63)], [.int (xs 1), .ref 66], jzv186) : jS)) rfl ?_
  refine jl_s (S' := ((1040, [(5, .int 1), (4, .int 0), (3, .ref 153), (2, .ref 66), (1, .ref 64), (0, .ref 63)], [.ref 63, .int (xs 1), .ref 66], jzv186) : jS)) rfl ?_
  refine jl_s (S' := ((1042, [(5, .int 1), (4, .int 0), (3, .ref 153), (2, .ref 66), (1, .ref 64), (0, .ref 63)], [.int 0, .ref 63, .int (xs 1), .ref 66], jzv186) : jS)) rfl ?_
  refine jl_s (S' := ((1043, [(5, .int 1), (4, .int 0), (3, .ref 153), (2, .ref 66), (1, .ref 64), (0, .ref 63)], [.int 2, .int 0, .ref 63, .int (xs 1), .ref 66], jzv186) : jS)) rfl ?_
  refine jl_s (S' := ((1044, [(5, .int 1), (4, .int 0), (3, .ref 153), (2, .ref 66), (1, .ref 64), (0, .ref 63)], [.int 2, .ref 63, .int (xs 1), .ref 66], jzv186) : jS)) rfl ?_
  refine jl_s (S' := ((1045, [(5, .int 1), (4, .int 0), (3, .ref 153), (2, .ref 66), (1, .ref 64), (0, .ref 63)], [.int (xs 2), .int (xs 1), .ref 66], jzv186) : jS)) rfl ?_
  refine jl_c (t := 410) (as := [.ref 66, .int (xs 1), .int (xs 2)]) (V := jzv186) (r := (.inl (some (.int 0)), jzv187)) (S' := ((1048, [(5, .int 1), (4, .int 0), (3, .ref 153), (2, .ref 66), (1, .ref 64), (0, .ref 63)], [.int 0], jzv187) : jS)) rfl (jzl163 xs hop ) rfl ?_
  refine jl_s (S' := ((1050, [(6, .int 0), (5, .int 1), (4, .int 0), (3, .ref 153), (2, .ref 66), (1, .ref 64), (0, .ref 63)], [], jzv187) : jS)) rfl ?_
  refine jl_s (S' := ((1051, [(6, .int 0), (5, .int 1), (4, .int 0), (3, .ref 153), (2, .ref 66), (1, .ref 64), (0, .ref 63)], [.ref 66], jzv187) : jS)) rfl ?_
  refine jl_c (t := 244) (as := [.ref 66]) (V := jzv187) (r := (.inl (some (.int 1)), jzv187)) (S' := ((1054, [(6, .int 0), (5, .int 1), (4, .int 0), (3, .ref 153), (2, .ref 66), (1, .ref 64), (0, .ref 63)], [.int 1], jzv187) : jS)) rfl (jzl164 xs hop ) rfl ?_
  refine jl_s (S' := ((1056, [(6, .int 0), (5, .int 1), (4, .int 0), (3, .ref 153), (2, .ref 66), (1, .ref 64), (0, .ref 63)], [.int 1, .int 1], jzv187) : jS)) rfl ?_
  refine jl_s (S' := ((1061, [(6, .int 0), (5, .int 1), (4, .int 0), (3, .ref 153), (2, .ref 66), (1, .ref 64), (0, .ref 63)], [], jzv187) : jS)) rfl ?_
  refine jl_s (S' := ((1063, [(6, .int 0), (5, .int 1), (4, .int 0), (3, .ref 153), (2, .ref 66), (1, .ref 64), (0, .ref 63)], [.int 1], jzv187) : jS)) rfl ?_
  refine jl_s (S' := ((1078, [(6, .int 0), (5, .int 1), (4, .int 0), (3, .ref 153), (2, .ref 66), (1, .ref 64), (0, .ref 63)], [], jzv187) : jS)) rfl ?_
  refine jl_s (S' := ((1193, [(6, .int 0), (5, .int 1), (4, .int 0), (3, .ref 153), (2, .ref 66), (1, .ref 64), (0, .ref 63)], [], jzv187) : jS)) rfl ?_
  refine jl_s (S' := ((1196, [(4, .int 4), (6, .int 0), (5, .int 1), (3, .ref 153), (2, .ref 66), (1, .ref 64), (0, .ref 63)], [], jzv187) : jS)) rfl ?_
  refine jl_s (S' := ((23, [(4, .int 4), (6, .int 0), (5, .int 1), (3, .ref 153), (2, .ref 66), (1, .ref 64), (0, .ref 63)], [], jzv187) : jS)) rfl ?_
  refine jl_s (S' := ((25, [(4, .int 4), (6, .int 0), (5, .int 1), (3, .ref 153), (2, .ref 66), (1, .ref 64), (0, .ref 63)], [.int 4], jzv187) : jS)) rfl ?_
  refine jl_s (S' := ((26, [(4, .int 4), (6, .int 0), (5, .int 1), (3, .ref 153), (2, .ref 66), (1, .ref 64), (0, .ref 63)], [.ref 63, .int 4], jzv187) : jS)) rfl ?_
  refine jl_s (S' := ((27, [(4, .int 4), (6, .int 0), (5, .int 1), (3, .ref 153), (2, .ref 66), (1, .ref 64), (0, .ref 63)], [.int 4, .int 4], jzv187) : jS)) rfl ?_
  refine jl_s (S' := ((28, [(4, .int 4), (6, .int 0), (5, .int 1), (3, .ref 153), (2, .ref 66), (1, .ref 64), (0, .ref 63)], [.int 4, .int 4, .int 4], jzv187) : jS)) rfl ?_
  refine jl_s (S' := ((29, [(4, .int 4), (6, .int 0), (5, .int 1), (3, .ref 153), (2, .ref 66), (1, .ref 64), (0, .ref 63)], [.int 0, .int 4], jzv187) : jS)) rfl ?_
  refine jl_s (S' := ((1199, [(4, .int 4), (6, .int 0), (5, .int 1), (3, .ref 153), (2, .ref 66), (1, .ref 64), (0, .ref 63)], [], jzv187) : jS)) rfl ?_
  refine jl_s (S' := ((1200, [(4, .int 4), (6, .int 0), (5, .int 1), (3, .ref 153), (2, .ref 66), (1, .ref 64), (0, .ref 63)], [.int 1], jzv187) : jS)) rfl ?_
  exact jl_r (r := (.inl (some (.int 1)), jzv187)) rfl
-- op 16 : jzl165
set_option maxHeartbeats 4000000 in
set_option maxRecDepth 100000 in
theorem jzl166 (xs : Nat → Int32) (hop : xs 0 &&& 31 = 17)  : jRun ((4, xs) : jX) 2000 37 39 [.ref 64] jzv181 = some (.inr 154, jzv186) := by
  refine jr_run (e := jm39) rfl (Nat.le_of_ble_eq_true rfl) ?_
  refine jl_s (S' := ((1, [(0, .ref 64)], [.ref 64], jzv181) : jS)) rfl ?_
  refine jl_s (S' := ((4, [(0, .ref 64)], [.null], jzv181) : jS)) rfl ?_
  refine jl_s (S' := ((5, [(1, .null), (0, .ref 64)], [], jzv181) : jS)) rfl ?_
  refine jl_s (S' := ((6, [(1, .null), (0, .ref 64)], [.null], jzv181) : jS)) rfl ?_
  refine jl_s (S' := ((9, [(1, .null), (0, .ref 64)], [], jzv181) : jS)) rfl ?_
  exact jl_r (r := (.inr 154, jzv186)) rfl
set_option maxHeartbeats 4000000 in
set_option maxRecDepth 100000 in
theorem jzl167 (xs : Nat → Int32) (hop : xs 0 &&& 31 = 17)  : jRun ((4, xs) : jX) 2000 38 37 [.ref 64, .int (xs 1)] jzv181 = some (.inr 154, jzv186) := by
  refine jr_run (e := jm37) rfl (Nat.le_of_ble_eq_true rfl) ?_
  refine jl_s (S' := ((1, [(0, .ref 64), (1, .int (xs 1))], [.ref 64], jzv181) : jS)) rfl ?_
  exact jl_ct (t := 39) (as := [.ref 64]) (V := jzv181) (r := (.inr 154, jzv186)) (q := (.inr 154, jzv186)) rfl (jzl166 xs hop ) rfl
set_option maxHeartbeats 4000000 in
set_option maxRecDepth 100000 in
theorem jzl168 (xs : Nat → Int32) (hop : xs 0 &&& 31 = 17)  : jRun ((4, xs) : jX) 2000 39 16 [.ref 64, .int (xs 1), .ref 153] jzv181 = some (.inl (some (.int 1)), jzv186) := by
  refine jr_run (e := jm16) rfl (Nat.le_of_ble_eq_true rfl) ?_
  refine jl_s (S' := ((1, [(0, .ref 64), (1, .int (xs 1)), (2, .ref 153)], [.ref 153], jzv181) : jS)) rfl ?_
  refine jl_s (S' := ((2, [(0, .ref 64), (1, .int (xs 1)), (2, .ref 153)], [.int 0, .ref 153], jzv181) : jS)) rfl ?_
  refine jl_s (S' := ((3, [(0, .ref 64), (1, .int (xs 1)), (2, .ref 153)], [.ref 64, .int 0, .ref 153], jzv181) : jS)) rfl ?_
  refine jl_s (S' := ((4, [(0, .ref 64), (1, .int (xs 1)), (2, .ref 153)], [.int (xs 1), .ref 64, .int 0, .ref 153], jzv181) : jS)) rfl ?_
  refine jl_c (t := 37) (as := [.ref 64, .int (xs 1)]) (V := jzv181) (r := (.inr 154, jzv186)) (S' := ((12, [(0, .ref 64), (1, .int (xs 1)), (2, .ref 153)], [.ref 154], jzv186) : jS)) rfl (jzl167 xs hop ) rfl ?_
  refine jl_s (S' := ((13, [(3, .ref 154), (0, .ref 64), (1, .int (xs 1)), (2, .ref 153)], [], jzv186) : jS)) rfl ?_
  refine jl_s (S' := ((14, [(3, .ref 154), (0, .ref 64), (1, .int (xs 1)), (2, .ref 153)], [.int 1], jzv186) : jS)) rfl ?_
  exact jl_r (r := (.inl (some (.int 1)), jzv186)) rfl
set_option maxHeartbeats 4000000 in
set_option maxRecDepth 100000 in
theorem jzl169 (xs : Nat → Int32) (hop : xs 0 &&& 31 = 17)  : jRun ((4, xs) : jX) 2000 38 245 [.ref 66, .int 1, .int 0, .int 0] jzv186 = some (.inl (some (.int 1)), jzv187) := by
  refine jr_run (e := jm245) rfl (Nat.le_of_ble_eq_true rfl) ?_
  refine jl_s (S' := ((1, [(0, .ref 66), (1, .int 1), (2, .int 0), (3, .int 0)], [.ref 66], jzv186) : jS)) rfl ?_
  refine jl_s (S' := ((2, [(0, .ref 66), (1, .int 1), (2, .int 0), (3, .int 0)], [.int 1, .ref 66], jzv186) : jS)) rfl ?_
  refine jl_s (S' := ((5, [(0, .ref 66), (1, .int 1), (2, .int 0), (3, .int 0)], [.ref 66], jzv186) : jS)) rfl ?_
  refine jl_s (S' := ((6, [(0, .ref 66), (1, .int 1), (2, .int 0), (3, .int 0)], [.int 1, .ref 66], jzv186) : jS)) rfl ?_
  refine jl_s (S' := ((26, [(0, .ref 66), (1, .int 1), (2, .int 0), (3, .int 0)], [.int 1, .ref 66], jzv186) : jS)) rfl ?_
  refine jl_s (S' := ((29, [(0, .ref 66), (1, .int 1), (2, .int 0), (3, .int 0)], [], jzv187) : jS)) rfl ?_
  refine jl_s (S' := ((30, [(0, .ref 66), (1, .int 1), (2, .int 0), (3, .int 0)], [.ref 66], jzv187) : jS)) rfl ?_
  refine jl_s (S' := ((33, [(0, .ref 66), (1, .int 1), (2, .int 0), (3, .int 0)], [.int 1], jzv187) : jS)) rfl ?_
  refine jl_s (S' := ((36, [(0, .ref 66), (1, .int 1), (2, .int 0), (3, .int 0)], [], jzv187) : jS)) rfl ?_
  refine jl_s (S' := ((37, [(0, .ref 66), (1, .int 1), (2, .int 0), (3, .int 0)], [.int 1], jzv187) : jS)) rfl ?_
  refine jl_s (S' := ((41, [(0, .ref 66), (1, .int 1), (2, .int 0), (3, .int 0)], [.int 1], jzv187) : jS)) rfl ?_
  exact jl_r (r := (.inl (some (.int 1)), jzv187)) rfl
set_option maxHeartbeats 4000000 in
set_option maxRecDepth 100000 in
theorem jzl170 (xs : Nat → Int32) (hop : xs 0 &&& 31 = 17)  : jRun ((4, xs) : jX) 2000 39 411 [.ref 66, .int (xs 1)] jzv186 = some (.inl (some (.int 0)), jzv187) := by
  refine jr_run (e := jm411) rfl (Nat.le_of_ble_eq_true rfl) ?_
  refine jl_s (S' := ((1, [(0, .ref 66), (1, .int (xs 1))], [.ref 66], jzv186) : jS)) rfl ?_
  refine jl_s (S' := ((2, [(0, .ref 66), (1, .int (xs 1))], [.ref 66, .ref 66], jzv186) : jS)) rfl ?_
  refine jl_s (S' := ((5, [(0, .ref 66), (1, .int (xs 1))], [.int 0, .ref 66], jzv186) : jS)) rfl ?_
  refine jl_s (S' := ((8, [(0, .ref 66), (1, .int (xs 1))], [.ref 66], jzv186) : jS)) rfl ?_
  refine jl_s (S' := ((9, [(0, .ref 66), (1, .int (xs 1))], [.int 1, .ref 66], jzv186) : jS)) rfl ?_
  refine jl_s (S' := ((13, [(0, .ref 66), (1, .int (xs 1))], [.int 1, .ref 66], jzv186) : jS)) rfl ?_
  refine jl_s (S' := ((14, [(0, .ref 66), (1, .int (xs 1))], [.ref 66, .int 1, .ref 66], jzv186) : jS)) rfl ?_
  refine jl_s (S' := ((17, [(0, .ref 66), (1, .int (xs 1))], [.int 0, .int 1, .ref 66], jzv186) : jS)) rfl ?_
  refine jl_s (S' := ((54, [(0, .ref 66), (1, .int (xs 1))], [.int 1, .ref 66], jzv186) : jS)) rfl ?_
  refine jl_s (S' := ((55, [(0, .ref 66), (1, .int (xs 1))], [.int 0, .int 1, .ref 66], jzv186) : jS)) rfl ?_
  refine jl_s (S' := ((56, [(0, .ref 66), (1, .int (xs 1))], [.int 0, .int 0, .int 1, .ref 66], jzv186) : jS)) rfl ?_
  refine jl_c (t := 245) (as := [.ref 66, .int 1, .int 0, .int 0]) (V := jzv186) (r := (.inl (some (.int 1)), jzv187)) (S' := ((59, [(0, .ref 66), (1, .int (xs 1))], [.int 1], jzv187) : jS)) rfl (jzl169 xs hop ) rfl ?_
  refine jl_s (S' := ((62, [(0, .ref 66), (1, .int (xs 1))], [], jzv187) : jS)) rfl ?_
  refine jl_s (S' := ((63, [(0, .ref 66), (1, .int (xs 1))], [.int 0], jzv187) : jS)) rfl ?_
  exact jl_r (r := (.inl (some (.int 0)), jzv187)) rfl
set_option maxHeartbeats 4000000 in
set_option maxRecDepth 100000 in
theorem jzl171 (xs : Nat → Int32) (hop : xs 0 &&& 31 = 17)  : jRun ((4, xs) : jX) 2000 39 244 [.ref 66] jzv187 = some (.inl (some (.int 1)), jzv187) := by
  refine jr_run (e := jm244) rfl (Nat.le_of_ble_eq_true rfl) ?_
  refine jl_s (S' := ((1, [(0, .ref 66)], [.ref 66], jzv187) : jS)) rfl ?_
  refine jl_s (S' := ((4, [(0, .ref 66)], [.int 1], jzv187) : jS)) rfl ?_
  exact jl_r (r := (.inl (some (.int 1)), jzv187)) rfl
set_option maxHeartbeats 4000000 in
set_option maxRecDepth 100000 in
theorem jzl172 (xs : Nat → Int32) (hop : xs 0 &&& 31 = 17)  : jLoop (jRun ((4, xs) : jX) 2000 39) ((4, xs) : jX) jm18 1000 ((23, [(4, .int 0), (3, .ref 153), (2, .ref 66), (1, .ref 64), (0, .ref 63)], [], jzv181) : jS) = some (.inl (some (.int 1)), jzv187) := by
  refine jl_s (S' := ((25, [(4, .int 0), (3, .ref 153), (2, .ref 66), (1, .ref 64), (0, .ref 63)], [.int 0], jzv181) : jS)) rfl ?_
  refine jl_s (S' := ((26, [(4, .int 0), (3, .ref 153), (2, .ref 66), (1, .ref 64), (0, .ref 63)], [.ref 63, .int 0], jzv181) : jS)) rfl ?_
  refine jl_s (S' := ((27, [(4, .int 0), (3, .ref 153), (2, .ref 66), (1, .ref 64), (0, .ref 63)], [.int 4, .int 0], jzv181) : jS)) rfl ?_
  refine jl_s (S' := ((28, [(4, .int 0), (3, .ref 153), (2, .ref 66), (1, .ref 64), (0, .ref 63)], [.int 4, .int 4, .int 0], jzv181) : jS)) rfl ?_
  refine jl_s (S' := ((29, [(4, .int 0), (3, .ref 153), (2, .ref 66), (1, .ref 64), (0, .ref 63)], [.int 0, .int 0], jzv181) : jS)) rfl ?_
  refine jl_s (S' := ((32, [(4, .int 0), (3, .ref 153), (2, .ref 66), (1, .ref 64), (0, .ref 63)], [], jzv181) : jS)) rfl ?_
  refine jl_s (S' := ((33, [(4, .int 0), (3, .ref 153), (2, .ref 66), (1, .ref 64), (0, .ref 63)], [.ref 63], jzv181) : jS)) rfl ?_
  refine jl_s (S' := ((35, [(4, .int 0), (3, .ref 153), (2, .ref 66), (1, .ref 64), (0, .ref 63)], [.int 0, .ref 63], jzv181) : jS)) rfl ?_
  refine jl_s (S' := ((36, [(4, .int 0), (3, .ref 153), (2, .ref 66), (1, .ref 64), (0, .ref 63)], [.int (xs 0)], jzv181) : jS)) rfl ?_
  refine jl_s (S' := ((38, [(4, .int 0), (3, .ref 153), (2, .ref 66), (1, .ref 64), (0, .ref 63)], [.int 31, .int (xs 0)], jzv181) : jS)) rfl ?_
  refine jl_s (S' := ((39, [(4, .int 0), (3, .ref 153), (2, .ref 66), (1, .ref 64), (0, .ref 63)], [.int ((xs 0) &&& 31)], jzv181) : jS)) rfl ?_
  rw [hop]
  refine jl_s (S' := ((1081, [(4, .int 0), (3, .ref 153), (2, .ref 66), (1, .ref 64), (0, .ref 63)], [], jzv181) : jS)) rfl ?_
  refine jl_s (S' := ((1082, [(4, .int 0), (3, .ref 153), (2, .ref 66), (1, .ref 64), (0, .ref 63)], [.ref 64], jzv181) : jS)) rfl ?_
  refine jl_s (S' := ((1083, [(4, .int 0), (3, .ref 153), (2, .ref 66), (1, .ref 64), (0, .ref 63)], [.ref 63, .ref 64], jzv181) : jS)) rfl ?_
  refine jl_s (S' := ((1085, [(4, .int 0), (3, .ref 153), (2, .ref 66), (1, .ref 64), (0, .ref 63)], [.int 0, .ref 63, .ref 64], jzv181) : jS)) rfl ?_
  refine jl_s (S' := ((1086, [(4, .int 0), (3, .ref 153), (2, .ref 66), (1, .ref 64), (0, .ref 63)], [.int 1, .int 0, .ref 63, .ref 64], jzv181) : jS)) rfl ?_
  refine jl_s (S' := ((1087, [(4, .int 0), (3, .ref 153), (2, .ref 66), (1, .ref 64), (0, .ref 63)], [.int 1, .ref 63, .ref 64], jzv181) : jS)) rfl ?_
  refine jl_s (S' := ((1088, [(4, .int 0), (3, .ref 153), (2, .ref 66), (1, .ref 64), (0, .ref 63)], [.int (xs 1), .ref 64], jzv181) : jS)) rfl ?_
  refine jl_s (S' := ((1089, [(4, .int 0), (3, .ref 153), (2, .ref 66), (1, .ref 64), (0, .ref 63)], [.ref 153, .int (xs 1), .ref 64], jzv181) : jS)) rfl ?_
  refine jl_c (t := 16) (as := [.ref 64, .int (xs 1), .ref 153]) (V := jzv181) (r := (.inl (some (.int 1)), jzv186)) (S' := ((1092, [(4, .int 0), (3, .ref 153), (2, .ref 66), (1, .ref 64), (0, .ref 63)], [.int 1], jzv186) : jS)) rfl (jzl168 xs hop ) rfl ?_
  refine jl_s (S' := ((1094, [(5, .int 1), (4, .int 0), (3, .ref 153), (2, .ref 66), (1, .ref 64), (0, .ref 63)], [], jzv186) : jS)) rfl ?_
  refine jl_s (S' := ((1095, [(5, .int 1), (4, .int 0), (3, .ref 153), (2, .ref 66), (1, .ref 64), (0, .ref 63)], [.ref 66], jzv186) : jS)) rfl ?_
  refine jl_s (S' := ((1096, [(5, .int 1), (4, .int 0), (3, .ref 153), (2, .ref 66), (1, .ref 64), (0, .ref 63)], [.ref 63, .ref 66], jzv186) : jS)) rfl ?_
  refine jl_s (S' := ((1098, [(5, .int 1), (4, .int 0), (3, .ref 153), (2, .ref 66), (1, .ref 64), (0, .ref 63)], [.int 0, .ref 63, .ref 66], jzv186) : jS)) rfl ?_
  refine jl_s (S' := ((1099, [(5, .int 1), (4, .int 0), (3, .ref 153), (2, .ref 66), (1, .ref 64), (0, .ref 63)], [.int 1, .int 0, .ref 63, .ref 66], jzv186) : jS)) rfl ?_
  refine jl_s (S' := ((1100, [(5, .int 1), (4, .int 0), (3, .ref 153), (2, .ref 66), (1, .ref 64), (0, .ref 63)], [.int 1, .ref 63, .ref 66], jzv186) : jS)) rfl ?_
  refine jl_s (S' := ((1101, [(5, .int 1), (4, .int 0), (3, .ref 153), (2, .ref 66), (1, .ref 64), (0, .ref 63)], [.int (xs 1), .ref 66], jzv186) : jS)) rfl ?_
  refine jl_c (t := 411) (as := [.ref 66, .int (xs 1)]) (V := jzv186) (r := (.inl (some (.int 0)), jzv187)) (S' := ((1104, [(5, .int 1), (4, .int 0), (3, .ref 153), (2, .ref 66), (1, .ref 64), (0, .ref 63)], [.int 0], jzv187) : jS)) rfl (jzl170 xs hop ) rfl ?_
  refine jl_s (S' := ((1106, [(6, .int 0), (5, .int 1), (4, .int 0), (3, .ref 153), (2, .ref 66), (1, .ref 64), (0, .ref 63)], [], jzv187) : jS)) rfl ?_
  refine jl_s (S' := ((1107, [(6, .int 0), (5, .int 1), (4, .int 0), (3, .ref 153), (2, .ref 66), (1, .ref 64), (0, .ref 63)], [.ref 66], jzv187) : jS)) rfl ?_
  refine jl_c (t := 244) (as := [.ref 66]) (V := jzv187) (r := (.inl (some (.int 1)), jzv187)) (S' := ((1110, [(6, .int 0), (5, .int 1), (4, .int 0), (3, .ref 153), (2, .ref 66), (1, .ref 64), (0, .ref 63)], [.int 1], jzv187) : jS)) rfl (jzl171 xs hop ) rfl ?_
  refine jl_s (S' := ((1112, [(6, .int 0), (5, .int 1), (4, .int 0), (3, .ref 153), (2, .ref 66), (1, .ref 64), (0, .ref 63)], [.int 1, .int 1], jzv187) : jS)) rfl ?_
  refine jl_s (S' := ((1117, [(6, .int 0), (5, .int 1), (4, .int 0), (3, .ref 153), (2, .ref 66), (1, .ref 64), (0, .ref 63)], [], jzv187) : jS)) rfl ?_
  refine jl_s (S' := ((1119, [(6, .int 0), (5, .int 1), (4, .int 0), (3, .ref 153), (2, .ref 66), (1, .ref 64), (0, .ref 63)], [.int 1], jzv187) : jS)) rfl ?_
  refine jl_s (S' := ((1134, [(6, .int 0), (5, .int 1), (4, .int 0), (3, .ref 153), (2, .ref 66), (1, .ref 64), (0, .ref 63)], [], jzv187) : jS)) rfl ?_
  refine jl_s (S' := ((1193, [(6, .int 0), (5, .int 1), (4, .int 0), (3, .ref 153), (2, .ref 66), (1, .ref 64), (0, .ref 63)], [], jzv187) : jS)) rfl ?_
  refine jl_s (S' := ((1196, [(4, .int 4), (6, .int 0), (5, .int 1), (3, .ref 153), (2, .ref 66), (1, .ref 64), (0, .ref 63)], [], jzv187) : jS)) rfl ?_
  refine jl_s (S' := ((23, [(4, .int 4), (6, .int 0), (5, .int 1), (3, .ref 153), (2, .ref 66), (1, .ref 64), (0, .ref 63)], [], jzv187) : jS)) rfl ?_
  refine jl_s (S' := ((25, [(4, .int 4), (6, .int 0), (5, .int 1), (3, .ref 153), (2, .ref 66), (1, .ref 64), (0, .ref 63)], [.int 4], jzv187) : jS)) rfl ?_
  refine jl_s (S' := ((26, [(4, .int 4), (6, .int 0), (5, .int 1), (3, .ref 153), (2, .ref 66), (1, .ref 64), (0, .ref 63)], [.ref 63, .int 4], jzv187) : jS)) rfl ?_
  refine jl_s (S' := ((27, [(4, .int 4), (6, .int 0), (5, .int 1), (3, .ref 153), (2, .ref 66), (1, .ref 64), (0, .ref 63)], [.int 4, .int 4], jzv187) : jS)) rfl ?_
  refine jl_s (S' := ((28, [(4, .int 4), (6, .int 0), (5, .int 1), (3, .ref 153), (2, .ref 66), (1, .ref 64), (0, .ref 63)], [.int 4, .int 4, .int 4], jzv187) : jS)) rfl ?_
  refine jl_s (S' := ((29, [(4, .int 4), (6, .int 0), (5, .int 1), (3, .ref 153), (2, .ref 66), (1, .ref 64), (0, .ref 63)], [.int 0, .int 4], jzv187) : jS)) rfl ?_
  refine jl_s (S' := ((1199, [(4, .int 4), (6, .int 0), (5, .int 1), (3, .ref 153), (2, .ref 66), (1, .ref 64), (0, .ref 63)], [], jzv187) : jS)) rfl ?_
  refine jl_s (S' := ((1200, [(4, .int 4), (6, .int 0), (5, .int 1), (3, .ref 153), (2, .ref 66), (1, .ref 64), (0, .ref 63)], [.int 1], jzv187) : jS)) rfl ?_
  exact jl_r (r := (.inl (some (.int 1)), jzv187)) rfl
-- op 17 : jzl172
set_option maxHeartbeats 4000000 in
set_option maxRecDepth 100000 in
theorem jzl173 (xs : Nat → Int32) (hop : xs 0 &&& 31 = 18)  : jRun ((4, xs) : jX) 2000 37 39 [.ref 64] jzv181 = some (.inr 154, jzv186) := by
  refine jr_run (e := jm39) rfl (Nat.le_of_ble_eq_true rfl) ?_
  refine jl_s (S' := ((1, [(0, .ref 64)], [.ref 64], jzv181) : jS)) rfl ?_
  refine jl_s (S' := ((4, [(0, .ref 64)], [.null], jzv181) : jS)) rfl ?_
  refine jl_s (S' := ((5, [(1, .null), (0, .ref 64)], [], jzv181) : jS)) rfl ?_
  refine jl_s (S' := ((6, [(1, .null), (0, .ref 64)], [.null], jzv181) : jS)) rfl ?_
  refine jl_s (S' := ((9, [(1, .null), (0, .ref 64)], [], jzv181) : jS)) rfl ?_
  exact jl_r (r := (.inr 154, jzv186)) rfl
set_option maxHeartbeats 4000000 in
set_option maxRecDepth 100000 in
theorem jzl174 (xs : Nat → Int32) (hop : xs 0 &&& 31 = 18)  : jRun ((4, xs) : jX) 2000 38 38 [.ref 64, .int (xs 1)] jzv181 = some (.inr 154, jzv186) := by
  refine jr_run (e := jm38) rfl (Nat.le_of_ble_eq_true rfl) ?_
  refine jl_s (S' := ((1, [(0, .ref 64), (1, .int (xs 1))], [.ref 64], jzv181) : jS)) rfl ?_
  exact jl_ct (t := 39) (as := [.ref 64]) (V := jzv181) (r := (.inr 154, jzv186)) (q := (.inr 154, jzv186)) rfl (jzl173 xs hop ) rfl
set_option maxHeartbeats 4000000 in
set_option maxRecDepth 100000 in
theorem jzl175 (xs : Nat → Int32) (hop : xs 0 &&& 31 = 18)  : jRun ((4, xs) : jX) 2000 39 17 [.ref 64, .int (xs 1), .ref 153] jzv181 = some (.inl (some (.int 1)), jzv186) := by
  refine jr_run (e := jm17) rfl (Nat.le_of_ble_eq_true rfl) ?_
  refine jl_s (S' := ((1, [(0, .ref 64), (1, .int (xs 1)), (2, .ref 153)], [.ref 153], jzv181) : jS)) rfl ?_
  refine jl_s (S' := ((2, [(0, .ref 64), (1, .int (xs 1)), (2, .ref 153)], [.int 0, .ref 153], jzv181) : jS)) rfl ?_
  refine jl_s (S' := ((3, [(0, .ref 64), (1, .int (xs 1)), (2, .ref 153)], [.ref 64, .int 0, .ref 153], jzv181) : jS)) rfl ?_
  refine jl_s (S' := ((4, [(0, .ref 64), (1, .int (xs 1)), (2, .ref 153)], [.int (xs 1), .ref 64, .int 0, .ref 153], jzv181) : jS)) rfl ?_
  refine jl_c (t := 38) (as := [.ref 64, .int (xs 1)]) (V := jzv181) (r := (.inr 154, jzv186)) (S' := ((12, [(0, .ref 64), (1, .int (xs 1)), (2, .ref 153)], [.ref 154], jzv186) : jS)) rfl (jzl174 xs hop ) rfl ?_
  refine jl_s (S' := ((13, [(3, .ref 154), (0, .ref 64), (1, .int (xs 1)), (2, .ref 153)], [], jzv186) : jS)) rfl ?_
  refine jl_s (S' := ((14, [(3, .ref 154), (0, .ref 64), (1, .int (xs 1)), (2, .ref 153)], [.int 1], jzv186) : jS)) rfl ?_
  exact jl_r (r := (.inl (some (.int 1)), jzv186)) rfl
set_option maxHeartbeats 4000000 in
set_option maxRecDepth 100000 in
theorem jzl176 (xs : Nat → Int32) (hop : xs 0 &&& 31 = 18)  : jRun ((4, xs) : jX) 2000 38 245 [.ref 66, .int 1, .int 0, .int 0] jzv186 = some (.inl (some (.int 1)), jzv187) := by
  refine jr_run (e := jm245) rfl (Nat.le_of_ble_eq_true rfl) ?_
  refine jl_s (S' := ((1, [(0, .ref 66), (1, .int 1), (2, .int 0), (3, .int 0)], [.ref 66], jzv186) : jS)) rfl ?_
  refine jl_s (S' := ((2, [(0, .ref 66), (1, .int 1), (2, .int 0), (3, .int 0)], [.int 1, .ref 66], jzv186) : jS)) rfl ?_
  refine jl_s (S' := ((5, [(0, .ref 66), (1, .int 1), (2, .int 0), (3, .int 0)], [.ref 66], jzv186) : jS)) rfl ?_
  refine jl_s (S' := ((6, [(0, .ref 66), (1, .int 1), (2, .int 0), (3, .int 0)], [.int 1, .ref 66], jzv186) : jS)) rfl ?_
  refine jl_s (S' := ((26, [(0, .ref 66), (1, .int 1), (2, .int 0), (3, .int 0)], [.int 1, .ref 66], jzv186) : jS)) rfl ?_
  refine jl_s (S' := ((29, [(0, .ref 66), (1, .int 1), (2, .int 0), (3, .int 0)], [], jzv187) : jS)) rfl ?_
  refine jl_s (S' := ((30, [(0, .ref 66), (1, .int 1), (2, .int 0), (3, .int 0)], [.ref 66], jzv187) : jS)) rfl ?_
  refine jl_s (S' := ((33, [(0, .ref 66), (1, .int 1), (2, .int 0), (3, .int 0)], [.int 1], jzv187) : jS)) rfl ?_
  refine jl_s (S' := ((36, [(0, .ref 66), (1, .int 1), (2, .int 0), (3, .int 0)], [], jzv187) : jS)) rfl ?_
  refine jl_s (S' := ((37, [(0, .ref 66), (1, .int 1), (2, .int 0), (3, .int 0)], [.int 1], jzv187) : jS)) rfl ?_
  refine jl_s (S' := ((41, [(0, .ref 66), (1, .int 1), (2, .int 0), (3, .int 0)], [.int 1], jzv187) : jS)) rfl ?_
  exact jl_r (r := (.inl (some (.int 1)), jzv187)) rfl
set_option maxHeartbeats 4000000 in
set_option maxRecDepth 100000 in
theorem jzl177 (xs : Nat → Int32) (hop : xs 0 &&& 31 = 18)  : jRun ((4, xs) : jX) 2000 39 412 [.ref 66, .int (xs 1)] jzv186 = some (.inl (some (.int 0)), jzv187) := by
  refine jr_run (e := jm412) rfl (Nat.le_of_ble_eq_true rfl) ?_
  refine jl_s (S' := ((1, [(0, .ref 66), (1, .int (xs 1))], [.ref 66], jzv186) : jS)) rfl ?_
  refine jl_s (S' := ((2, [(0, .ref 66), (1, .int (xs 1))], [.ref 66, .ref 66], jzv186) : jS)) rfl ?_
  refine jl_s (S' := ((5, [(0, .ref 66), (1, .int (xs 1))], [.int 0, .ref 66], jzv186) : jS)) rfl ?_
  refine jl_s (S' := ((8, [(0, .ref 66), (1, .int (xs 1))], [.ref 66], jzv186) : jS)) rfl ?_
  refine jl_s (S' := ((9, [(0, .ref 66), (1, .int (xs 1))], [.int 1, .ref 66], jzv186) : jS)) rfl ?_
  refine jl_s (S' := ((13, [(0, .ref 66), (1, .int (xs 1))], [.int 1, .ref 66], jzv186) : jS)) rfl ?_
  refine jl_s (S' := ((14, [(0, .ref 66), (1, .int (xs 1))], [.ref 66, .int 1, .ref 66], jzv186) : jS)) rfl ?_
  refine jl_s (S' := ((17, [(0, .ref 66), (1, .int (xs 1))], [.int 0, .int 1, .ref 66], jzv186) : jS)) rfl ?_
  refine jl_s (S' := ((34, [(0, .ref 66), (1, .int (xs 1))], [.int 1, .ref 66], jzv186) : jS)) rfl ?_
  refine jl_s (S' := ((35, [(0, .ref 66), (1, .int (xs 1))], [.int 0, .int 1, .ref 66], jzv186) : jS)) rfl ?_
  refine jl_s (S' := ((36, [(0, .ref 66), (1, .int (xs 1))], [.int 0, .int 0, .int 1, .ref 66], jzv186) : jS)) rfl ?_
  refine jl_c (t := 245) (as := [.ref 66, .int 1, .int 0, .int 0]) (V := jzv186) (r := (.inl (some (.int 1)), jzv187)) (S' := ((39, [(0, .ref 66), (1, .int (xs 1))], [.int 1], jzv187) : jS)) rfl (jzl176 xs hop ) rfl ?_
  refine jl_s (S' := ((42, [(0, .ref 66), (1, .int (xs 1))], [], jzv187) : jS)) rfl ?_
  refine jl_s (S' := ((43, [(0, .ref 66), (1, .int (xs 1))], [.int 0], jzv187) : jS)) rfl ?_
  exact jl_r (r := (.inl (some (.int 0)), jzv187)) rfl
set_option maxHeartbeats 4000000 in
set_option maxRecDepth 100000 in
theorem jzl178 (xs : Nat → Int32) (hop : xs 0 &&& 31 = 18)  : jRun ((4, xs) : jX) 2000 39 244 [.ref 66] jzv187 = some (.inl (some (.int 1)), jzv187) := by
  refine jr_run (e := jm244) rfl (Nat.le_of_ble_eq_true rfl) ?_
  refine jl_s (S' := ((1, [(0, .ref 66)], [.ref 66], jzv187) : jS)) rfl ?_
  refine jl_s (S' := ((4, [(0, .ref 66)], [.int 1], jzv187) : jS)) rfl ?_
  exact jl_r (r := (.inl (some (.int 1)), jzv187)) rfl
set_option maxHeartbeats 4000000 in
set_option maxRecDepth 100000 in
theorem jzl179 (xs : Nat → Int32) (hop : xs 0 &&& 31 = 18)  : jLoop (jRun ((4, xs) : jX) 2000 39) ((4, xs) : jX) jm18 1000 ((23, [(4, .int 0), (3, .ref 153), (2, .ref 66), (1, .ref 64), (0, .ref 63)], [], jzv181) : jS) = some (.inl (some (.int 1)), jzv187) := by
  refine jl_s (S' := ((25, [(4, .int 0), (3, .ref 153), (2, .ref 66), (1, .ref 64), (0, .ref 63)], [.int 0], jzv181) : jS)) rfl ?_
  refine jl_s (S' := ((26, [(4, .int 0), (3, .ref 153), (2, .ref 66), (1, .ref 64), (0, .ref 63)], [.ref 63, .int 0], jzv181) : jS)) rfl ?_
  refine jl_s (S' := ((27, [(4, .int 0), (3, .ref 153), (2, .ref 66), (1, .ref 64), (0, .ref 63)], [.int 4, .int 0], jzv181) : jS)) rfl ?_
  refine jl_s (S' := ((28, [(4, .int 0), (3, .ref 153), (2, .ref 66), (1, .ref 64), (0, .ref 63)], [.int 4, .int 4, .int 0], jzv181) : jS)) rfl ?_
  refine jl_s (S' := ((29, [(4, .int 0), (3, .ref 153), (2, .ref 66), (1, .ref 64), (0, .ref 63)], [.int 0, .int 0], jzv181) : jS)) rfl ?_
  refine jl_s (S' := ((32, [(4, .int 0), (3, .ref 153), (2, .ref 66), (1, .ref 64), (0, .ref 63)], [], jzv181) : jS)) rfl ?_
  refine jl_s (S' := ((33, [(4, .int 0), (3, .ref 153), (2, .ref 66), (1, .ref 64), (0, .ref 63)], [.ref 63], jzv181) : jS)) rfl ?_
  refine jl_s (S' := ((35, [(4, .int 0), (3, .ref 153), (2, .ref 66), (1, .ref 64), (0, .ref 63)], [.int 0, .ref 63], jzv181) : jS)) rfl ?_
  refine jl_s (S' := ((36, [(4, .int 0), (3, .ref 153), (2, .ref 66), (1, .ref 64), (0, .ref 63)], [.int (xs 0)], jzv181) : jS)) rfl ?_
  refine jl_s (S' := ((38, [(4, .int 0), (3, .ref 153), (2, .ref 66), (1, .ref 64), (0, .ref 63)], [.int 31, .int (xs 0)], jzv181) : jS)) rfl ?_
  refine jl_s (S' := ((39, [(4, .int 0), (3, .ref 153), (2, .ref 66), (1, .ref 64), (0, .ref 63)], [.int ((xs 0) &&& 31)], jzv181) : jS)) rfl ?_
  rw [hop]
  refine jl_s (S' := ((1137, [(4, .int 0), (3, .ref 153), (2, .ref 66), (1, .ref 64), (0, .ref 63)], [], jzv181) : jS)) rfl ?_
  refine jl_s (S' := ((1138, [(4, .int 0), (3, .ref 153), (2, .ref 66), (1, .ref 64), (0, .ref 63)], [.ref 64], jzv181) : jS)) rfl ?_
  refine jl_s (S' := ((1139, [(4, .int 0), (3, .ref 153), (2, .ref 66), (1, .ref 64), (0, .ref 63)], [.ref 63, .ref 64], jzv181) : jS)) rfl ?_
  refine jl_s (S' := ((1141, [(4, .int 0), (3, .ref 153), (2, .ref 66), (1, .ref 64), (0, .ref 63)], [.int 0, .ref 63, .ref 64], jzv181) : jS)) rfl ?_
  refine jl_s (S' := ((1142, [(4, .int 0), (3, .ref 153), (2, .ref 66), (1, .ref 64), (0, .ref 63)], [.int 1, .int 0, .ref 63, .ref 64], jzv181) : jS)) rfl ?_
  refine jl_s (S' := ((1143, [(4, .int 0), (3, .ref 153), (2, .ref 66), (1, .ref 64), (0, .ref 63)], [.int 1, .ref 63, .ref 64], jzv181) : jS)) rfl ?_
  refine jl_s (S' := ((1144, [(4, .int 0), (3, .ref 153), (2, .ref 66), (1, .ref 64), (0, .ref 63)], [.int (xs 1), .ref 64], jzv181) : jS)) rfl ?_
  refine jl_s (S' := ((1145, [(4, .int 0), (3, .ref 153), (2, .ref 66), (1, .ref 64), (0, .ref 63)], [.ref 153, .int (xs 1), .ref 64], jzv181) : jS)) rfl ?_
  refine jl_c (t := 17) (as := [.ref 64, .int (xs 1), .ref 153]) (V := jzv181) (r := (.inl (some (.int 1)), jzv186)) (S' := ((1148, [(4, .int 0), (3, .ref 153), (2, .ref 66), (1, .ref 64), (0, .ref 63)], [.int 1], jzv186) : jS)) rfl (jzl175 xs hop ) rfl ?_
  refine jl_s (S' := ((1150, [(5, .int 1), (4, .int 0), (3, .ref 153), (2, .ref 66), (1, .ref 64), (0, .ref 63)], [], jzv186) : jS)) rfl ?_
  refine jl_s (S' := ((1151, [(5, .int 1), (4, .int 0), (3, .ref 153), (2, .ref 66), (1, .ref 64), (0, .ref 63)], [.ref 66], jzv186) : jS)) rfl ?_
  refine jl_s (S' := ((1152, [(5, .int 1), (4, .int 0), (3, .ref 153), (2, .ref 66), (1, .ref 64), (0, .ref 63)], [.ref 63, .ref 66], jzv186) : jS)) rfl ?_
  refine jl_s (S' := ((1154, [(5, .int 1), (4, .int 0), (3, .ref 153), (2, .ref 66), (1, .ref 64), (0, .ref 63)], [.int 0, .ref 63, .ref 66], jzv186) : jS)) rfl ?_
  refine jl_s (S' := ((1155, [(5, .int 1), (4, .int 0), (3, .ref 153), (2, .ref 66), (1, .ref 64), (0, .ref 63)], [.int 1, .int 0, .ref 63, .ref 66], jzv186) : jS)) rfl ?_
  refine jl_s (S' := ((1156, [(5, .int 1), (4, .int 0), (3, .ref 153), (2, .ref 66), (1, .ref 64), (0, .ref 63)], [.int 1, .ref 63, .ref 66], jzv186) : jS)) rfl ?_
  refine jl_s (S' := ((1157, [(5, .int 1), (4, .int 0), (3, .ref 153), (2, .ref 66), (1, .ref 64), (0, .ref 63)], [.int (xs 1), .ref 66], jzv186) : jS)) rfl ?_
  refine jl_c (t := 412) (as := [.ref 66, .int (xs 1)]) (V := jzv186) (r := (.inl (some (.int 0)), jzv187)) (S' := ((1160, [(5, .int 1), (4, .int 0), (3, .ref 153), (2, .ref 66), (1, .ref 64), (0, .ref 63)], [.int 0], jzv187) : jS)) rfl (jzl177 xs hop ) rfl ?_
  refine jl_s (S' := ((1162, [(6, .int 0), (5, .int 1), (4, .int 0), (3, .ref 153), (2, .ref 66), (1, .ref 64), (0, .ref 63)], [], jzv187) : jS)) rfl ?_
  refine jl_s (S' := ((1163, [(6, .int 0), (5, .int 1), (4, .int 0), (3, .ref 153), (2, .ref 66), (1, .ref 64), (0, .ref 63)], [.ref 66], jzv187) : jS)) rfl ?_
  refine jl_c (t := 244) (as := [.ref 66]) (V := jzv187) (r := (.inl (some (.int 1)), jzv187)) (S' := ((1166, [(6, .int 0), (5, .int 1), (4, .int 0), (3, .ref 153), (2, .ref 66), (1, .ref 64), (0, .ref 63)], [.int 1], jzv187) : jS)) rfl (jzl178 xs hop ) rfl ?_
  refine jl_s (S' := ((1168, [(6, .int 0), (5, .int 1), (4, .int 0), (3, .ref 153), (2, .ref 66), (1, .ref 64), (0, .ref 63)], [.int 1, .int 1], jzv187) : jS)) rfl ?_
  refine jl_s (S' := ((1173, [(6, .int 0), (5, .int 1), (4, .int 0), (3, .ref 153), (2, .ref 66), (1, .ref 64), (0, .ref 63)], [], jzv187) : jS)) rfl ?_
  refine jl_s (S' := ((1175, [(6, .int 0), (5, .int 1), (4, .int 0), (3, .ref 153), (2, .ref 66), (1, .ref 64), (0, .ref 63)], [.int 1], jzv187) : jS)) rfl ?_
  refine jl_s (S' := ((1190, [(6, .int 0), (5, .int 1), (4, .int 0), (3, .ref 153), (2, .ref 66), (1, .ref 64), (0, .ref 63)], [], jzv187) : jS)) rfl ?_
  refine jl_s (S' := ((1193, [(6, .int 0), (5, .int 1), (4, .int 0), (3, .ref 153), (2, .ref 66), (1, .ref 64), (0, .ref 63)], [], jzv187) : jS)) rfl ?_
  refine jl_s (S' := ((1196, [(4, .int 4), (6, .int 0), (5, .int 1), (3, .ref 153), (2, .ref 66), (1, .ref 64), (0, .ref 63)], [], jzv187) : jS)) rfl ?_
  refine jl_s (S' := ((23, [(4, .int 4), (6, .int 0), (5, .int 1), (3, .ref 153), (2, .ref 66), (1, .ref 64), (0, .ref 63)], [], jzv187) : jS)) rfl ?_
  refine jl_s (S' := ((25, [(4, .int 4), (6, .int 0), (5, .int 1), (3, .ref 153), (2, .ref 66), (1, .ref 64), (0, .ref 63)], [.int 4], jzv187) : jS)) rfl ?_
  refine jl_s (S' := ((26, [(4, .int 4), (6, .int 0), (5, .int 1), (3, .ref 153), (2, .ref 66), (1, .ref 64), (0, .ref 63)], [.ref 63, .int 4], jzv187) : jS)) rfl ?_
  refine jl_s (S' := ((27, [(4, .int 4), (6, .int 0), (5, .int 1), (3, .ref 153), (2, .ref 66), (1, .ref 64), (0, .ref 63)], [.int 4, .int 4], jzv187) : jS)) rfl ?_
  refine jl_s (S' := ((28, [(4, .int 4), (6, .int 0), (5, .int 1), (3, .ref 153), (2, .ref 66), (1, .ref 64), (0, .ref 63)], [.int 4, .int 4, .int 4], jzv187) : jS)) rfl ?_
  refine jl_s (S' := ((29, [(4, .int 4), (6, .int 0), (5, .int 1), (3, .ref 153), (2, .ref 66), (1, .ref 64), (0, .ref 63)], [.int 0, .int 4], jzv187) : jS)) rfl ?_
  refine jl_s (S' := ((1199, [(4, .int 4), (6, .int 0), (5, .int 1), (3, .ref 153), (2, .ref 66), (1, .ref 64), (0, .ref 63)], [], jzv187) : jS)) rfl ?_
  refine jl_s (S' := ((1200, [(4, .int 4), (6, .int 0), (5, .int 1), (3, .ref 153), (2, .ref 66), (1, .ref 64), (0, .ref 63)], [.int 1], jzv187) : jS)) rfl ?_
  exact jl_r (r := (.inl (some (.int 1)), jzv187)) rfl
-- op 18 : jzl179
set_option maxHeartbeats 4000000 in
set_option maxRecDepth 100000 in
theorem jzl180 (xs : Nat → Int32) (hop : xs 0 &&& 31 = 19)  : jLoop (jRun ((4, xs) : jX) 2000 39) ((4, xs) : jX) jm18 1000 ((23, [(4, .int 0), (3, .ref 153), (2, .ref 66), (1, .ref 64), (0, .ref 63)], [], jzv181) : jS) = some (.inl (some (.int 1)), jzv181) := by
  refine jl_s (S' := ((25, [(4, .int 0), (3, .ref 153), (2, .ref 66), (1, .ref 64), (0, .ref 63)], [.int 0], jzv181) : jS)) rfl ?_
  refine jl_s (S' := ((26, [(4, .int 0), (3, .ref 153), (2, .ref 66), (1, .ref 64), (0, .ref 63)], [.ref 63, .int 0], jzv181) : jS)) rfl ?_
  refine jl_s (S' := ((27, [(4, .int 0), (3, .ref 153), (2, .ref 66), (1, .ref 64), (0, .ref 63)], [.int 4, .int 0], jzv181) : jS)) rfl ?_
  refine jl_s (S' := ((28, [(4, .int 0), (3, .ref 153), (2, .ref 66), (1, .ref 64), (0, .ref 63)], [.int 4, .int 4, .int 0], jzv181) : jS)) rfl ?_
  refine jl_s (S' := ((29, [(4, .int 0), (3, .ref 153), (2, .ref 66), (1, .ref 64), (0, .ref 63)], [.int 0, .int 0], jzv181) : jS)) rfl ?_
  refine jl_s (S' := ((32, [(4, .int 0), (3, .ref 153), (2, .ref 66), (1, .ref 64), (0, .ref 63)], [], jzv181) : jS)) rfl ?_
  refine jl_s (S' := ((33, [(4, .int 0), (3, .ref 153), (2, .ref 66), (1, .ref 64), (0, .ref 63)], [.ref 63], jzv181) : jS)) rfl ?_
  refine jl_s (S' := ((35, [(4, .int 0), (3, .ref 153), (2, .ref 66), (1, .ref 64), (0, .ref 63)], [.int 0, .ref 63], jzv181) : jS)) rfl ?_
  refine jl_s (S' := ((36, [(4, .int 0), (3, .ref 153), (2, .ref 66), (1, .ref 64), (0, .ref 63)], [.int (xs 0)], jzv181) : jS)) rfl ?_
  refine jl_s (S' := ((38, [(4, .int 0), (3, .ref 153), (2, .ref 66), (1, .ref 64), (0, .ref 63)], [.int 31, .int (xs 0)], jzv181) : jS)) rfl ?_
  refine jl_s (S' := ((39, [(4, .int 0), (3, .ref 153), (2, .ref 66), (1, .ref 64), (0, .ref 63)], [.int ((xs 0) &&& 31)], jzv181) : jS)) rfl ?_
  rw [hop]
  refine jl_s (S' := ((1193, [(4, .int 0), (3, .ref 153), (2, .ref 66), (1, .ref 64), (0, .ref 63)], [], jzv181) : jS)) rfl ?_
  refine jl_s (S' := ((1196, [(4, .int 4), (3, .ref 153), (2, .ref 66), (1, .ref 64), (0, .ref 63)], [], jzv181) : jS)) rfl ?_
  refine jl_s (S' := ((23, [(4, .int 4), (3, .ref 153), (2, .ref 66), (1, .ref 64), (0, .ref 63)], [], jzv181) : jS)) rfl ?_
  refine jl_s (S' := ((25, [(4, .int 4), (3, .ref 153), (2, .ref 66), (1, .ref 64), (0, .ref 63)], [.int 4], jzv181) : jS)) rfl ?_
  refine jl_s (S' := ((26, [(4, .int 4), (3, .ref 153), (2, .ref 66), (1, .ref 64), (0, .ref 63)], [.ref 63, .int 4], jzv181) : jS)) rfl ?_
  refine jl_s (S' := ((27, [(4, .int 4), (3, .ref 153), (2, .ref 66), (1, .ref 64), (0, .ref 63)], [.int 4, .int 4], jzv181) : jS)) rfl ?_
  refine jl_s (S' := ((28, [(4, .int 4), (3, .ref 153), (2, .ref 66), (1, .ref 64), (0, .ref 63)], [.int 4, .int 4, .int 4], jzv181) : jS)) rfl ?_
  refine jl_s (S' := ((29, [(4, .int 4), (3, .ref 153), (2, .ref 66), (1, .ref 64), (0, .ref 63)], [.int 0, .int 4], jzv181) : jS)) rfl ?_
  refine jl_s (S' := ((1199, [(4, .int 4), (3, .ref 153), (2, .ref 66), (1, .ref 64), (0, .ref 63)], [], jzv181) : jS)) rfl ?_
  refine jl_s (S' := ((1200, [(4, .int 4), (3, .ref 153), (2, .ref 66), (1, .ref 64), (0, .ref 63)], [.int 1], jzv181) : jS)) rfl ?_
  exact jl_r (r := (.inl (some (.int 1)), jzv181)) rfl
-- op 19 : jzl180
set_option maxHeartbeats 4000000 in
set_option maxRecDepth 100000 in
theorem jzl181 (xs : Nat → Int32) (hop : xs 0 &&& 31 = 20)  : jLoop (jRun ((4, xs) : jX) 2000 39) ((4, xs) : jX) jm18 1000 ((23, [(4, .int 0), (3, .ref 153), (2, .ref 66), (1, .ref 64), (0, .ref 63)], [], jzv181) : jS) = some (.inl (some (.int 1)), jzv181) := by
  refine jl_s (S' := ((25, [(4, .int 0), (3, .ref 153), (2, .ref 66), (1, .ref 64), (0, .ref 63)], [.int 0], jzv181) : jS)) rfl ?_
  refine jl_s (S' := ((26, [(4, .int 0), (3, .ref 153), (2, .ref 66), (1, .ref 64), (0, .ref 63)], [.ref 63, .int 0], jzv181) : jS)) rfl ?_
  refine jl_s (S' := ((27, [(4, .int 0), (3, .ref 153), (2, .ref 66), (1, .ref 64), (0, .ref 63)], [.int 4, .int 0], jzv181) : jS)) rfl ?_
  refine jl_s (S' := ((28, [(4, .int 0), (3, .ref 153), (2, .ref 66), (1, .ref 64), (0, .ref 63)], [.int 4, .int 4, .int 0], jzv181) : jS)) rfl ?_
  refine jl_s (S' := ((29, [(4, .int 0), (3, .ref 153), (2, .ref 66), (1, .ref 64), (0, .ref 63)], [.int 0, .int 0], jzv181) : jS)) rfl ?_
  refine jl_s (S' := ((32, [(4, .int 0), (3, .ref 153), (2, .ref 66), (1, .ref 64), (0, .ref 63)], [], jzv181) : jS)) rfl ?_
  refine jl_s (S' := ((33, [(4, .int 0), (3, .ref 153), (2, .ref 66), (1, .ref 64), (0, .ref 63)], [.ref 63], jzv181) : jS)) rfl ?_
  refine jl_s (S' := ((35, [(4, .int 0), (3, .ref 153), (2, .ref 66), (1, .ref 64), (0, .ref 63)], [.int 0, .ref 63], jzv181) : jS)) rfl ?_
  refine jl_s (S' := ((36, [(4, .int 0), (3, .ref 153), (2, .ref 66), (1, .ref 64), (0, .ref 63)], [.int (xs 0)], jzv181) : jS)) rfl ?_
  refine jl_s (S' := ((38, [(4, .int 0), (3, .ref 153), (2, .ref 66), (1, .ref 64), (0, .ref 63)], [.int 31, .int (xs 0)], jzv181) : jS)) rfl ?_
  refine jl_s (S' := ((39, [(4, .int 0), (3, .ref 153), (2, .ref 66), (1, .ref 64), (0, .ref 63)], [.int ((xs 0) &&& 31)], jzv181) : jS)) rfl ?_
  rw [hop]
  refine jl_s (S' := ((1193, [(4, .int 0), (3, .ref 153), (2, .ref 66), (1, .ref 64), (0, .ref 63)], [], jzv181) : jS)) rfl ?_
  refine jl_s (S' := ((1196, [(4, .int 4), (3, .ref 153), (2, .ref 66), (1, .ref 64), (0, .ref 63)], [], jzv181) : jS)) rfl ?_
  refine jl_s (S' := ((23, [(4, .int 4), (3, .ref 153), (2, .ref 66), (1, .ref 64), (0, .ref 63)], [], jzv181) : jS)) rfl ?_
  refine jl_s (S' := ((25, [(4, .int 4), (3, .ref 153), (2, .ref 66), (1, .ref 64), (0, .ref 63)], [.int 4], jzv181) : jS)) rfl ?_
  refine jl_s (S' := ((26, [(4, .int 4), (3, .ref 153), (2, .ref 66), (1, .ref 64), (0, .ref 63)], [.ref 63, .int 4], jzv181) : jS)) rfl ?_
  refine jl_s (S' := ((27, [(4, .int 4), (3, .ref 153), (2, .ref 66), (1, .ref 64), (0, .ref 63)], [.int 4, .int 4], jzv181) : jS)) rfl ?_
  refine jl_s (S' := ((28, [(4, .int 4), (3, .ref 153), (2, .ref 66), (1, .ref 64), (0, .ref 63)], [.int 4, .int 4, .int 4], jzv181) : jS)) rfl ?_
  refine jl_s (S' := ((29, [(4, .int 4), (3, .ref 153), (2, .ref 66), (1, .ref 64), (0, .ref 63)], [.int 0, .int 4], jzv181) : jS)) rfl ?_
  refine jl_s (S' := ((1199, [(4, .int 4), (3, .ref 153), (2, .ref 66), (1, .ref 64), (0, .ref 63)], [], jzv181) : jS)) rfl ?_
  refine jl_s (S' := ((1200, [(4, .int 4), (3, .ref 153), (2, .ref 66), (1, .ref 64), (0, .ref 63)], [.int 1], jzv181) : jS)) rfl ?_
  exact jl_r (r := (.inl (some (.int 1)), jzv181)) rfl
-- op 20 : jzl181
set_option maxHeartbeats 4000000 in
set_option maxRecDepth 100000 in
theorem jzl182 (xs : Nat → Int32) (hop : xs 0 &&& 31 = 21)  : jLoop (jRun ((4, xs) : jX) 2000 39) ((4, xs) : jX) jm18 1000 ((23, [(4, .int 0), (3, .ref 153), (2, .ref 66), (1, .ref 64), (0, .ref 63)], [], jzv181) : jS) = some (.inl (some (.int 1)), jzv181) := by
  refine jl_s (S' := ((25, [(4, .int 0), (3, .ref 153), (2, .ref 66), (1, .ref 64), (0, .ref 63)], [.int 0], jzv181) : jS)) rfl ?_
  refine jl_s (S' := ((26, [(4, .int 0), (3, .ref 153), (2, .ref 66), (1, .ref 64), (0, .ref 63)], [.ref 63, .int 0], jzv181) : jS)) rfl ?_
  refine jl_s (S' := ((27, [(4, .int 0), (3, .ref 153), (2, .ref 66), (1, .ref 64), (0, .ref 63)], [.int 4, .int 0], jzv181) : jS)) rfl ?_
  refine jl_s (S' := ((28, [(4, .int 0), (3, .ref 153), (2, .ref 66), (1, .ref 64), (0, .ref 63)], [.int 4, .int 4, .int 0], jzv181) : jS)) rfl ?_
  refine jl_s (S' := ((29, [(4, .int 0), (3, .ref 153), (2, .ref 66), (1, .ref 64), (0, .ref 63)], [.int 0, .int 0], jzv181) : jS)) rfl ?_
  refine jl_s (S' := ((32, [(4, .int 0), (3, .ref 153), (2, .ref 66), (1, .ref 64), (0, .ref 63)], [], jzv181) : jS)) rfl ?_
  refine jl_s (S' := ((33, [(4, .int 0), (3, .ref 153), (2, .ref 66), (1, .ref 64), (0, .ref 63)], [.ref 63], jzv181) : jS)) rfl ?_
  refine jl_s (S' := ((35, [(4, .int 0), (3, .ref 153), (2, .ref 66), (1, .ref 64), (0, .ref 63)], [.int 0, .ref 63], jzv181) : jS)) rfl ?_
  refine jl_s (S' := ((36, [(4, .int 0), (3, .ref 153), (2, .ref 66), (1, .ref 64), (0, .ref 63)], [.int (xs 0)], jzv181) : jS)) rfl ?_
  refine jl_s (S' := ((38, [(4, .int 0), (3, .ref 153), (2, .ref 66), (1, .ref 64), (0, .ref 63)], [.int 31, .int (xs 0)], jzv181) : jS)) rfl ?_
  refine jl_s (S' := ((39, [(4, .int 0), (3, .ref 153), (2, .ref 66), (1, .ref 64), (0, .ref 63)], [.int ((xs 0) &&& 31)], jzv181) : jS)) rfl ?_
  rw [hop]
  refine jl_s (S' := ((1193, [(4, .int 0), (3, .ref 153), (2, .ref 66), (1, .ref 64), (0, .ref 63)], [], jzv181) : jS)) rfl ?_
  refine jl_s (S' := ((1196, [(4, .int 4), (3, .ref 153), (2, .ref 66), (1, .ref 64), (0, .ref 63)], [], jzv181) : jS)) rfl ?_
  refine jl_s (S' := ((23, [(4, .int 4), (3, .ref 153), (2, .ref 66), (1, .ref 64), (0, .ref 63)], [], jzv181) : jS)) rfl ?_
  refine jl_s (S' := ((25, [(4, .int 4), (3, .ref 153), (2, .ref 66), (1, .ref 64), (0, .ref 63)], [.int 4], jzv181) : jS)) rfl ?_
  refine jl_s (S' := ((26, [(4, .int 4), (3, .ref 153), (2, .ref 66), (1, .ref 64), (0, .ref 63)], [.ref 63, .int 4], jzv181) : jS)) rfl ?_
  refine jl_s (S' := ((27, [(4, .int 4), (3, .ref 153), (2, .ref 66), (1, .ref 64), (0, .ref 63)], [.int 4, .int 4], jzv181) : jS)) rfl ?_
  refine jl_s (S' := ((28, [(4, .int 4), (3, .ref 153), (2, .ref 66), (1, .ref 64), (0, .ref 63)], [.int 4, .int 4, .int 4], jzv181) : jS)) rfl ?_
  refine jl_s (S' := ((29, [(4, .int 4), (3, .ref 153), (2, .ref 66), (1, .ref 64), (0, .ref 63)], [.int 0, .int 4], jzv181) : jS)) rfl ?_
  refine jl_s (S' := ((1199, [(4, .int 4), (3, .ref 153), (2, .ref 66), (1, .ref 64), (0, .ref 63)], [], jzv181) : jS)) rfl ?_
  refine jl_s (S' := ((1200, [(4, .int 4), (3, .ref 153), (2, .ref 66), (1, .ref 64), (0, .ref 63)], [.int 1], jzv181) : jS)) rfl ?_
  exact jl_r (r := (.inl (some (.int 1)), jzv181)) rfl
-- op 21 : jzl182
set_option maxHeartbeats 4000000 in
set_option maxRecDepth 100000 in
theorem jzl183 (xs : Nat → Int32) (hop : xs 0 &&& 31 = 22)  : jLoop (jRun ((4, xs) : jX) 2000 39) ((4, xs) : jX) jm18 1000 ((23, [(4, .int 0), (3, .ref 153), (2, .ref 66), (1, .ref 64), (0, .ref 63)], [], jzv181) : jS) = some (.inl (some (.int 1)), jzv181) := by
  refine jl_s (S' := ((25, [(4, .int 0), (3, .ref 153), (2, .ref 66), (1, .ref 64), (0, .ref 63)], [.int 0], jzv181) : jS)) rfl ?_
  refine jl_s (S' := ((26, [(4, .int 0), (3, .ref 153), (2, .ref 66), (1, .ref 64), (0, .ref 63)], [.ref 63, .int 0], jzv181) : jS)) rfl ?_
  refine jl_s (S' := ((27, [(4, .int 0), (3, .ref 153), (2, .ref 66), (1, .ref 64), (0, .ref 63)], [.int 4, .int 0], jzv181) : jS)) rfl ?_
  refine jl_s (S' := ((28, [(4, .int 0), (3, .ref 153), (2, .ref 66), (1, .ref 64), (0, .ref 63)], [.int 4, .int 4, .int 0], jzv181) : jS)) rfl ?_
  refine jl_s (S' := ((29, [(4, .int 0), (3, .ref 153), (2, .ref 66), (1, .ref 64), (0, .ref 63)], [.int 0, .int 0], jzv181) : jS)) rfl ?_
  refine jl_s (S' := ((32, [(4, .int 0), (3, .ref 153), (2, .ref 66), (1, .ref 64), (0, .ref 63)], [], jzv181) : jS)) rfl ?_
  refine jl_s (S' := ((33, [(4, .int 0), (3, .ref 153), (2, .ref 66), (1, .ref 64), (0, .ref 63)], [.ref 63], jzv181) : jS)) rfl ?_
  refine jl_s (S' := ((35, [(4, .int 0), (3, .ref 153), (2, .ref 66), (1, .ref 64), (0, .ref 63)], [.int 0, .ref 63], jzv181) : jS)) rfl ?_
  refine jl_s (S' := ((36, [(4, .int 0), (3, .ref 153), (2, .ref 66), (1, .ref 64), (0, .ref 63)], [.int (xs 0)], jzv181) : jS)) rfl ?_
  refine jl_s (S' := ((38, [(4, .int 0), (3, .ref 153), (2, .ref 66), (1, .ref 64), (0, .ref 63)], [.int 31, .int (xs 0)], jzv181) : jS)) rfl ?_
  refine jl_s (S' := ((39, [(4, .int 0), (3, .ref 153), (2, .ref 66), (1, .ref 64), (0, .ref 63)], [.int ((xs 0) &&& 31)], jzv181) : jS)) rfl ?_
  rw [hop]
  refine jl_s (S' := ((1193, [(4, .int 0), (3, .ref 153), (2, .ref 66), (1, .ref 64), (0, .ref 63)], [], jzv181) : jS)) rfl ?_
  refine jl_s (S' := ((1196, [(4, .int 4), (3, .ref 153), (2, .ref 66), (1, .ref 64), (0, .ref 63)], [], jzv181) : jS)) rfl ?_
  refine jl_s (S' := ((23, [(4, .int 4), (3, .ref 153), (2, .ref 66), (1, .ref 64), (0, .ref 63)], [], jzv181) : jS)) rfl ?_
  refine jl_s (S' := ((25, [(4, .int 4), (3, .ref 153), (2, .ref 66), (1, .ref 64), (0, .ref 63)], [.int 4], jzv181) : jS)) rfl ?_
  refine jl_s (S' := ((26, [(4, .int 4), (3, .ref 153), (2, .ref 66), (1, .ref 64), (0, .ref 63)], [.ref 63, .int 4], jzv181) : jS)) rfl ?_
  refine jl_s (S' := ((27, [(4, .int 4), (3, .ref 153), (2, .ref 66), (1, .ref 64), (0, .ref 63)], [.int 4, .int 4], jzv181) : jS)) rfl ?_
  refine jl_s (S' := ((28, [(4, .int 4), (3, .ref 153), (2, .ref 66), (1, .ref 64), (0, .ref 63)], [.int 4, .int 4, .int 4], jzv181) : jS)) rfl ?_
  refine jl_s (S' := ((29, [(4, .int 4), (3, .ref 153), (2, .ref 66), (1, .ref 64), (0, .ref 63)], [.int 0, .int 4], jzv181) : jS)) rfl ?_
  refine jl_s (S' := ((1199, [(4, .int 4), (3, .ref 153), (2, .ref 66), (1, .ref 64), (0, .ref 63)], [], jzv181) : jS)) rfl ?_
  refine jl_s (S' := ((1200, [(4, .int 4), (3, .ref 153), (2, .ref 66), (1, .ref 64), (0, .ref 63)], [.int 1], jzv181) : jS)) rfl ?_
  exact jl_r (r := (.inl (some (.int 1)), jzv181)) rfl
-- op 22 : jzl183
set_option maxHeartbeats 4000000 in
set_option maxRecDepth 100000 in
theorem jzl184 (xs : Nat → Int32) (hop : xs 0 &&& 31 = 23)  : jLoop (jRun ((4, xs) : jX) 2000 39) ((4, xs) : jX) jm18 1000 ((23, [(4, .int 0), (3, .ref 153), (2, .ref 66), (1, .ref 64), (0, .ref 63)], [], jzv181) : jS) = some (.inl (some (.int 1)), jzv181) := by
  refine jl_s (S' := ((25, [(4, .int 0), (3, .ref 153), (2, .ref 66), (1, .ref 64), (0, .ref 63)], [.int 0], jzv181) : jS)) rfl ?_
  refine jl_s (S' := ((26, [(4, .int 0), (3, .ref 153), (2, .ref 66), (1, .ref 64), (0, .ref 63)], [.ref 63, .int 0], jzv181) : jS)) rfl ?_
  refine jl_s (S' := ((27, [(4, .int 0), (3, .ref 153), (2, .ref 66), (1, .ref 64), (0, .ref 63)], [.int 4, .int 0], jzv181) : jS)) rfl ?_
  refine jl_s (S' := ((28, [(4, .int 0), (3, .ref 153), (2, .ref 66), (1, .ref 64), (0, .ref 63)], [.int 4, .int 4, .int 0], jzv181) : jS)) rfl ?_
  refine jl_s (S' := ((29, [(4, .int 0), (3, .ref 153), (2, .ref 66), (1, .ref 64), (0, .ref 63)], [.int 0, .int 0], jzv181) : jS)) rfl ?_
  refine jl_s (S' := ((32, [(4, .int 0), (3, .ref 153), (2, .ref 66), (1, .ref 64), (0, .ref 63)], [], jzv181) : jS)) rfl ?_
  refine jl_s (S' := ((33, [(4, .int 0), (3, .ref 153), (2, .ref 66), (1, .ref 64), (0, .ref 63)], [.ref 63], jzv181) : jS)) rfl ?_
  refine jl_s (S' := ((35, [(4, .int 0), (3, .ref 153), (2, .ref 66), (1, .ref 64), (0, .ref 63)], [.int 0, .ref 63], jzv181) : jS)) rfl ?_
  refine jl_s (S' := ((36, [(4, .int 0), (3, .ref 153), (2, .ref 66), (1, .ref 64), (0, .ref 63)], [.int (xs 0)], jzv181) : jS)) rfl ?_
  refine jl_s (S' := ((38, [(4, .int 0), (3, .ref 153), (2, .ref 66), (1, .ref 64), (0, .ref 63)], [.int 31, .int (xs 0)], jzv181) : jS)) rfl ?_
  refine jl_s (S' := ((39, [(4, .int 0), (3, .ref 153), (2, .ref 66), (1, .ref 64), (0, .ref 63)], [.int ((xs 0) &&& 31)], jzv181) : jS)) rfl ?_
  rw [hop]
  refine jl_s (S' := ((1193, [(4, .int 0), (3, .ref 153), (2, .ref 66), (1, .ref 64), (0, .ref 63)], [], jzv181) : jS)) rfl ?_
  refine jl_s (S' := ((1196, [(4, .int 4), (3, .ref 153), (2, .ref 66), (1, .ref 64), (0, .ref 63)], [], jzv181) : jS)) rfl ?_
  refine jl_s (S' := ((23, [(4, .int 4), (3, .ref 153), (2, .ref 66), (1, .ref 64), (0, .ref 63)], [], jzv181) : jS)) rfl ?_
  refine jl_s (S' := ((25, [(4, .int 4), (3, .ref 153), (2, .ref 66), (1, .ref 64), (0, .ref 63)], [.int 4], jzv181) : jS)) rfl ?_
  refine jl_s (S' := ((26, [(4, .int 4), (3, .ref 153), (2, .ref 66), (1, .ref 64), (0, .ref 63)], [.ref 63, .int 4], jzv181) : jS)) rfl ?_
  refine jl_s (S' := ((27, [(4, .int 4), (3, .ref 153), (2, .ref 66), (1, .ref 64), (0, .ref 63)], [.int 4, .int 4], jzv181) : jS)) rfl ?_
  refine jl_s (S' := ((28, [(4, .int 4), (3, .ref 153), (2, .ref 66), (1, .ref 64), (0, .ref 63)], [.int 4, .int 4, .int 4], jzv181) : jS)) rfl ?_
  refine jl_s (S' := ((29, [(4, .int 4), (3, .ref 153), (2, .ref 66), (1, .ref 64), (0, .ref 63)], [.int 0, .int 4], jzv181) : jS)) rfl ?_
  refine jl_s (S' := ((1199, [(4, .int 4), (3, .ref 153), (2, .ref 66), (1, .ref 64), (0, .ref 63)], [], jzv181) : jS)) rfl ?_
  refine jl_s (S' := ((1200, [(4, .int 4), (3, .ref 153), (2, .ref 66), (1, .ref 64), (0, .ref 63)], [.int 1], jzv181) : jS)) rfl ?_
  exact jl_r (r := (.inl (some (.int 1)), jzv181)) rfl
-- op 23 : jzl184
set_option maxHeartbeats 4000000 in
set_option maxRecDepth 100000 in
theorem jzl185 (xs : Nat → Int32) (hop : xs 0 &&& 31 = 24)  : jLoop (jRun ((4, xs) : jX) 2000 39) ((4, xs) : jX) jm18 1000 ((23, [(4, .int 0), (3, .ref 153), (2, .ref 66), (1, .ref 64), (0, .ref 63)], [], jzv181) : jS) = some (.inl (some (.int 1)), jzv181) := by
  refine jl_s (S' := ((25, [(4, .int 0), (3, .ref 153), (2, .ref 66), (1, .ref 64), (0, .ref 63)], [.int 0], jzv181) : jS)) rfl ?_
  refine jl_s (S' := ((26, [(4, .int 0), (3, .ref 153), (2, .ref 66), (1, .ref 64), (0, .ref 63)], [.ref 63, .int 0], jzv181) : jS)) rfl ?_
  refine jl_s (S' := ((27, [(4, .int 0), (3, .ref 153), (2, .ref 66), (1, .ref 64), (0, .ref 63)], [.int 4, .int 0], jzv181) : jS)) rfl ?_
  refine jl_s (S' := ((28, [(4, .int 0), (3, .ref 153), (2, .ref 66), (1, .ref 64), (0, .ref 63)], [.int 4, .int 4, .int 0], jzv181) : jS)) rfl ?_
  refine jl_s (S' := ((29, [(4, .int 0), (3, .ref 153), (2, .ref 66), (1, .ref 64), (0, .ref 63)], [.int 0, .int 0], jzv181) : jS)) rfl ?_
  refine jl_s (S' := ((32, [(4, .int 0), (3, .ref 153), (2, .ref 66), (1, .ref 64), (0, .ref 63)], [], jzv181) : jS)) rfl ?_
  refine jl_s (S' := ((33, [(4, .int 0), (3, .ref 153), (2, .ref 66), (1, .ref 64), (0, .ref 63)], [.ref 63], jzv181) : jS)) rfl ?_
  refine jl_s (S' := ((35, [(4, .int 0), (3, .ref 153), (2, .ref 66), (1, .ref 64), (0, .ref 63)], [.int 0, .ref 63], jzv181) : jS)) rfl ?_
  refine jl_s (S' := ((36, [(4, .int 0), (3, .ref 153), (2, .ref 66), (1, .ref 64), (0, .ref 63)], [.int (xs 0)], jzv181) : jS)) rfl ?_
  refine jl_s (S' := ((38, [(4, .int 0), (3, .ref 153), (2, .ref 66), (1, .ref 64), (0, .ref 63)], [.int 31, .int (xs 0)], jzv181) : jS)) rfl ?_
  refine jl_s (S' := ((39, [(4, .int 0), (3, .ref 153), (2, .ref 66), (1, .ref 64), (0, .ref 63)], [.int ((xs 0) &&& 31)], jzv181) : jS)) rfl ?_
  rw [hop]
  refine jl_s (S' := ((1193, [(4, .int 0), (3, .ref 153), (2, .ref 66), (1, .ref 64), (0, .ref 63)], [], jzv181) : jS)) rfl ?_
  refine jl_s (S' := ((1196, [(4, .int 4), (3, .ref 153), (2, .ref 66), (1, .ref 64), (0, .ref 63)], [], jzv181) : jS)) rfl ?_
  refine jl_s (S' := ((23, [(4, .int 4), (3, .ref 153), (2, .ref 66), (1, .ref 64), (0, .ref 63)], [], jzv181) : jS)) rfl ?_
  refine jl_s (S' := ((25, [(4, .int 4), (3, .ref 153), (2, .ref 66), (1, .ref 64), (0, .ref 63)], [.int 4], jzv181) : jS)) rfl ?_
  refine jl_s (S' := ((26, [(4, .int 4), (3, .ref 153), (2, .ref 66), (1, .ref 64), (0, .ref 63)], [.ref 63, .int 4], jzv181) : jS)) rfl ?_
  refine jl_s (S' := ((27, [(4, .int 4), (3, .ref 153), (2, .ref 66), (1, .ref 64), (0, .ref 63)], [.int 4, .int 4], jzv181) : jS)) rfl ?_
  refine jl_s (S' := ((28, [(4, .int 4), (3, .ref 153), (2, .ref 66), (1, .ref 64), (0, .ref 63)], [.int 4, .int 4, .int 4], jzv181) : jS)) rfl ?_
  refine jl_s (S' := ((29, [(4, .int 4), (3, .ref 153), (2, .ref 66), (1, .ref 64), (0, .ref 63)], [.int 0, .int 4], jzv181) : jS)) rfl ?_
  refine jl_s (S' := ((1199, [(4, .int 4), (3, .ref 153), (2, .ref 66), (1, .ref 64), (0, .ref 63)], [], jzv181) : jS)) rfl ?_
  refine jl_s (S' := ((1200, [(4, .int 4), (3, .ref 153), (2, .ref 66), (1, .ref 64), (0, .ref 63)], [.int 1], jzv181) : jS)) rfl ?_
  exact jl_r (r := (.inl (some (.int 1)), jzv181)) rfl
-- op 24 : jzl185
set_option maxHeartbeats 4000000 in
set_option maxRecDepth 100000 in
theorem jzl186 (xs : Nat → Int32) (hop : xs 0 &&& 31 = 25)  : jLoop (jRun ((4, xs) : jX) 2000 39) ((4, xs) : jX) jm18 1000 ((23, [(4, .int 0), (3, .ref 153), (2, .ref 66), (1, .ref 64), (0, .ref 63)], [], jzv181) : jS) = some (.inl (some (.int 1)), jzv181) := by
  refine jl_s (S' := ((25, [(4, .int 0), (3, .ref 153), (2, .ref 66), (1, .ref 64), (0, .ref 63)], [.int 0], jzv181) : jS)) rfl ?_
  refine jl_s (S' := ((26, [(4, .int 0), (3, .ref 153), (2, .ref 66), (1, .ref 64), (0, .ref 63)], [.ref 63, .int 0], jzv181) : jS)) rfl ?_
  refine jl_s (S' := ((27, [(4, .int 0), (3, .ref 153), (2, .ref 66), (1, .ref 64), (0, .ref 63)], [.int 4, .int 0], jzv181) : jS)) rfl ?_
  refine jl_s (S' := ((28, [(4, .int 0), (3, .ref 153), (2, .ref 66), (1, .ref 64), (0, .ref 63)], [.int 4, .int 4, .int 0], jzv181) : jS)) rfl ?_
  refine jl_s (S' := ((29, [(4, .int 0), (3, .ref 153), (2, .ref 66), (1, .ref 64), (0, .ref 63)], [.int 0, .int 0], jzv181) : jS)) rfl ?_
  refine jl_s (S' := ((32, [(4, .int 0), (3, .ref 153), (2, .ref 66), (1, .ref 64), (0, .ref 63)], [], jzv181) : jS)) rfl ?_
  refine jl_s (S' := ((33, [(4, .int 0), (3, .ref 153), (2, .ref 66), (1, .ref 64), (0, .ref 63)], [.ref 63], jzv181) : jS)) rfl ?_
  refine jl_s (S' := ((35, [(4, .int 0), (3, .ref 153), (2, .ref 66), (1, .ref 64), (0, .ref 63)], [.int 0, .ref 63], jzv181) : jS)) rfl ?_
  refine jl_s (S' := ((36, [(4, .int 0), (3, .ref 153), (2, .ref 66), (1, .ref 64), (0, .ref 63)], [.int (xs 0)], jzv181) : jS)) rfl ?_
  refine jl_s (S' := ((38, [(4, .int 0), (3, .ref 153), (2, .ref 66), (1, .ref 64), (0, .ref 63)], [.int 31, .int (xs 0)], jzv181) : jS)) rfl ?_
  refine jl_s (S' := ((39, [(4, .int 0), (3, .ref 153), (2, .ref 66), (1, .ref 64), (0, .ref 63)], [.int ((xs 0) &&& 31)], jzv181) : jS)) rfl ?_
  rw [hop]
  refine jl_s (S' := ((1193, [(4, .int 0), (3, .ref 153), (2, .ref 66), (1, .ref 64), (0, .ref 63)], [], jzv181) : jS)) rfl ?_
  refine jl_s (S' := ((1196, [(4, .int 4), (3, .ref 153), (2, .ref 66), (1, .ref 64), (0, .ref 63)], [], jzv181) : jS)) rfl ?_
  refine jl_s (S' := ((23, [(4, .int 4), (3, .ref 153), (2, .ref 66), (1, .ref 64), (0, .ref 63)], [], jzv181) : jS)) rfl ?_
  refine jl_s (S' := ((25, [(4, .int 4), (3, .ref 153), (2, .ref 66), (1, .ref 64), (0, .ref 63)], [.int 4], jzv181) : jS)) rfl ?_
  refine jl_s (S' := ((26, [(4, .int 4), (3, .ref 153), (2, .ref 66), (1, .ref 64), (0, .ref 63)], [.ref 63, .int 4], jzv181) : jS)) rfl ?_
  refine jl_s (S' := ((27, [(4, .int 4), (3, .ref 153), (2, .ref 66), (1, .ref 64), (0, .ref 63)], [.int 4, .int 4], jzv181) : jS)) rfl ?_
  refine jl_s (S' := ((28, [(4, .int 4), (3, .ref 153), (2, .ref 66), (1, .ref 64), (0, .ref 63)], [.int 4, .int 4, .int 4], jzv181) : jS)) rfl ?_
  refine jl_s (S' := ((29, [(4, .int 4), (3, .ref 153), (2, .ref 66), (1, .ref 64), (0, .ref 63)], [.int 0, .int 4], jzv181) : jS)) rfl ?_
  refine jl_s (S' := ((1199, [(4, .int 4), (3, .ref 153), (2, .ref 66), (1, .ref 64), (0, .ref 63)], [], jzv181) : jS)) rfl ?_
  refine jl_s (S' := ((1200, [(4, .int 4), (3, .ref 153), (2, .ref 66), (1, .ref 64), (0, .ref 63)], [.int 1], jzv181) : jS)) rfl ?_
  exact jl_r (r := (.inl (some (.int 1)), jzv181)) rfl
-- op 25 : jzl186
set_option maxHeartbeats 4000000 in
set_option maxRecDepth 100000 in
theorem jzl187 (xs : Nat → Int32) (hop : xs 0 &&& 31 = 26)  : jLoop (jRun ((4, xs) : jX) 2000 39) ((4, xs) : jX) jm18 1000 ((23, [(4, .int 0), (3, .ref 153), (2, .ref 66), (1, .ref 64), (0, .ref 63)], [], jzv181) : jS) = some (.inl (some (.int 1)), jzv181) := by
  refine jl_s (S' := ((25, [(4, .int 0), (3, .ref 153), (2, .ref 66), (1, .ref 64), (0, .ref 63)], [.int 0], jzv181) : jS)) rfl ?_
  refine jl_s (S' := ((26, [(4, .int 0), (3, .ref 153), (2, .ref 66), (1, .ref 64), (0, .ref 63)], [.ref 63, .int 0], jzv181) : jS)) rfl ?_
  refine jl_s (S' := ((27, [(4, .int 0), (3, .ref 153), (2, .ref 66), (1, .ref 64), (0, .ref 63)], [.int 4, .int 0], jzv181) : jS)) rfl ?_
  refine jl_s (S' := ((28, [(4, .int 0), (3, .ref 153), (2, .ref 66), (1, .ref 64), (0, .ref 63)], [.int 4, .int 4, .int 0], jzv181) : jS)) rfl ?_
  refine jl_s (S' := ((29, [(4, .int 0), (3, .ref 153), (2, .ref 66), (1, .ref 64), (0, .ref 63)], [.int 0, .int 0], jzv181) : jS)) rfl ?_
  refine jl_s (S' := ((32, [(4, .int 0), (3, .ref 153), (2, .ref 66), (1, .ref 64), (0, .ref 63)], [], jzv181) : jS)) rfl ?_
  refine jl_s (S' := ((33, [(4, .int 0), (3, .ref 153), (2, .ref 66), (1, .ref 64), (0, .ref 63)], [.ref 63], jzv181) : jS)) rfl ?_
  refine jl_s (S' := ((35, [(4, .int 0), (3, .ref 153), (2, .ref 66), (1, .ref 64), (0, .ref 63)], [.int 0, .ref 63], jzv181) : jS)) rfl ?_
  refine jl_s (S' := ((36, [(4, .int 0), (3, .ref 153), (2, .ref 66), (1, .ref 64), (0, .ref 63)], [.int (xs 0)], jzv181) : jS)) rfl ?_
  refine jl_s (S' := ((38, [(4, .int 0), (3, .ref 153), (2, .ref 66), (1, .ref 64), (0, .ref 63)], [.int 31, .int (xs 0)], jzv181) : jS)) rfl ?_
  refine jl_s (S' := ((39, [(4, .int 0), (3, .ref 153), (2, .ref 66), (1, .ref 64), (0, .ref 63)], [.int ((xs 0) &&& 31)], jzv181) : jS)) rfl ?_
  rw [hop]
  refine jl_s (S' := ((1193, [(4, .int 0), (3, .ref 153), (2, .ref 66), (1, .ref 64), (0, .ref 63)], [], jzv181) : jS)) rfl ?_
  refine jl_s (S' := ((1196, [(4, .int 4), (3, .ref 153), (2, .ref 66), (1, .ref 64), (0, .ref 63)], [], jzv181) : jS)) rfl ?_
  refine jl_s (S' := ((23, [(4, .int 4), (3, .ref 153), (2, .ref 66), (1, .ref 64), (0, .ref 63)], [], jzv181) : jS)) rfl ?_
  refine jl_s (S' := ((25, [(4, .int 4), (3, .ref 153), (2, .ref 66), (1, .ref 64), (0, .ref 63)], [.int 4], jzv181) : jS)) rfl ?_
  refine jl_s (S' := ((26, [(4, .int 4), (3, .ref 153), (2, .ref 66), (1, .ref 64), (0, .ref 63)], [.ref 63, .int 4], jzv181) : jS)) rfl ?_
  refine jl_s (S' := ((27, [(4, .int 4), (3, .ref 153), (2, .ref 66), (1, .ref 64), (0, .ref 63)], [.int 4, .int 4], jzv181) : jS)) rfl ?_
  refine jl_s (S' := ((28, [(4, .int 4), (3, .ref 153), (2, .ref 66), (1, .ref 64), (0, .ref 63)], [.int 4, .int 4, .int 4], jzv181) : jS)) rfl ?_
  refine jl_s (S' := ((29, [(4, .int 4), (3, .ref 153), (2, .ref 66), (1, .ref 64), (0, .ref 63)], [.int 0, .int 4], jzv181) : jS)) rfl ?_
  refine jl_s (S' := ((1199, [(4, .int 4), (3, .ref 153), (2, .ref 66), (1, .ref 64), (0, .ref 63)], [], jzv181) : jS)) rfl ?_
  refine jl_s (S' := ((1200, [(4, .int 4), (3, .ref 153), (2, .ref 66), (1, .ref 64), (0, .ref 63)], [.int 1], jzv181) : jS)) rfl ?_
  exact jl_r (r := (.inl (some (.int 1)), jzv181)) rfl
-- op 26 : jzl187
set_option maxHeartbeats 4000000 in
set_option maxRecDepth 100000 in
theorem jzl188 (xs : Nat → Int32) (hop : xs 0 &&& 31 = 27)  : jLoop (jRun ((4, xs) : jX) 2000 39) ((4, xs) : jX) jm18 1000 ((23, [(4, .int 0), (3, .ref 153), (2, .ref 66), (1, .ref 64), (0, .ref 63)], [], jzv181) : jS) = some (.inl (some (.int 1)), jzv181) := by
  refine jl_s (S' := ((25, [(4, .int 0), (3, .ref 153), (2, .ref 66), (1, .ref 64), (0, .ref 63)], [.int 0], jzv181) : jS)) rfl ?_
  refine jl_s (S' := ((26, [(4, .int 0), (3, .ref 153), (2, .ref 66), (1, .ref 64), (0, .ref 63)], [.ref 63, .int 0], jzv181) : jS)) rfl ?_
  refine jl_s (S' := ((27, [(4, .int 0), (3, .ref 153), (2, .ref 66), (1, .ref 64), (0, .ref 63)], [.int 4, .int 0], jzv181) : jS)) rfl ?_
  refine jl_s (S' := ((28, [(4, .int 0), (3, .ref 153), (2, .ref 66), (1, .ref 64), (0, .ref 63)], [.int 4, .int 4, .int 0], jzv181) : jS)) rfl ?_
  refine jl_s (S' := ((29, [(4, .int 0), (3, .ref 153), (2, .ref 66), (1, .ref 64), (0, .ref 63)], [.int 0, .int 0], jzv181) : jS)) rfl ?_
  refine jl_s (S' := ((32, [(4, .int 0), (3, .ref 153), (2, .ref 66), (1, .ref 64), (0, .ref 63)], [], jzv181) : jS)) rfl ?_
  refine jl_s (S' := ((33, [(4, .int 0), (3, .ref 153), (2, .ref 66), (1, .ref 64), (0, .ref 63)], [.ref 63], jzv181) : jS)) rfl ?_
  refine jl_s (S' := ((35, [(4, .int 0), (3, .ref 153), (2, .ref 66), (1, .ref 64), (0, .ref 63)], [.int 0, .ref 63], jzv181) : jS)) rfl ?_
  refine jl_s (S' := ((36, [(4, .int 0), (3, .ref 153), (2, .ref 66), (1, .ref 64), (0, .ref 63)], [.int (xs 0)], jzv181) : jS)) rfl ?_
  refine jl_s (S' := ((38, [(4, .int 0), (3, .ref 153), (2, .ref 66), (1, .ref 64), (0, .ref 63)], [.int 31, .int (xs 0)], jzv181) : jS)) rfl ?_
  refine jl_s (S' := ((39, [(4, .int 0), (3, .ref 153), (2, .ref 66), (1, .ref 64), (0, .ref 63)], [.int ((xs 0) &&& 31)], jzv181) : jS)) rfl ?_
  rw [hop]
  refine jl_s (S' := ((1193, [(4, .int 0), (3, .ref 153), (2, .ref 66), (1, .ref 64), (0, .ref 63)], [], jzv181) : jS)) rfl ?_
  refine jl_s (S' := ((1196, [(4, .int 4), (3, .ref 153), (2, .ref 66), (1, .ref 64), (0, .ref 63)], [], jzv181) : jS)) rfl ?_
  refine jl_s (S' := ((23, [(4, .int 4), (3, .ref 153), (2, .ref 66), (1, .ref 64), (0, .ref 63)], [], jzv181) : jS)) rfl ?_
  refine jl_s (S' := ((25, [(4, .int 4), (3, .ref 153), (2, .ref 66), (1, .ref 64), (0, .ref 63)], [.int 4], jzv181) : jS)) rfl ?_
  refine jl_s (S' := ((26, [(4, .int 4), (3, .ref 153), (2, .ref 66), (1, .ref 64), (0, .ref 63)], [.ref 63, .int 4], jzv181) : jS)) rfl ?_
  refine jl_s (S' := ((27, [(4, .int 4), (3, .ref 153), (2, .ref 66), (1, .ref 64), (0, .ref 63)], [.int 4, .int 4], jzv181) : jS)) rfl ?_
  refine jl_s (S' := ((28, [(4, .int 4), (3, .ref 153), (2, .ref 66), (1, .ref 64), (0, .ref 63)], [.int 4, .int 4, .int 4], jzv181) : jS)) rfl ?_
  refine jl_s (S' := ((29, [(4, .int 4), (3, .ref 153), (2, .ref 66), (1, .ref 64), (0, .ref 63)], [.int 0, .int 4], jzv181) : jS)) rfl ?_
  refine jl_s (S' := ((1199, [(4, .int 4), (3, .ref 153), (2, .ref 66), (1, .ref 64), (0, .ref 63)], [], jzv181) : jS)) rfl ?_
  refine jl_s (S' := ((1200, [(4, .int 4), (3, .ref 153), (2, .ref 66), (1, .ref 64), (0, .ref 63)], [.int 1], jzv181) : jS)) rfl ?_
  exact jl_r (r := (.inl (some (.int 1)), jzv181)) rfl
-- op 27 : jzl188
set_option maxHeartbeats 4000000 in
set_option maxRecDepth 100000 in
theorem jzl189 (xs : Nat → Int32) (hop : xs 0 &&& 31 = 28)  : jLoop (jRun ((4, xs) : jX) 2000 39) ((4, xs) : jX) jm18 1000 ((23, [(4, .int 0), (3, .ref 153), (2, .ref 66), (1, .ref 64), (0, .ref 63)], [], jzv181) : jS) = some (.inl (some (.int 1)), jzv181) := by
  refine jl_s (S' := ((25, [(4, .int 0), (3, .ref 153), (2, .ref 66), (1, .ref 64), (0, .ref 63)], [.int 0], jzv181) : jS)) rfl ?_
  refine jl_s (S' := ((26, [(4, .int 0), (3, .ref 153), (2, .ref 66), (1, .ref 64), (0, .ref 63)], [.ref 63, .int 0], jzv181) : jS)) rfl ?_
  refine jl_s (S' := ((27, [(4, .int 0), (3, .ref 153), (2, .ref 66), (1, .ref 64), (0, .ref 63)], [.int 4, .int 0], jzv181) : jS)) rfl ?_
  refine jl_s (S' := ((28, [(4, .int 0), (3, .ref 153), (2, .ref 66), (1, .ref 64), (0, .ref 63)], [.int 4, .int 4, .int 0], jzv181) : jS)) rfl ?_
  refine jl_s (S' := ((29, [(4, .int 0), (3, .ref 153), (2, .ref 66), (1, .ref 64), (0, .ref 63)], [.int 0, .int 0], jzv181) : jS)) rfl ?_
  refine jl_s (S' := ((32, [(4, .int 0), (3, .ref 153), (2, .ref 66), (1, .ref 64), (0, .ref 63)], [], jzv181) : jS)) rfl ?_
  refine jl_s (S' := ((33, [(4, .int 0), (3, .ref 153), (2, .ref 66), (1, .ref 64), (0, .ref 63)], [.ref 63], jzv181) : jS)) rfl ?_
  refine jl_s (S' := ((35, [(4, .int 0), (3, .ref 153), (2, .ref 66), (1, .ref 64), (0, .ref 63)], [.int 0, .ref 63], jzv181) : jS)) rfl ?_
  refine jl_s (S' := ((36, [(4, .int 0), (3, .ref 153), (2, .ref 66), (1, .ref 64), (0, .ref 63)], [.int (xs 0)], jzv181) : jS)) rfl ?_
  refine jl_s (S' := ((38, [(4, .int 0), (3, .ref 153), (2, .ref 66), (1, .ref 64), (0, .ref 63)], [.int 31, .int (xs 0)], jzv181) : jS)) rfl ?_
  refine jl_s (S' := ((39, [(4, .int 0), (3, .ref 153), (2, .ref 66), (1, .ref 64), (0, .ref 63)], [.int ((xs 0) &&& 31)], jzv181) : jS)) rfl ?_
  rw [hop]
  refine jl_s (S' := ((1193, [(4, .int 0), (3, .ref 153), (2, .ref 66), (1, .ref 64), (0, .ref 63)], [], jzv181) : jS)) rfl ?_
  refine jl_s (S' := ((1196, [(4, .int 4), (3, .ref 153), (2, .ref 66), (1, .ref 64), (0, .ref 63)], [], jzv181) : jS)) rfl ?_
  refine jl_s (S' := ((23, [(4, .int 4), (3, .ref 153), (2, .ref 66), (1, .ref 64), (0, .ref 63)], [], jzv181) : jS)) rfl ?_
  refine jl_s (S' := ((25, [(4, .int 4), (3, .ref 153), (2, .ref 66), (1, .ref 64), (0, .ref 63)], [.int 4], jzv181) : jS)) rfl ?_
  refine jl_s (S' := ((26, [(4, .int 4), (3, .ref 153), (2, .ref 66), (1, .ref 64), (0, .ref 63)], [.ref 63, .int 4], jzv181) : jS)) rfl ?_
  refine jl_s (S' := ((27, [(4, .int 4), (3, .ref 153), (2, .ref 66), (1, .ref 64), (0, .ref 63)], [.int 4, .int 4], jzv181) : jS)) rfl ?_
  refine jl_s (S' := ((28, [(4, .int 4), (3, .ref 153), (2, .ref 66), (1, .ref 64), (0, .ref 63)], [.int 4, .int 4, .int 4], jzv181) : jS)) rfl ?_
  refine jl_s (S' := ((29, [(4, .int 4), (3, .ref 153), (2, .ref 66), (1, .ref 64), (0, .ref 63)], [.int 0, .int 4], jzv181) : jS)) rfl ?_
  refine jl_s (S' := ((1199, [(4, .int 4), (3, .ref 153), (2, .ref 66), (1, .ref 64), (0, .ref 63)], [], jzv181) : jS)) rfl ?_
  refine jl_s (S' := ((1200, [(4, .int 4), (3, .ref 153), (2, .ref 66), (1, .ref 64), (0, .ref 63)], [.int 1], jzv181) : jS)) rfl ?_
  exact jl_r (r := (.inl (some (.int 1)), jzv181)) rfl
-- op 28 : jzl189
set_option maxHeartbeats 4000000 in
set_option maxRecDepth 100000 in
theorem jzl190 (xs : Nat → Int32) (hop : xs 0 &&& 31 = 29)  : jLoop (jRun ((4, xs) : jX) 2000 39) ((4, xs) : jX) jm18 1000 ((23, [(4, .int 0), (3, .ref 153), (2, .ref 66), (1, .ref 64), (0, .ref 63)], [], jzv181) : jS) = some (.inl (some (.int 1)), jzv181) := by
  refine jl_s (S' := ((25, [(4, .int 0), (3, .ref 153), (2, .ref 66), (1, .ref 64), (0, .ref 63)], [.int 0], jzv181) : jS)) rfl ?_
  refine jl_s (S' := ((26, [(4, .int 0), (3, .ref 153), (2, .ref 66), (1, .ref 64), (0, .ref 63)], [.ref 63, .int 0], jzv181) : jS)) rfl ?_
  refine jl_s (S' := ((27, [(4, .int 0), (3, .ref 153), (2, .ref 66), (1, .ref 64), (0, .ref 63)], [.int 4, .int 0], jzv181) : jS)) rfl ?_
  refine jl_s (S' := ((28, [(4, .int 0), (3, .ref 153), (2, .ref 66), (1, .ref 64), (0, .ref 63)], [.int 4, .int 4, .int 0], jzv181) : jS)) rfl ?_
  refine jl_s (S' := ((29, [(4, .int 0), (3, .ref 153), (2, .ref 66), (1, .ref 64), (0, .ref 63)], [.int 0, .int 0], jzv181) : jS)) rfl ?_
  refine jl_s (S' := ((32, [(4, .int 0), (3, .ref 153), (2, .ref 66), (1, .ref 64), (0, .ref 63)], [], jzv181) : jS)) rfl ?_
  refine jl_s (S' := ((33, [(4, .int 0), (3, .ref 153), (2, .ref 66), (1, .ref 64), (0, .ref 63)], [.ref 63], jzv181) : jS)) rfl ?_
  refine jl_s (S' := ((35, [(4, .int 0), (3, .ref 153), (2, .ref 66), (1, .ref 64), (0, .ref 63)], [.int 0, .ref 63], jzv181) : jS)) rfl ?_
  refine jl_s (S' := ((36, [(4, .int 0), (3, .ref 153), (2, .ref 66), (1, .ref 64), (0, .ref 63)], [.int (xs 0)], jzv181) : jS)) rfl ?_
  refine jl_s (S' := ((38, [(4, .int 0), (3, .ref 153), (2, .ref 66), (1, .ref 64), (0, .ref 63)], [.int 31, .int (xs 0)], jzv181) : jS)) rfl ?_
  refine jl_s (S' := ((39, [(4, .int 0), (3, .ref 153), (2, .ref 66), (1, .ref 64), (0, .ref 63)], [.int ((xs 0) &&& 31)], jzv181) : jS)) rfl ?_
  rw [hop]
  refine jl_s (S' := ((1193, [(4, .int 0), (3, .ref 153), (2, .ref 66), (1, .ref 64), (0, .ref 63)], [], jzv181) : jS)) rfl ?_
  refine jl_s (S' := ((1196, [(4, .int 4), (3, .ref 153), (2, .ref 66), (1, .ref 64), (0, .ref 63)], [], jzv181) : jS)) rfl ?_
  refine jl_s (S' := ((23, [(4, .int 4), (3, .ref 153), (2, .ref 66), (1, .ref 64), (0, .ref 63)], [], jzv181) : jS)) rfl ?_
  refine jl_s (S' := ((25, [(4, .int 4), (3, .ref 153), (2, .ref 66), (1, .ref 64), (0, .ref 63)], [.int 4], jzv181) : jS)) rfl ?_
  refine jl_s (S' := ((26, [(4, .int 4), (3, .ref 153), (2, .ref 66), (1, .ref 64), (0, .ref 63)], [.ref 63, .int 4], jzv181) : jS)) rfl ?_
  refine jl_s (S' := ((27, [(4, .int 4), (3, .ref 153), (2, .ref 66), (1, .ref 64), (0, .ref 63)], [.int 4, .int 4], jzv181) : jS)) rfl ?_
  refine jl_s (S' := ((28, [(4, .int 4), (3, .ref 153), (2, .ref 66), (1, .ref 64), (0, .ref 63)], [.int 4, .int 4, .int 4], jzv181) : jS)) rfl ?_
  refine jl_s (S' := ((29, [(4, .int 4), (3, .ref 153), (2, .ref 66), (1, .ref 64), (0, .ref 63)], [.int 0, .int 4], jzv181) : jS)) rfl ?_
  refine jl_s (S' := ((1199, [(4, .int 4), (3, .ref 153), (2, .ref 66), (1, .ref 64), (0, .ref 63)], [], jzv181) : jS)) rfl ?_
  refine jl_s (S' := ((1200, [(4, .int 4), (3, .ref 153), (2, .ref 66), (1, .ref 64), (0, .ref 63)], [.int 1], jzv181) : jS)) rfl ?_
  exact jl_r (r := (.inl (some (.int 1)), jzv181)) rfl
-- op 29 : jzl190
set_option maxHeartbeats 4000000 in
set_option maxRecDepth 100000 in
theorem jzl191 (xs : Nat → Int32) (hop : xs 0 &&& 31 = 30)  : jLoop (jRun ((4, xs) : jX) 2000 39) ((4, xs) : jX) jm18 1000 ((23, [(4, .int 0), (3, .ref 153), (2, .ref 66), (1, .ref 64), (0, .ref 63)], [], jzv181) : jS) = some (.inl (some (.int 1)), jzv181) := by
  refine jl_s (S' := ((25, [(4, .int 0), (3, .ref 153), (2, .ref 66), (1, .ref 64), (0, .ref 63)], [.int 0], jzv181) : jS)) rfl ?_
  refine jl_s (S' := ((26, [(4, .int 0), (3, .ref 153), (2, .ref 66), (1, .ref 64), (0, .ref 63)], [.ref 63, .int 0], jzv181) : jS)) rfl ?_
  refine jl_s (S' := ((27, [(4, .int 0), (3, .ref 153), (2, .ref 66), (1, .ref 64), (0, .ref 63)], [.int 4, .int 0], jzv181) : jS)) rfl ?_
  refine jl_s (S' := ((28, [(4, .int 0), (3, .ref 153), (2, .ref 66), (1, .ref 64), (0, .ref 63)], [.int 4, .int 4, .int 0], jzv181) : jS)) rfl ?_
  refine jl_s (S' := ((29, [(4, .int 0), (3, .ref 153), (2, .ref 66), (1, .ref 64), (0, .ref 63)], [.int 0, .int 0], jzv181) : jS)) rfl ?_
  refine jl_s (S' := ((32, [(4, .int 0), (3, .ref 153), (2, .ref 66), (1, .ref 64), (0, .ref 63)], [], jzv181) : jS)) rfl ?_
  refine jl_s (S' := ((33, [(4, .int 0), (3, .ref 153), (2, .ref 66), (1, .ref 64), (0, .ref 63)], [.ref 63], jzv181) : jS)) rfl ?_
  refine jl_s (S' := ((35, [(4, .int 0), (3, .ref 153), (2, .ref 66), (1, .ref 64), (0, .ref 63)], [.int 0, .ref 63], jzv181) : jS)) rfl ?_
  refine jl_s (S' := ((36, [(4, .int 0), (3, .ref 153), (2, .ref 66), (1, .ref 64), (0, .ref 63)], [.int (xs 0)], jzv181) : jS)) rfl ?_
  refine jl_s (S' := ((38, [(4, .int 0), (3, .ref 153), (2, .ref 66), (1, .ref 64), (0, .ref 63)], [.int 31, .int (xs 0)], jzv181) : jS)) rfl ?_
  refine jl_s (S' := ((39, [(4, .int 0), (3, .ref 153), (2, .ref 66), (1, .ref 64), (0, .ref 63)], [.int ((xs 0) &&& 31)], jzv181) : jS)) rfl ?_
  rw [hop]
  refine jl_s (S' := ((1193, [(4, .int 0), (3, .ref 153), (2, .ref 66), (1, .ref 64), (0, .ref 63)], [], jzv181) : jS)) rfl ?_
  refine jl_s (S' := ((1196, [(4, .int 4), (3, .ref 153), (2, .ref 66), (1, .ref 64), (0, .ref 63)], [], jzv181) : jS)) rfl ?_
  refine jl_s (S' := ((23, [(4, .int 4), (3, .ref 153), (2, .ref 66), (1, .ref 64), (0, .ref 63)], [], jzv181) : jS)) rfl ?_
  refine jl_s (S' := ((25, [(4, .int 4), (3, .ref 153), (2, .ref 66), (1, .ref 64), (0, .ref 63)], [.int 4], jzv181) : jS)) rfl ?_
  refine jl_s (S' := ((26, [(4, .int 4), (3, .ref 153), (2, .ref 66), (1, .ref 64), (0, .ref 63)], [.ref 63, .int 4], jzv181) : jS)) rfl ?_
  refine jl_s (S' := ((27, [(4, .int 4), (3, .ref 153), (2, .ref 66), (1, .ref 64), (0, .ref 63)], [.int 4, .int 4], jzv181) : jS)) rfl ?_
  refine jl_s (S' := ((28, [(4, .int 4), (3, .ref 153), (2, .ref 66), (1, .ref 64), (0, .ref 63)], [.int 4, .int 4, .int 4], jzv181) : jS)) rfl ?_
  refine jl_s (S' := ((29, [(4, .int 4), (3, .ref 153), (2, .ref 66), (1, .ref 64), (0, .ref 63)], [.int 0, .int 4], jzv181) : jS)) rfl ?_
  refine jl_s (S' := ((1199, [(4, .int 4), (3, .ref 153), (2, .ref 66), (1, .ref 64), (0, .ref 63)], [], jzv181) : jS)) rfl ?_
  refine jl_s (S' := ((1200, [(4, .int 4), (3, .ref 153), (2, .ref 66), (1, .ref 64), (0, .ref 63)], [.int 1], jzv181) : jS)) rfl ?_
  exact jl_r (r := (.inl (some (.int 1)), jzv181)) rfl
-- op 30 : jzl191
set_option maxHeartbeats 4000000 in
set_option maxRecDepth 100000 in
theorem jzl192 (xs : Nat → Int32) (hop : xs 0 &&& 31 = 31)  : jLoop (jRun ((4, xs) : jX) 2000 39) ((4, xs) : jX) jm18 1000 ((23, [(4, .int 0), (3, .ref 153), (2, .ref 66), (1, .ref 64), (0, .ref 63)], [], jzv181) : jS) = some (.inl (some (.int 1)), jzv181) := by
  refine jl_s (S' := ((25, [(4, .int 0), (3, .ref 153), (2, .ref 66), (1, .ref 64), (0, .ref 63)], [.int 0], jzv181) : jS)) rfl ?_
  refine jl_s (S' := ((26, [(4, .int 0), (3, .ref 153), (2, .ref 66), (1, .ref 64), (0, .ref 63)], [.ref 63, .int 0], jzv181) : jS)) rfl ?_
  refine jl_s (S' := ((27, [(4, .int 0), (3, .ref 153), (2, .ref 66), (1, .ref 64), (0, .ref 63)], [.int 4, .int 0], jzv181) : jS)) rfl ?_
  refine jl_s (S' := ((28, [(4, .int 0), (3, .ref 153), (2, .ref 66), (1, .ref 64), (0, .ref 63)], [.int 4, .int 4, .int 0], jzv181) : jS)) rfl ?_
  refine jl_s (S' := ((29, [(4, .int 0), (3, .ref 153), (2, .ref 66), (1, .ref 64), (0, .ref 63)], [.int 0, .int 0], jzv181) : jS)) rfl ?_
  refine jl_s (S' := ((32, [(4, .int 0), (3, .ref 153), (2, .ref 66), (1, .ref 64), (0, .ref 63)], [], jzv181) : jS)) rfl ?_
  refine jl_s (S' := ((33, [(4, .int 0), (3, .ref 153), (2, .ref 66), (1, .ref 64), (0, .ref 63)], [.ref 63], jzv181) : jS)) rfl ?_
  refine jl_s (S' := ((35, [(4, .int 0), (3, .ref 153), (2, .ref 66), (1, .ref 64), (0, .ref 63)], [.int 0, .ref 63], jzv181) : jS)) rfl ?_
  refine jl_s (S' := ((36, [(4, .int 0), (3, .ref 153), (2, .ref 66), (1, .ref 64), (0, .ref 63)], [.int (xs 0)], jzv181) : jS)) rfl ?_
  refine jl_s (S' := ((38, [(4, .int 0), (3, .ref 153), (2, .ref 66), (1, .ref 64), (0, .ref 63)], [.int 31, .int (xs 0)], jzv181) : jS)) rfl ?_
  refine jl_s (S' := ((39, [(4, .int 0), (3, .ref 153), (2, .ref 66), (1, .ref 64), (0, .ref 63)], [.int ((xs 0) &&& 31)], jzv181) : jS)) rfl ?_
  rw [hop]
  refine jl_s (S' := ((1193, [(4, .int 0), (3, .ref 153), (2, .ref 66), (1, .ref 64), (0, .ref 63)], [], jzv181) : jS)) rfl ?_
  refine jl_s (S' := ((1196, [(4, .int 4), (3, .ref 153), (2, .ref 66), (1, .ref 64), (0, .ref 63)], [], jzv181) : jS)) rfl ?_
  refine jl_s (S' := ((23, [(4, .int 4), (3, .ref 153), (2, .ref 66), (1, .ref 64), (0, .ref 63)], [], jzv181) : jS)) rfl ?_
  refine jl_s (S' := ((25, [(4, .int 4), (3, .ref 153), (2, .ref 66), (1, .ref 64), (0, .ref 63)], [.int 4], jzv181) : jS)) rfl ?_
  refine jl_s (S' := ((26, [(4, .int 4), (3, .ref 153), (2, .ref 66), (1, .ref 64), (0, .ref 63)], [.ref 63, .int 4], jzv181) : jS)) rfl ?_
  refine jl_s (S' := ((27, [(4, .int 4), (3, .ref 153), (2, .ref 66), (1, .ref 64), (0, .ref 63)], [.int 4, .int 4], jzv181) : jS)) rfl ?_
  refine jl_s (S' := ((28, [(4, .int 4), (3, .ref 153), (2, .ref 66), (1, .ref 64), (0, .ref 63)], [.int 4, .int 4, .int 4], jzv181) : jS)) rfl ?_
  refine jl_s (S' := ((29, [(4, .int 4), (3, .ref 153), (2, .ref 66), (1, .ref 64), (0, .ref 63)], [.int 0, .int 4], jzv181) : jS)) rfl ?_
  refine jl_s (S' := ((1199, [(4, .int 4), (3, .ref 153), (2, .ref 66), (1, .ref 64), (0, .ref 63)], [], jzv181) : jS)) rfl ?_
  refine jl_s (S' := ((1200, [(4, .int 4), (3, .ref 153), (2, .ref 66), (1, .ref 64), (0, .ref 63)], [.int 1], jzv181) : jS)) rfl ?_
  exact jl_r (r := (.inl (some (.int 1)), jzv181)) rfl
-- op 31 : jzl192
