
set_option maxHeartbeats 4000000 in
set_option maxRecDepth 100000 in
theorem jz_and (x : Int32) : ∃ n : Nat, n < 32 ∧ x &&& 31 = Int32.ofNat n := by
  refine ⟨x.toBitVec.toNat % 32, Nat.mod_lt _ (by decide), ?_⟩
  apply Int32.toBitVec_inj.mp
  rw [Int32.toBitVec_and]
  apply BitVec.eq_of_toNat_eq
  rw [BitVec.toNat_and]
  have h1 : (31 : Int32).toBitVec.toNat = 2 ^ 5 - 1 := by decide
  rw [h1, Nat.and_two_pow_sub_one_eq_mod, show (Int32.ofNat (x.toBitVec.toNat % 32)).toBitVec = BitVec.ofNat 32 (x.toBitVec.toNat % 32) from rfl, BitVec.toNat_ofNat]
  have := Nat.mod_lt x.toBitVec.toNat (show 0 < 32 by decide)
  omega
set_option maxHeartbeats 4000000 in
set_option maxRecDepth 100000 in
theorem jz_byte (x : Int32) : ∃ n : Nat, n < 256 ∧ x &&& 255 = Int32.ofNat n := by
  refine ⟨x.toBitVec.toNat % 256, Nat.mod_lt _ (by decide), ?_⟩
  apply Int32.toBitVec_inj.mp
  rw [Int32.toBitVec_and]
  apply BitVec.eq_of_toNat_eq
  rw [BitVec.toNat_and]
  have h1 : (255 : Int32).toBitVec.toNat = 2 ^ 8 - 1 := by decide
  rw [h1, Nat.and_two_pow_sub_one_eq_mod, show (Int32.ofNat (x.toBitVec.toNat % 256)).toBitVec = BitVec.ofNat 32 (x.toBitVec.toNat % 256) from rfl, BitVec.toNat_ofNat]
  have := Nat.mod_lt x.toBitVec.toNat (show 0 < 256 by decide)
  omega
set_option maxHeartbeats 4000000 in
set_option maxRecDepth 100000 in
theorem jz_shb (x : BitVec 32) (k : Nat) (hk : k ≤ 24) : x.sshiftRight k &&& 255#32 = x >>> k &&& 255#32 := by
  apply BitVec.eq_of_getLsbD_eq
  intro i hi
  rw [BitVec.getLsbD_and, BitVec.getLsbD_and, BitVec.getLsbD_sshiftRight, BitVec.getLsbD_ushiftRight]
  by_cases h : i < 8
  · rw [if_pos (by omega)]
    simp [show ¬ 32 ≤ i by omega]
  · have h255 : ∀ i : Nat, i < 32 → ¬ i < 8 → (255#32).getLsbD i = false := by decide
    rw [h255 i hi h]
    simp
set_option maxHeartbeats 4000000 in
set_option maxRecDepth 100000 in
theorem jz_cls0 : ∀ m : Nat, m < 256 → jbz (Int32.ofNat m) ∨ jbv (Int32.ofNat m) ∨ jbi (Int32.ofNat m) := by
  unfold jbz jbv jbi jbn
  decide +kernel
set_option maxHeartbeats 4000000 in
set_option maxRecDepth 100000 in
theorem jz_cls (x : Int32) : jbz (x &&& 255) ∨ jbv (x &&& 255) ∨ jbi (x &&& 255) := by
  obtain ⟨n, h, e⟩ := jz_byte x
  rw [e]
  exact jz_cls0 n h

set_option maxHeartbeats 4000000 in
set_option maxRecDepth 100000 in
theorem jz_sh0 (s : Int32) : ((s) >>> (0 &&& 31)) &&& 255 = ((Int32.toUInt32 (s) >>> (Int32.toUInt32 0 &&& Int32.toUInt32 31)).toInt32) &&& 255 := by
  apply Int32.toBitVec_inj.mp
  show (BitVec.sshiftRight s.toBitVec 0) &&& 255#32 = (s.toBitVec >>> 0) &&& 255#32
  exact jz_shb _ 0 (by decide)
set_option maxHeartbeats 4000000 in
set_option maxRecDepth 100000 in
theorem jz_sh1 (s : Int32) : ((s) >>> (8 &&& 31)) &&& 255 = ((Int32.toUInt32 (s) >>> (Int32.toUInt32 8 &&& Int32.toUInt32 31)).toInt32) &&& 255 := by
  apply Int32.toBitVec_inj.mp
  show (BitVec.sshiftRight s.toBitVec 8) &&& 255#32 = (s.toBitVec >>> 8) &&& 255#32
  exact jz_shb _ 8 (by decide)
set_option maxHeartbeats 4000000 in
set_option maxRecDepth 100000 in
theorem jz_sh2 (s : Int32) : ((s) >>> (16 &&& 31)) &&& 255 = ((Int32.toUInt32 (s) >>> (Int32.toUInt32 16 &&& Int32.toUInt32 31)).toInt32) &&& 255 := by
  apply Int32.toBitVec_inj.mp
  show (BitVec.sshiftRight s.toBitVec 16) &&& 255#32 = (s.toBitVec >>> 16) &&& 255#32
  exact jz_shb _ 16 (by decide)
set_option maxHeartbeats 4000000 in
set_option maxRecDepth 100000 in
theorem jz_sh3 (s : Int32) : ((s) >>> (24 &&& 31)) &&& 255 = ((Int32.toUInt32 (s) >>> (Int32.toUInt32 24 &&& Int32.toUInt32 31)).toInt32) &&& 255 := by
  apply Int32.toBitVec_inj.mp
  show (BitVec.sshiftRight s.toBitVec 24) &&& 255#32 = (s.toBitVec >>> 24) &&& 255#32
  exact jz_shb _ 24 (by decide)
set_option maxHeartbeats 4000000 in
set_option maxRecDepth 100000 in
theorem jz_law {X : jX} {r : jO × jH} (h : jLoop (jRun X 2000 39) X jm18 1000 ((23, [(4, .int 0), (3, .ref 153), (2, .ref 66), (1, .ref 64), (0, .ref 63)], [], jzv181) : jS) = some r) : jRun X 2000 40 18 [.ref 63] [] = some r := by
  refine jr_run (e := jm18) rfl (Nat.le_of_ble_eq_true rfl) ?_
  exact (jzl3 X 1987).trans (jl_more (k := 987) h)
/-- what is asked of J, of scripts of at most 4 ints -/
def jGoal4 : Prop := ∀ (L : Nat) (xs : Nat → Int32), L ≤ 4 → ∃ (fu d : Nat) (VF : jH), d + 1 ≤ 1300 ∧ jRun (L, xs) fu (d + 1) 18 [.ref 63] [] = some (.inl (some (.int 1)), VF) ∧ VF.length ≤ 600002 ∧ jSl VF ≤ 7302232
def jzOK (X : jX) : Prop := ∃ (fu d : Nat) (VF : jH), d + 1 ≤ 1300 ∧ jRun X fu (d + 1) 18 [.ref 63] [] = some (.inl (some (.int 1)), VF) ∧ VF.length ≤ 600002 ∧ jSl VF ≤ 7302232
set_option maxHeartbeats 4000000 in
set_option maxRecDepth 100000 in
theorem jz_ok {X : jX} {VF : jH} (h : jLoop (jRun X 2000 39) X jm18 1000 ((23, [(4, .int 0), (3, .ref 153), (2, .ref 66), (1, .ref 64), (0, .ref 63)], [], jzv181) : jS) = some (.inl (some (.int 1)), VF)) (h1 : Nat.ble VF.length 600002 = true) (h2 : Nat.ble (jSl VF) 7302232 = true) : jzOK X := ⟨2000, 39, VF, by decide, jz_law h, Nat.le_of_ble_eq_true h1, Nat.le_of_ble_eq_true h2⟩
set_option maxHeartbeats 4000000 in
set_option maxRecDepth 100000 in
theorem jz_L0 (xs : Nat → Int32) : jzOK (0, xs) := jz_ok (jzl193 xs) (by decide +kernel) (by decide +kernel)
set_option maxHeartbeats 4000000 in
set_option maxRecDepth 100000 in
theorem jz_L1 (xs : Nat → Int32) : jzOK (1, xs) := jz_ok (jzl194 xs) (by decide +kernel) (by decide +kernel)
set_option maxHeartbeats 4000000 in
set_option maxRecDepth 100000 in
theorem jz_L2 (xs : Nat → Int32) : jzOK (2, xs) := jz_ok (jzl195 xs) (by decide +kernel) (by decide +kernel)
set_option maxHeartbeats 4000000 in
set_option maxRecDepth 100000 in
theorem jz_L3 (xs : Nat → Int32) : jzOK (3, xs) := jz_ok (jzl196 xs) (by decide +kernel) (by decide +kernel)
set_option maxHeartbeats 4000000 in
set_option maxRecDepth 100000 in
theorem jz_o1_n (xs : Nat → Int32) (hop : xs 0 &&& 31 = 1) (h1 : Op.ifCond.holds .lt (xs 1) = true) (h2 : Op.if_icmp.holds .lt (xs 1) 0 = true) : jzOK (4, xs) := jz_ok (jzl10 xs hop h1 h2) (by decide +kernel) (by decide +kernel)
set_option maxHeartbeats 4000000 in
set_option maxRecDepth 100000 in
theorem jz_o1_p (xs : Nat → Int32) (hop : xs 0 &&& 31 = 1) (h1 : Op.ifCond.holds .lt (xs 1) = false) (h2 : Op.if_icmp.holds .le (xs 1) 0 = false) (h3 : Op.if_icmp.holds .lt (xs 1) 0 = false) (h4 : Op.if_icmp.holds .gt (xs 1) 0 = true) : jzOK (4, xs) := jz_ok (jzl17 xs hop h1 h2 h3 h4) (by decide +kernel) (by decide +kernel)
set_option maxHeartbeats 4000000 in
set_option maxRecDepth 100000 in
theorem jz_o1_0 (xs : Nat → Int32) (hop : xs 0 &&& 31 = 1)  (hw : xs 1 = 0) : jzOK (4, xs) := jz_ok (jzl24 xs hop  hw) (by decide +kernel) (by decide +kernel)
set_option maxHeartbeats 4000000 in
set_option maxRecDepth 100000 in
theorem jz_o2 (xs : Nat → Int32) (hop : xs 0 &&& 31 = 2) : jzOK (4, xs) := jz_ok (jzl258 xs hop) (by decide +kernel) (by decide +kernel)
set_option maxHeartbeats 4000000 in
set_option maxRecDepth 100000 in
theorem jz_o3_n (xs : Nat → Int32) (hop : xs 0 &&& 31 = 3) (h1 : Op.ifCond.holds .lt (xs 1) = true) (h2 : Op.if_icmp.holds .lt (xs 1) 0 = true) : jzOK (4, xs) := jz_ok (jzl31 xs hop h1 h2) (by decide +kernel) (by decide +kernel)
set_option maxHeartbeats 4000000 in
set_option maxRecDepth 100000 in
theorem jz_o3_p (xs : Nat → Int32) (hop : xs 0 &&& 31 = 3) (h1 : Op.ifCond.holds .lt (xs 1) = false) (h2 : Op.if_icmp.holds .le (xs 1) 2 = false) (h3 : Op.if_icmp.holds .lt (xs 1) 0 = false) (h4 : Op.if_icmp.holds .gt (xs 1) 2 = true) : jzOK (4, xs) := jz_ok (jzl38 xs hop h1 h2 h3 h4) (by decide +kernel) (by decide +kernel)
set_option maxHeartbeats 4000000 in
set_option maxRecDepth 100000 in
theorem jz_o3_0 (xs : Nat → Int32) (hop : xs 0 &&& 31 = 3)  (hw : xs 1 = 0) : jzOK (4, xs) := jz_ok (jzl45 xs hop  hw) (by decide +kernel) (by decide +kernel)
set_option maxHeartbeats 4000000 in
set_option maxRecDepth 100000 in
theorem jz_o3_1 (xs : Nat → Int32) (hop : xs 0 &&& 31 = 3)  (hw : xs 1 = 1) : jzOK (4, xs) := jz_ok (jzl52 xs hop  hw) (by decide +kernel) (by decide +kernel)
set_option maxHeartbeats 4000000 in
set_option maxRecDepth 100000 in
theorem jz_o3_2 (xs : Nat → Int32) (hop : xs 0 &&& 31 = 3)  (hw : xs 1 = 2) : jzOK (4, xs) := jz_ok (jzl59 xs hop  hw) (by decide +kernel) (by decide +kernel)
set_option maxHeartbeats 4000000 in
set_option maxRecDepth 100000 in
theorem jz_o4 (xs : Nat → Int32) (hop : xs 0 &&& 31 = 4) : jzOK (4, xs) := jz_ok (jzl67 xs hop) (by decide +kernel) (by decide +kernel)
set_option maxHeartbeats 4000000 in
set_option maxRecDepth 100000 in
theorem jz_o5 (xs : Nat → Int32) (hop : xs 0 &&& 31 = 5) : jzOK (4, xs) := jz_ok (jzl75 xs hop) (by decide +kernel) (by decide +kernel)
set_option maxHeartbeats 4000000 in
set_option maxRecDepth 100000 in
theorem jz_o6 (xs : Nat → Int32) (hop : xs 0 &&& 31 = 6) : jzOK (4, xs) := jz_ok (jzl82 xs hop) (by decide +kernel) (by decide +kernel)
set_option maxHeartbeats 4000000 in
set_option maxRecDepth 100000 in
theorem jz_o7_n (xs : Nat → Int32) (hop : xs 0 &&& 31 = 7) (h1 : Op.if_icmp.holds .lt (xs 1) 0 = true) : jzOK (4, xs) := jz_ok (jzl90 xs hop h1) (by decide +kernel) (by decide +kernel)
set_option maxHeartbeats 4000000 in
set_option maxRecDepth 100000 in
theorem jz_o7_p (xs : Nat → Int32) (hop : xs 0 &&& 31 = 7) (h1 : Op.if_icmp.holds .lt (xs 1) 0 = false) (h2 : Op.if_icmp.holds .gt (xs 1) (-1) = true) : jzOK (4, xs) := jz_ok (jzl98 xs hop h1 h2) (by decide +kernel) (by decide +kernel)
set_option maxHeartbeats 4000000 in
set_option maxRecDepth 100000 in
theorem jz_o8 (xs : Nat → Int32) (hop : xs 0 &&& 31 = 8) : jzOK (4, xs) := jz_ok (jzl105 xs hop) (by decide +kernel) (by decide +kernel)
set_option maxHeartbeats 4000000 in
set_option maxRecDepth 100000 in
theorem jz_o9 (xs : Nat → Int32) (hop : xs 0 &&& 31 = 9) : jzOK (4, xs) := jz_ok (jzl112 xs hop) (by decide +kernel) (by decide +kernel)
set_option maxHeartbeats 4000000 in
set_option maxRecDepth 100000 in
theorem jz_o10 (xs : Nat → Int32) (hop : xs 0 &&& 31 = 10) : jzOK (4, xs) := jz_ok (jzl120 xs hop) (by decide +kernel) (by decide +kernel)
set_option maxHeartbeats 4000000 in
set_option maxRecDepth 100000 in
theorem jz_o11 (xs : Nat → Int32) (hop : xs 0 &&& 31 = 11) : jzOK (4, xs) := jz_ok (jzl127 xs hop) (by decide +kernel) (by decide +kernel)
set_option maxHeartbeats 4000000 in
set_option maxRecDepth 100000 in
theorem jz_o12 (xs : Nat → Int32) (hop : xs 0 &&& 31 = 12) : jzOK (4, xs) := jz_ok (jzl134 xs hop) (by decide +kernel) (by decide +kernel)
set_option maxHeartbeats 4000000 in
set_option maxRecDepth 100000 in
theorem jz_o13 (xs : Nat → Int32) (hop : xs 0 &&& 31 = 13) : jzOK (4, xs) := jz_ok (jzl141 xs hop) (by decide +kernel) (by decide +kernel)
set_option maxHeartbeats 4000000 in
set_option maxRecDepth 100000 in
theorem jz_o14 (xs : Nat → Int32) (hop : xs 0 &&& 31 = 14) : jzOK (4, xs) := jz_ok (jzl149 xs hop) (by decide +kernel) (by decide +kernel)
set_option maxHeartbeats 4000000 in
set_option maxRecDepth 100000 in
theorem jz_o15 (xs : Nat → Int32) (hop : xs 0 &&& 31 = 15) : jzOK (4, xs) := jz_ok (jzl157 xs hop) (by decide +kernel) (by decide +kernel)
set_option maxHeartbeats 4000000 in
set_option maxRecDepth 100000 in
theorem jz_o16 (xs : Nat → Int32) (hop : xs 0 &&& 31 = 16) : jzOK (4, xs) := jz_ok (jzl165 xs hop) (by decide +kernel) (by decide +kernel)
set_option maxHeartbeats 4000000 in
set_option maxRecDepth 100000 in
theorem jz_o17 (xs : Nat → Int32) (hop : xs 0 &&& 31 = 17) : jzOK (4, xs) := jz_ok (jzl172 xs hop) (by decide +kernel) (by decide +kernel)
set_option maxHeartbeats 4000000 in
set_option maxRecDepth 100000 in
theorem jz_o18 (xs : Nat → Int32) (hop : xs 0 &&& 31 = 18) : jzOK (4, xs) := jz_ok (jzl179 xs hop) (by decide +kernel) (by decide +kernel)
set_option maxHeartbeats 4000000 in
set_option maxRecDepth 100000 in
theorem jz_o19 (xs : Nat → Int32) (hop : xs 0 &&& 31 = 19) : jzOK (4, xs) := jz_ok (jzl180 xs hop) (by decide +kernel) (by decide +kernel)
set_option maxHeartbeats 4000000 in
set_option maxRecDepth 100000 in
theorem jz_o20 (xs : Nat → Int32) (hop : xs 0 &&& 31 = 20) : jzOK (4, xs) := jz_ok (jzl181 xs hop) (by decide +kernel) (by decide +kernel)
set_option maxHeartbeats 4000000 in
set_option maxRecDepth 100000 in
theorem jz_o21 (xs : Nat → Int32) (hop : xs 0 &&& 31 = 21) : jzOK (4, xs) := jz_ok (jzl182 xs hop) (by decide +kernel) (by decide +kernel)
set_option maxHeartbeats 4000000 in
set_option maxRecDepth 100000 in
theorem jz_o22 (xs : Nat → Int32) (hop : xs 0 &&& 31 = 22) : jzOK (4, xs) := jz_ok (jzl183 xs hop) (by decide +kernel) (by decide +kernel)
set_option maxHeartbeats 4000000 in
set_option maxRecDepth 100000 in
theorem jz_o23 (xs : Nat → Int32) (hop : xs 0 &&& 31 = 23) : jzOK (4, xs) := jz_ok (jzl184 xs hop) (by decide +kernel) (by decide +kernel)
set_option maxHeartbeats 4000000 in
set_option maxRecDepth 100000 in
theorem jz_o24 (xs : Nat → Int32) (hop : xs 0 &&& 31 = 24) : jzOK (4, xs) := jz_ok (jzl185 xs hop) (by decide +kernel) (by decide +kernel)
set_option maxHeartbeats 4000000 in
set_option maxRecDepth 100000 in
theorem jz_o25 (xs : Nat → Int32) (hop : xs 0 &&& 31 = 25) : jzOK (4, xs) := jz_ok (jzl186 xs hop) (by decide +kernel) (by decide +kernel)
set_option maxHeartbeats 4000000 in
set_option maxRecDepth 100000 in
theorem jz_o26 (xs : Nat → Int32) (hop : xs 0 &&& 31 = 26) : jzOK (4, xs) := jz_ok (jzl187 xs hop) (by decide +kernel) (by decide +kernel)
set_option maxHeartbeats 4000000 in
set_option maxRecDepth 100000 in
theorem jz_o27 (xs : Nat → Int32) (hop : xs 0 &&& 31 = 27) : jzOK (4, xs) := jz_ok (jzl188 xs hop) (by decide +kernel) (by decide +kernel)
set_option maxHeartbeats 4000000 in
set_option maxRecDepth 100000 in
theorem jz_o28 (xs : Nat → Int32) (hop : xs 0 &&& 31 = 28) : jzOK (4, xs) := jz_ok (jzl189 xs hop) (by decide +kernel) (by decide +kernel)
set_option maxHeartbeats 4000000 in
set_option maxRecDepth 100000 in
theorem jz_o29 (xs : Nat → Int32) (hop : xs 0 &&& 31 = 29) : jzOK (4, xs) := jz_ok (jzl190 xs hop) (by decide +kernel) (by decide +kernel)
set_option maxHeartbeats 4000000 in
set_option maxRecDepth 100000 in
theorem jz_o30 (xs : Nat → Int32) (hop : xs 0 &&& 31 = 30) : jzOK (4, xs) := jz_ok (jzl191 xs hop) (by decide +kernel) (by decide +kernel)
set_option maxHeartbeats 4000000 in
set_option maxRecDepth 100000 in
theorem jz_o31 (xs : Nat → Int32) (hop : xs 0 &&& 31 = 31) : jzOK (4, xs) := jz_ok (jzl192 xs hop) (by decide +kernel) (by decide +kernel)
set_option maxHeartbeats 4000000 in
set_option maxRecDepth 100000 in
theorem jz_o0_ZZZZ (xs : Nat → Int32) (hop : xs 0 &&& 31 = 0) (b0 b1 b2 b3 : Int32) (e0 : ((Int32.toUInt32 (xs 1) >>> (Int32.toUInt32 0 &&& Int32.toUInt32 31)).toInt32) &&& 255 = b0) (e1 : ((Int32.toUInt32 (xs 1) >>> (Int32.toUInt32 8 &&& Int32.toUInt32 31)).toInt32) &&& 255 = b1) (e2 : ((Int32.toUInt32 (xs 1) >>> (Int32.toUInt32 16 &&& Int32.toUInt32 31)).toInt32) &&& 255 = b2) (e3 : ((Int32.toUInt32 (xs 1) >>> (Int32.toUInt32 24 &&& Int32.toUInt32 31)).toInt32) &&& 255 = b3) (g0 : ((xs 1) >>> (0 &&& 31)) &&& 255 = b0) (g1 : ((xs 1) >>> (8 &&& 31)) &&& 255 = b1) (g2 : ((xs 1) >>> (16 &&& 31)) &&& 255 = b2) (g3 : ((xs 1) >>> (24 &&& 31)) &&& 255 = b3) (h0 : jbz b0) (h1 : jbz b1) (h2 : jbz b2) (h3 : jbz b3) : jzOK (4, xs) := jz_ok (jzl529 xs hop b0 b1 b2 b3 e0 e1 e2 e3 g0 g1 g2 g3 h0 h1 h2 h3) (by decide +kernel) (by decide +kernel)
set_option maxHeartbeats 4000000 in
set_option maxRecDepth 100000 in
theorem jzc181_s (b0 b1 b2 b3 : Int32) : jSl1 (jzc181 b0 b1 b2 b3) = 3000 := rfl
set_option maxHeartbeats 4000000 in
set_option maxRecDepth 100000 in
theorem jzc201_s (b0 b1 b2 b3 : Int32) : jSl1 (jzc201 b0 b1 b2 b3) = 3000 := rfl
set_option maxHeartbeats 4000000 in
set_option maxRecDepth 100000 in
theorem jz_sl_ZZZV (b0 b1 b2 b3 : Int32) : Nat.ble (jSl (jzv293 b0 b1 b2 b3)) 7302232 = true := by
  unfold jSl jzv293
  simp only [List.map_cons, List.map_nil, jzc181_s, jzc201_s]
  decide +kernel
set_option maxHeartbeats 4000000 in
set_option maxRecDepth 100000 in
theorem jz_o0_ZZZV (xs : Nat → Int32) (hop : xs 0 &&& 31 = 0) (b0 b1 b2 b3 : Int32) (e0 : ((Int32.toUInt32 (xs 1) >>> (Int32.toUInt32 0 &&& Int32.toUInt32 31)).toInt32) &&& 255 = b0) (e1 : ((Int32.toUInt32 (xs 1) >>> (Int32.toUInt32 8 &&& Int32.toUInt32 31)).toInt32) &&& 255 = b1) (e2 : ((Int32.toUInt32 (xs 1) >>> (Int32.toUInt32 16 &&& Int32.toUInt32 31)).toInt32) &&& 255 = b2) (e3 : ((Int32.toUInt32 (xs 1) >>> (Int32.toUInt32 24 &&& Int32.toUInt32 31)).toInt32) &&& 255 = b3) (g0 : ((xs 1) >>> (0 &&& 31)) &&& 255 = b0) (g1 : ((xs 1) >>> (8 &&& 31)) &&& 255 = b1) (g2 : ((xs 1) >>> (16 &&& 31)) &&& 255 = b2) (g3 : ((xs 1) >>> (24 &&& 31)) &&& 255 = b3) (h0 : jbz b0) (h1 : jbz b1) (h2 : jbz b2) (h3 : jbv b3) : jzOK (4, xs) := jz_ok (jzl547 xs hop b0 b1 b2 b3 e0 e1 e2 e3 g0 g1 g2 g3 h0 h1 h2 h3) rfl (jz_sl_ZZZV b0 b1 b2 b3)
set_option maxHeartbeats 4000000 in
set_option maxRecDepth 100000 in
theorem jzc183_s (b0 b1 b2 b3 : Int32) : jSl1 (jzc183 b0 b1 b2 b3) = 3000 := rfl
set_option maxHeartbeats 4000000 in
set_option maxRecDepth 100000 in
theorem jzc203_s (b0 b1 b2 b3 : Int32) : jSl1 (jzc203 b0 b1 b2 b3) = 3000 := rfl
set_option maxHeartbeats 4000000 in
set_option maxRecDepth 100000 in
theorem jz_sl_ZZVZ (b0 b1 b2 b3 : Int32) : Nat.ble (jSl (jzv296 b0 b1 b2 b3)) 7302232 = true := by
  unfold jSl jzv296
  simp only [List.map_cons, List.map_nil, jzc183_s, jzc203_s]
  decide +kernel
set_option maxHeartbeats 4000000 in
set_option maxRecDepth 100000 in
theorem jz_o0_ZZVZ (xs : Nat → Int32) (hop : xs 0 &&& 31 = 0) (b0 b1 b2 b3 : Int32) (e0 : ((Int32.toUInt32 (xs 1) >>> (Int32.toUInt32 0 &&& Int32.toUInt32 31)).toInt32) &&& 255 = b0) (e1 : ((Int32.toUInt32 (xs 1) >>> (Int32.toUInt32 8 &&& Int32.toUInt32 31)).toInt32) &&& 255 = b1) (e2 : ((Int32.toUInt32 (xs 1) >>> (Int32.toUInt32 16 &&& Int32.toUInt32 31)).toInt32) &&& 255 = b2) (e3 : ((Int32.toUInt32 (xs 1) >>> (Int32.toUInt32 24 &&& Int32.toUInt32 31)).toInt32) &&& 255 = b3) (g0 : ((xs 1) >>> (0 &&& 31)) &&& 255 = b0) (g1 : ((xs 1) >>> (8 &&& 31)) &&& 255 = b1) (g2 : ((xs 1) >>> (16 &&& 31)) &&& 255 = b2) (g3 : ((xs 1) >>> (24 &&& 31)) &&& 255 = b3) (h0 : jbz b0) (h1 : jbz b1) (h2 : jbv b2) (h3 : jbz b3) : jzOK (4, xs) := jz_ok (jzl567 xs hop b0 b1 b2 b3 e0 e1 e2 e3 g0 g1 g2 g3 h0 h1 h2 h3) rfl (jz_sl_ZZVZ b0 b1 b2 b3)
set_option maxHeartbeats 4000000 in
set_option maxRecDepth 100000 in
theorem jzc184_s (b0 b1 b2 b3 : Int32) : jSl1 (jzc184 b0 b1 b2 b3) = 3000 := rfl
set_option maxHeartbeats 4000000 in
set_option maxRecDepth 100000 in
theorem jzc205_s (b0 b1 b2 b3 : Int32) : jSl1 (jzc205 b0 b1 b2 b3) = 3000 := rfl
set_option maxHeartbeats 4000000 in
set_option maxRecDepth 100000 in
theorem jz_sl_ZZVV (b0 b1 b2 b3 : Int32) : Nat.ble (jSl (jzv301 b0 b1 b2 b3)) 7302232 = true := by
  unfold jSl jzv301
  simp only [List.map_cons, List.map_nil, jzc184_s, jzc205_s]
  decide +kernel
set_option maxHeartbeats 4000000 in
set_option maxRecDepth 100000 in
theorem jz_o0_ZZVV (xs : Nat → Int32) (hop : xs 0 &&& 31 = 0) (b0 b1 b2 b3 : Int32) (e0 : ((Int32.toUInt32 (xs 1) >>> (Int32.toUInt32 0 &&& Int32.toUInt32 31)).toInt32) &&& 255 = b0) (e1 : ((Int32.toUInt32 (xs 1) >>> (Int32.toUInt32 8 &&& Int32.toUInt32 31)).toInt32) &&& 255 = b1) (e2 : ((Int32.toUInt32 (xs 1) >>> (Int32.toUInt32 16 &&& Int32.toUInt32 31)).toInt32) &&& 255 = b2) (e3 : ((Int32.toUInt32 (xs 1) >>> (Int32.toUInt32 24 &&& Int32.toUInt32 31)).toInt32) &&& 255 = b3) (g0 : ((xs 1) >>> (0 &&& 31)) &&& 255 = b0) (g1 : ((xs 1) >>> (8 &&& 31)) &&& 255 = b1) (g2 : ((xs 1) >>> (16 &&& 31)) &&& 255 = b2) (g3 : ((xs 1) >>> (24 &&& 31)) &&& 255 = b3) (h0 : jbz b0) (h1 : jbz b1) (h2 : jbv b2) (h3 : jbv b3) : jzOK (4, xs) := jz_ok (jzl585 xs hop b0 b1 b2 b3 e0 e1 e2 e3 g0 g1 g2 g3 h0 h1 h2 h3) rfl (jz_sl_ZZVV b0 b1 b2 b3)
set_option maxHeartbeats 4000000 in
set_option maxRecDepth 100000 in
theorem jzc186_s (b0 b1 b2 b3 : Int32) : jSl1 (jzc186 b0 b1 b2 b3) = 3000 := rfl
set_option maxHeartbeats 4000000 in
set_option maxRecDepth 100000 in
theorem jzc207_s (b0 b1 b2 b3 : Int32) : jSl1 (jzc207 b0 b1 b2 b3) = 3000 := rfl
set_option maxHeartbeats 4000000 in
set_option maxRecDepth 100000 in
theorem jz_sl_ZVZZ (b0 b1 b2 b3 : Int32) : Nat.ble (jSl (jzv304 b0 b1 b2 b3)) 7302232 = true := by
  unfold jSl jzv304
  simp only [List.map_cons, List.map_nil, jzc186_s, jzc207_s]
  decide +kernel
set_option maxHeartbeats 4000000 in
set_option maxRecDepth 100000 in
theorem jz_o0_ZVZZ (xs : Nat → Int32) (hop : xs 0 &&& 31 = 0) (b0 b1 b2 b3 : Int32) (e0 : ((Int32.toUInt32 (xs 1) >>> (Int32.toUInt32 0 &&& Int32.toUInt32 31)).toInt32) &&& 255 = b0) (e1 : ((Int32.toUInt32 (xs 1) >>> (Int32.toUInt32 8 &&& Int32.toUInt32 31)).toInt32) &&& 255 = b1) (e2 : ((Int32.toUInt32 (xs 1) >>> (Int32.toUInt32 16 &&& Int32.toUInt32 31)).toInt32) &&& 255 = b2) (e3 : ((Int32.toUInt32 (xs 1) >>> (Int32.toUInt32 24 &&& Int32.toUInt32 31)).toInt32) &&& 255 = b3) (g0 : ((xs 1) >>> (0 &&& 31)) &&& 255 = b0) (g1 : ((xs 1) >>> (8 &&& 31)) &&& 255 = b1) (g2 : ((xs 1) >>> (16 &&& 31)) &&& 255 = b2) (g3 : ((xs 1) >>> (24 &&& 31)) &&& 255 = b3) (h0 : jbz b0) (h1 : jbv b1) (h2 : jbz b2) (h3 : jbz b3) : jzOK (4, xs) := jz_ok (jzl605 xs hop b0 b1 b2 b3 e0 e1 e2 e3 g0 g1 g2 g3 h0 h1 h2 h3) rfl (jz_sl_ZVZZ b0 b1 b2 b3)
set_option maxHeartbeats 4000000 in
set_option maxRecDepth 100000 in
theorem jzc187_s (b0 b1 b2 b3 : Int32) : jSl1 (jzc187 b0 b1 b2 b3) = 3000 := rfl
set_option maxHeartbeats 4000000 in
set_option maxRecDepth 100000 in
theorem jzc208_s (b0 b1 b2 b3 : Int32) : jSl1 (jzc208 b0 b1 b2 b3) = 3000 := rfl
set_option maxHeartbeats 4000000 in
set_option maxRecDepth 100000 in
theorem jz_sl_ZVZV (b0 b1 b2 b3 : Int32) : Nat.ble (jSl (jzv309 b0 b1 b2 b3)) 7302232 = true := by
  unfold jSl jzv309
  simp only [List.map_cons, List.map_nil, jzc187_s, jzc208_s]
  decide +kernel
set_option maxHeartbeats 4000000 in
set_option maxRecDepth 100000 in
theorem jz_o0_ZVZV (xs : Nat → Int32) (hop : xs 0 &&& 31 = 0) (b0 b1 b2 b3 : Int32) (e0 : ((Int32.toUInt32 (xs 1) >>> (Int32.toUInt32 0 &&& Int32.toUInt32 31)).toInt32) &&& 255 = b0) (e1 : ((Int32.toUInt32 (xs 1) >>> (Int32.toUInt32 8 &&& Int32.toUInt32 31)).toInt32) &&& 255 = b1) (e2 : ((Int32.toUInt32 (xs 1) >>> (Int32.toUInt32 16 &&& Int32.toUInt32 31)).toInt32) &&& 255 = b2) (e3 : ((Int32.toUInt32 (xs 1) >>> (Int32.toUInt32 24 &&& Int32.toUInt32 31)).toInt32) &&& 255 = b3) (g0 : ((xs 1) >>> (0 &&& 31)) &&& 255 = b0) (g1 : ((xs 1) >>> (8 &&& 31)) &&& 255 = b1) (g2 : ((xs 1) >>> (16 &&& 31)) &&& 255 = b2) (g3 : ((xs 1) >>> (24 &&& 31)) &&& 255 = b3) (h0 : jbz b0) (h1 : jbv b1) (h2 : jbz b2) (h3 : jbv b3) : jzOK (4, xs) := jz_ok (jzl621 xs hop b0 b1 b2 b3 e0 e1 e2 e3 g0 g1 g2 g3 h0 h1 h2 h3) rfl (jz_sl_ZVZV b0 b1 b2 b3)
set_option maxHeartbeats 4000000 in
set_option maxRecDepth 100000 in
theorem jzc188_s (b0 b1 b2 b3 : Int32) : jSl1 (jzc188 b0 b1 b2 b3) = 3000 := rfl
set_option maxHeartbeats 4000000 in
set_option maxRecDepth 100000 in
theorem jzc209_s (b0 b1 b2 b3 : Int32) : jSl1 (jzc209 b0 b1 b2 b3) = 3000 := rfl
set_option maxHeartbeats 4000000 in
set_option maxRecDepth 100000 in
theorem jz_sl_ZVVZ (b0 b1 b2 b3 : Int32) : Nat.ble (jSl (jzv314 b0 b1 b2 b3)) 7302232 = true := by
  unfold jSl jzv314
  simp only [List.map_cons, List.map_nil, jzc188_s, jzc209_s]
  decide +kernel
set_option maxHeartbeats 4000000 in
set_option maxRecDepth 100000 in
theorem jz_o0_ZVVZ (xs : Nat → Int32) (hop : xs 0 &&& 31 = 0) (b0 b1 b2 b3 : Int32) (e0 : ((Int32.toUInt32 (xs 1) >>> (Int32.toUInt32 0 &&& Int32.toUInt32 31)).toInt32) &&& 255 = b0) (e1 : ((Int32.toUInt32 (xs 1) >>> (Int32.toUInt32 8 &&& Int32.toUInt32 31)).toInt32) &&& 255 = b1) (e2 : ((Int32.toUInt32 (xs 1) >>> (Int32.toUInt32 16 &&& Int32.toUInt32 31)).toInt32) &&& 255 = b2) (e3 : ((Int32.toUInt32 (xs 1) >>> (Int32.toUInt32 24 &&& Int32.toUInt32 31)).toInt32) &&& 255 = b3) (g0 : ((xs 1) >>> (0 &&& 31)) &&& 255 = b0) (g1 : ((xs 1) >>> (8 &&& 31)) &&& 255 = b1) (g2 : ((xs 1) >>> (16 &&& 31)) &&& 255 = b2) (g3 : ((xs 1) >>> (24 &&& 31)) &&& 255 = b3) (h0 : jbz b0) (h1 : jbv b1) (h2 : jbv b2) (h3 : jbz b3) : jzOK (4, xs) := jz_ok (jzl641 xs hop b0 b1 b2 b3 e0 e1 e2 e3 g0 g1 g2 g3 h0 h1 h2 h3) rfl (jz_sl_ZVVZ b0 b1 b2 b3)
set_option maxHeartbeats 4000000 in
set_option maxRecDepth 100000 in
theorem jzc189_s (b0 b1 b2 b3 : Int32) : jSl1 (jzc189 b0 b1 b2 b3) = 3000 := rfl
set_option maxHeartbeats 4000000 in
set_option maxRecDepth 100000 in
theorem jzc211_s (b0 b1 b2 b3 : Int32) : jSl1 (jzc211 b0 b1 b2 b3) = 3000 := rfl
set_option maxHeartbeats 4000000 in
set_option maxRecDepth 100000 in
theorem jz_sl_ZVVV (b0 b1 b2 b3 : Int32) : Nat.ble (jSl (jzv321 b0 b1 b2 b3)) 7302232 = true := by
  unfold jSl jzv321
  simp only [List.map_cons, List.map_nil, jzc189_s, jzc211_s]
  decide +kernel
set_option maxHeartbeats 4000000 in
set_option maxRecDepth 100000 in
theorem jz_o0_ZVVV (xs : Nat → Int32) (hop : xs 0 &&& 31 = 0) (b0 b1 b2 b3 : Int32) (e0 : ((Int32.toUInt32 (xs 1) >>> (Int32.toUInt32 0 &&& Int32.toUInt32 31)).toInt32) &&& 255 = b0) (e1 : ((Int32.toUInt32 (xs 1) >>> (Int32.toUInt32 8 &&& Int32.toUInt32 31)).toInt32) &&& 255 = b1) (e2 : ((Int32.toUInt32 (xs 1) >>> (Int32.toUInt32 16 &&& Int32.toUInt32 31)).toInt32) &&& 255 = b2) (e3 : ((Int32.toUInt32 (xs 1) >>> (Int32.toUInt32 24 &&& Int32.toUInt32 31)).toInt32) &&& 255 = b3) (g0 : ((xs 1) >>> (0 &&& 31)) &&& 255 = b0) (g1 : ((xs 1) >>> (8 &&& 31)) &&& 255 = b1) (g2 : ((xs 1) >>> (16 &&& 31)) &&& 255 = b2) (g3 : ((xs 1) >>> (24 &&& 31)) &&& 255 = b3) (h0 : jbz b0) (h1 : jbv b1) (h2 : jbv b2) (h3 : jbv b3) : jzOK (4, xs) := jz_ok (jzl659 xs hop b0 b1 b2 b3 e0 e1 e2 e3 g0 g1 g2 g3 h0 h1 h2 h3) rfl (jz_sl_ZVVV b0 b1 b2 b3)
set_option maxHeartbeats 4000000 in
set_option maxRecDepth 100000 in
theorem jzc191_s (b0 b1 b2 b3 : Int32) : jSl1 (jzc191 b0 b1 b2 b3) = 3000 := rfl
set_option maxHeartbeats 4000000 in
set_option maxRecDepth 100000 in
theorem jzc213_s (b0 b1 b2 b3 : Int32) : jSl1 (jzc213 b0 b1 b2 b3) = 3000 := rfl
set_option maxHeartbeats 4000000 in
set_option maxRecDepth 100000 in
theorem jz_sl_VZZZ (b0 b1 b2 b3 : Int32) : Nat.ble (jSl (jzv324 b0 b1 b2 b3)) 7302232 = true := by
  unfold jSl jzv324
  simp only [List.map_cons, List.map_nil, jzc191_s, jzc213_s]
  decide +kernel
set_option maxHeartbeats 4000000 in
set_option maxRecDepth 100000 in
theorem jz_o0_VZZZ (xs : Nat → Int32) (hop : xs 0 &&& 31 = 0) (b0 b1 b2 b3 : Int32) (e0 : ((Int32.toUInt32 (xs 1) >>> (Int32.toUInt32 0 &&& Int32.toUInt32 31)).toInt32) &&& 255 = b0) (e1 : ((Int32.toUInt32 (xs 1) >>> (Int32.toUInt32 8 &&& Int32.toUInt32 31)).toInt32) &&& 255 = b1) (e2 : ((Int32.toUInt32 (xs 1) >>> (Int32.toUInt32 16 &&& Int32.toUInt32 31)).toInt32) &&& 255 = b2) (e3 : ((Int32.toUInt32 (xs 1) >>> (Int32.toUInt32 24 &&& Int32.toUInt32 31)).toInt32) &&& 255 = b3) (g0 : ((xs 1) >>> (0 &&& 31)) &&& 255 = b0) (g1 : ((xs 1) >>> (8 &&& 31)) &&& 255 = b1) (g2 : ((xs 1) >>> (16 &&& 31)) &&& 255 = b2) (g3 : ((xs 1) >>> (24 &&& 31)) &&& 255 = b3) (h0 : jbv b0) (h1 : jbz b1) (h2 : jbz b2) (h3 : jbz b3) : jzOK (4, xs) := jz_ok (jzl679 xs hop b0 b1 b2 b3 e0 e1 e2 e3 g0 g1 g2 g3 h0 h1 h2 h3) rfl (jz_sl_VZZZ b0 b1 b2 b3)
set_option maxHeartbeats 4000000 in
set_option maxRecDepth 100000 in
theorem jzc192_s (b0 b1 b2 b3 : Int32) : jSl1 (jzc192 b0 b1 b2 b3) = 3000 := rfl
set_option maxHeartbeats 4000000 in
set_option maxRecDepth 100000 in
theorem jzc214_s (b0 b1 b2 b3 : Int32) : jSl1 (jzc214 b0 b1 b2 b3) = 3000 := rfl
set_option maxHeartbeats 4000000 in
set_option maxRecDepth 100000 in
theorem jz_sl_VZZV (b0 b1 b2 b3 : Int32) : Nat.ble (jSl (jzv329 b0 b1 b2 b3)) 7302232 = true := by
  unfold jSl jzv329
  simp only [List.map_cons, List.map_nil, jzc192_s, jzc214_s]
  decide +kernel
set_option maxHeartbeats 4000000 in
set_option maxRecDepth 100000 in
theorem jz_o0_VZZV (xs : Nat → Int32) (hop : xs 0 &&& 31 = 0) (b0 b1 b2 b3 : Int32) (e0 : ((Int32.toUInt32 (xs 1) >>> (Int32.toUInt32 0 &&& Int32.toUInt32 31)).toInt32) &&& 255 = b0) (e1 : ((Int32.toUInt32 (xs 1) >>> (Int32.toUInt32 8 &&& Int32.toUInt32 31)).toInt32) &&& 255 = b1) (e2 : ((Int32.toUInt32 (xs 1) >>> (Int32.toUInt32 16 &&& Int32.toUInt32 31)).toInt32) &&& 255 = b2) (e3 : ((Int32.toUInt32 (xs 1) >>> (Int32.toUInt32 24 &&& Int32.toUInt32 31)).toInt32) &&& 255 = b3) (g0 : ((xs 1) >>> (0 &&& 31)) &&& 255 = b0) (g1 : ((xs 1) >>> (8 &&& 31)) &&& 255 = b1) (g2 : ((xs 1) >>> (16 &&& 31)) &&& 255 = b2) (g3 : ((xs 1) >>> (24 &&& 31)) &&& 255 = b3) (h0 : jbv b0) (h1 : jbz b1) (h2 : jbz b2) (h3 : jbv b3) : jzOK (4, xs) := jz_ok (jzl695 xs hop b0 b1 b2 b3 e0 e1 e2 e3 g0 g1 g2 g3 h0 h1 h2 h3) rfl (jz_sl_VZZV b0 b1 b2 b3)
set_option maxHeartbeats 4000000 in
set_option maxRecDepth 100000 in
theorem jzc193_s (b0 b1 b2 b3 : Int32) : jSl1 (jzc193 b0 b1 b2 b3) = 3000 := rfl
set_option maxHeartbeats 4000000 in
set_option maxRecDepth 100000 in
theorem jzc215_s (b0 b1 b2 b3 : Int32) : jSl1 (jzc215 b0 b1 b2 b3) = 3000 := rfl
set_option maxHeartbeats 4000000 in
set_option maxRecDepth 100000 in
theorem jz_sl_VZVZ (b0 b1 b2 b3 : Int32) : Nat.ble (jSl (jzv334 b0 b1 b2 b3)) 7302232 = true := by
  unfold jSl jzv334
  simp only [List.map_cons, List.map_nil, jzc193_s, jzc215_s]
  decide +kernel
set_option maxHeartbeats 4000000 in
set_option maxRecDepth 100000 in
theorem jz_o0_VZVZ (xs : Nat → Int32) (hop : xs 0 &&& 31 = 0) (b0 b1 b2 b3 : Int32) (e0 : ((Int32.toUInt32 (xs 1) >>> (Int32.toUInt32 0 &&& Int32.toUInt32 31)).toInt32) &&& 255 = b0) (e1 : ((Int32.toUInt32 (xs 1) >>> (Int32.toUInt32 8 &&& Int32.toUInt32 31)).toInt32) &&& 255 = b1) (e2 : ((Int32.toUInt32 (xs 1) >>> (Int32.toUInt32 16 &&& Int32.toUInt32 31)).toInt32) &&& 255 = b2) (e3 : ((Int32.toUInt32 (xs 1) >>> (Int32.toUInt32 24 &&& Int32.toUInt32 31)).toInt32) &&& 255 = b3) (g0 : ((xs 1) >>> (0 &&& 31)) &&& 255 = b0) (g1 : ((xs 1) >>> (8 &&& 31)) &&& 255 = b1) (g2 : ((xs 1) >>> (16 &&& 31)) &&& 255 = b2) (g3 : ((xs 1) >>> (24 &&& 31)) &&& 255 = b3) (h0 : jbv b0) (h1 : jbz b1) (h2 : jbv b2) (h3 : jbz b3) : jzOK (4, xs) := jz_ok (jzl711 xs hop b0 b1 b2 b3 e0 e1 e2 e3 g0 g1 g2 g3 h0 h1 h2 h3) rfl (jz_sl_VZVZ b0 b1 b2 b3)
set_option maxHeartbeats 4000000 in
set_option maxRecDepth 100000 in
theorem jzc194_s (b0 b1 b2 b3 : Int32) : jSl1 (jzc194 b0 b1 b2 b3) = 3000 := rfl
set_option maxHeartbeats 4000000 in
set_option maxRecDepth 100000 in
theorem jzc216_s (b0 b1 b2 b3 : Int32) : jSl1 (jzc216 b0 b1 b2 b3) = 3000 := rfl
set_option maxHeartbeats 4000000 in
set_option maxRecDepth 100000 in
theorem jz_sl_VZVV (b0 b1 b2 b3 : Int32) : Nat.ble (jSl (jzv341 b0 b1 b2 b3)) 7302232 = true := by
  unfold jSl jzv341
  simp only [List.map_cons, List.map_nil, jzc194_s, jzc216_s]
  decide +kernel
set_option maxHeartbeats 4000000 in
set_option maxRecDepth 100000 in
theorem jz_o0_VZVV (xs : Nat → Int32) (hop : xs 0 &&& 31 = 0) (b0 b1 b2 b3 : Int32) (e0 : ((Int32.toUInt32 (xs 1) >>> (Int32.toUInt32 0 &&& Int32.toUInt32 31)).toInt32) &&& 255 = b0) (e1 : ((Int32.toUInt32 (xs 1) >>> (Int32.toUInt32 8 &&& Int32.toUInt32 31)).toInt32) &&& 255 = b1) (e2 : ((Int32.toUInt32 (xs 1) >>> (Int32.toUInt32 16 &&& Int32.toUInt32 31)).toInt32) &&& 255 = b2) (e3 : ((Int32.toUInt32 (xs 1) >>> (Int32.toUInt32 24 &&& Int32.toUInt32 31)).toInt32) &&& 255 = b3) (g0 : ((xs 1) >>> (0 &&& 31)) &&& 255 = b0) (g1 : ((xs 1) >>> (8 &&& 31)) &&& 255 = b1) (g2 : ((xs 1) >>> (16 &&& 31)) &&& 255 = b2) (g3 : ((xs 1) >>> (24 &&& 31)) &&& 255 = b3) (h0 : jbv b0) (h1 : jbz b1) (h2 : jbv b2) (h3 : jbv b3) : jzOK (4, xs) := jz_ok (jzl727 xs hop b0 b1 b2 b3 e0 e1 e2 e3 g0 g1 g2 g3 h0 h1 h2 h3) rfl (jz_sl_VZVV b0 b1 b2 b3)
set_option maxHeartbeats 4000000 in
set_option maxRecDepth 100000 in
theorem jzc195_s (b0 b1 b2 b3 : Int32) : jSl1 (jzc195 b0 b1 b2 b3) = 3000 := rfl
set_option maxHeartbeats 4000000 in
set_option maxRecDepth 100000 in
theorem jzc217_s (b0 b1 b2 b3 : Int32) : jSl1 (jzc217 b0 b1 b2 b3) = 3000 := rfl
set_option maxHeartbeats 4000000 in
set_option maxRecDepth 100000 in
theorem jz_sl_VVZZ (b0 b1 b2 b3 : Int32) : Nat.ble (jSl (jzv346 b0 b1 b2 b3)) 7302232 = true := by
  unfold jSl jzv346
  simp only [List.map_cons, List.map_nil, jzc195_s, jzc217_s]
  decide +kernel
set_option maxHeartbeats 4000000 in
set_option maxRecDepth 100000 in
theorem jz_o0_VVZZ (xs : Nat → Int32) (hop : xs 0 &&& 31 = 0) (b0 b1 b2 b3 : Int32) (e0 : ((Int32.toUInt32 (xs 1) >>> (Int32.toUInt32 0 &&& Int32.toUInt32 31)).toInt32) &&& 255 = b0) (e1 : ((Int32.toUInt32 (xs 1) >>> (Int32.toUInt32 8 &&& Int32.toUInt32 31)).toInt32) &&& 255 = b1) (e2 : ((Int32.toUInt32 (xs 1) >>> (Int32.toUInt32 16 &&& Int32.toUInt32 31)).toInt32) &&& 255 = b2) (e3 : ((Int32.toUInt32 (xs 1) >>> (Int32.toUInt32 24 &&& Int32.toUInt32 31)).toInt32) &&& 255 = b3) (g0 : ((xs 1) >>> (0 &&& 31)) &&& 255 = b0) (g1 : ((xs 1) >>> (8 &&& 31)) &&& 255 = b1) (g2 : ((xs 1) >>> (16 &&& 31)) &&& 255 = b2) (g3 : ((xs 1) >>> (24 &&& 31)) &&& 255 = b3) (h0 : jbv b0) (h1 : jbv b1) (h2 : jbz b2) (h3 : jbz b3) : jzOK (4, xs) := jz_ok (jzl747 xs hop b0 b1 b2 b3 e0 e1 e2 e3 g0 g1 g2 g3 h0 h1 h2 h3) rfl (jz_sl_VVZZ b0 b1 b2 b3)
set_option maxHeartbeats 4000000 in
set_option maxRecDepth 100000 in
theorem jzc196_s (b0 b1 b2 b3 : Int32) : jSl1 (jzc196 b0 b1 b2 b3) = 3000 := rfl
set_option maxHeartbeats 4000000 in
set_option maxRecDepth 100000 in
theorem jzc218_s (b0 b1 b2 b3 : Int32) : jSl1 (jzc218 b0 b1 b2 b3) = 3000 := rfl
set_option maxHeartbeats 4000000 in
set_option maxRecDepth 100000 in
theorem jz_sl_VVZV (b0 b1 b2 b3 : Int32) : Nat.ble (jSl (jzv353 b0 b1 b2 b3)) 7302232 = true := by
  unfold jSl jzv353
  simp only [List.map_cons, List.map_nil, jzc196_s, jzc218_s]
  decide +kernel
set_option maxHeartbeats 4000000 in
set_option maxRecDepth 100000 in
theorem jz_o0_VVZV (xs : Nat → Int32) (hop : xs 0 &&& 31 = 0) (b0 b1 b2 b3 : Int32) (e0 : ((Int32.toUInt32 (xs 1) >>> (Int32.toUInt32 0 &&& Int32.toUInt32 31)).toInt32) &&& 255 = b0) (e1 : ((Int32.toUInt32 (xs 1) >>> (Int32.toUInt32 8 &&& Int32.toUInt32 31)).toInt32) &&& 255 = b1) (e2 : ((Int32.toUInt32 (xs 1) >>> (Int32.toUInt32 16 &&& Int32.toUInt32 31)).toInt32) &&& 255 = b2) (e3 : ((Int32.toUInt32 (xs 1) >>> (Int32.toUInt32 24 &&& Int32.toUInt32 31)).toInt32) &&& 255 = b3) (g0 : ((xs 1) >>> (0 &&& 31)) &&& 255 = b0) (g1 : ((xs 1) >>> (8 &&& 31)) &&& 255 = b1) (g2 : ((xs 1) >>> (16 &&& 31)) &&& 255 = b2) (g3 : ((xs 1) >>> (24 &&& 31)) &&& 255 = b3) (h0 : jbv b0) (h1 : jbv b1) (h2 : jbz b2) (h3 : jbv b3) : jzOK (4, xs) := jz_ok (jzl763 xs hop b0 b1 b2 b3 e0 e1 e2 e3 g0 g1 g2 g3 h0 h1 h2 h3) rfl (jz_sl_VVZV b0 b1 b2 b3)
set_option maxHeartbeats 4000000 in
set_option maxRecDepth 100000 in
theorem jzc197_s (b0 b1 b2 b3 : Int32) : jSl1 (jzc197 b0 b1 b2 b3) = 3000 := rfl
set_option maxHeartbeats 4000000 in
set_option maxRecDepth 100000 in
theorem jzc219_s (b0 b1 b2 b3 : Int32) : jSl1 (jzc219 b0 b1 b2 b3) = 3000 := rfl
set_option maxHeartbeats 4000000 in
set_option maxRecDepth 100000 in
theorem jz_sl_VVVZ (b0 b1 b2 b3 : Int32) : Nat.ble (jSl (jzv360 b0 b1 b2 b3)) 7302232 = true := by
  unfold jSl jzv360
  simp only [List.map_cons, List.map_nil, jzc197_s, jzc219_s]
  decide +kernel
set_option maxHeartbeats 4000000 in
set_option maxRecDepth 100000 in
theorem jz_o0_VVVZ (xs : Nat → Int32) (hop : xs 0 &&& 31 = 0) (b0 b1 b2 b3 : Int32) (e0 : ((Int32.toUInt32 (xs 1) >>> (Int32.toUInt32 0 &&& Int32.toUInt32 31)).toInt32) &&& 255 = b0) (e1 : ((Int32.toUInt32 (xs 1) >>> (Int32.toUInt32 8 &&& Int32.toUInt32 31)).toInt32) &&& 255 = b1) (e2 : ((Int32.toUInt32 (xs 1) >>> (Int32.toUInt32 16 &&& Int32.toUInt32 31)).toInt32) &&& 255 = b2) (e3 : ((Int32.toUInt32 (xs 1) >>> (Int32.toUInt32 24 &&& Int32.toUInt32 31)).toInt32) &&& 255 = b3) (g0 : ((xs 1) >>> (0 &&& 31)) &&& 255 = b0) (g1 : ((xs 1) >>> (8 &&& 31)) &&& 255 = b1) (g2 : ((xs 1) >>> (16 &&& 31)) &&& 255 = b2) (g3 : ((xs 1) >>> (24 &&& 31)) &&& 255 = b3) (h0 : jbv b0) (h1 : jbv b1) (h2 : jbv b2) (h3 : jbz b3) : jzOK (4, xs) := jz_ok (jzl783 xs hop b0 b1 b2 b3 e0 e1 e2 e3 g0 g1 g2 g3 h0 h1 h2 h3) rfl (jz_sl_VVVZ b0 b1 b2 b3)
set_option maxHeartbeats 4000000 in
set_option maxRecDepth 100000 in
theorem jzc198_s (b0 b1 b2 b3 : Int32) : jSl1 (jzc198 b0 b1 b2 b3) = 3000 := rfl
set_option maxHeartbeats 4000000 in
set_option maxRecDepth 100000 in
theorem jzc221_s (b0 b1 b2 b3 : Int32) : jSl1 (jzc221 b0 b1 b2 b3) = 3000 := rfl
set_option maxHeartbeats 4000000 in
set_option maxRecDepth 100000 in
theorem jz_sl_VVVV (b0 b1 b2 b3 : Int32) : Nat.ble (jSl (jzv369 b0 b1 b2 b3)) 7302232 = true := by
  unfold jSl jzv369
  simp only [List.map_cons, List.map_nil, jzc198_s, jzc221_s]
  decide +kernel
set_option maxHeartbeats 4000000 in
set_option maxRecDepth 100000 in
theorem jz_o0_VVVV (xs : Nat → Int32) (hop : xs 0 &&& 31 = 0) (b0 b1 b2 b3 : Int32) (e0 : ((Int32.toUInt32 (xs 1) >>> (Int32.toUInt32 0 &&& Int32.toUInt32 31)).toInt32) &&& 255 = b0) (e1 : ((Int32.toUInt32 (xs 1) >>> (Int32.toUInt32 8 &&& Int32.toUInt32 31)).toInt32) &&& 255 = b1) (e2 : ((Int32.toUInt32 (xs 1) >>> (Int32.toUInt32 16 &&& Int32.toUInt32 31)).toInt32) &&& 255 = b2) (e3 : ((Int32.toUInt32 (xs 1) >>> (Int32.toUInt32 24 &&& Int32.toUInt32 31)).toInt32) &&& 255 = b3) (g0 : ((xs 1) >>> (0 &&& 31)) &&& 255 = b0) (g1 : ((xs 1) >>> (8 &&& 31)) &&& 255 = b1) (g2 : ((xs 1) >>> (16 &&& 31)) &&& 255 = b2) (g3 : ((xs 1) >>> (24 &&& 31)) &&& 255 = b3) (h0 : jbv b0) (h1 : jbv b1) (h2 : jbv b2) (h3 : jbv b3) : jzOK (4, xs) := jz_ok (jzl801 xs hop b0 b1 b2 b3 e0 e1 e2 e3 g0 g1 g2 g3 h0 h1 h2 h3) rfl (jz_sl_VVVV b0 b1 b2 b3)
set_option maxHeartbeats 4000000 in
set_option maxRecDepth 100000 in
theorem jz_o0_I (xs : Nat → Int32) (hop : xs 0 &&& 31 = 0) (b0 b1 b2 b3 : Int32) (e0 : ((Int32.toUInt32 (xs 1) >>> (Int32.toUInt32 0 &&& Int32.toUInt32 31)).toInt32) &&& 255 = b0) (e1 : ((Int32.toUInt32 (xs 1) >>> (Int32.toUInt32 8 &&& Int32.toUInt32 31)).toInt32) &&& 255 = b1) (e2 : ((Int32.toUInt32 (xs 1) >>> (Int32.toUInt32 16 &&& Int32.toUInt32 31)).toInt32) &&& 255 = b2) (e3 : ((Int32.toUInt32 (xs 1) >>> (Int32.toUInt32 24 &&& Int32.toUInt32 31)).toInt32) &&& 255 = b3) (g0 : ((xs 1) >>> (0 &&& 31)) &&& 255 = b0) (g1 : ((xs 1) >>> (8 &&& 31)) &&& 255 = b1) (g2 : ((xs 1) >>> (16 &&& 31)) &&& 255 = b2) (g3 : ((xs 1) >>> (24 &&& 31)) &&& 255 = b3) (h : jbI0 b0 b1 b2 b3) (hj : jbJ1 b1 b2 b3) : jzOK (4, xs) := jz_ok (jzl902 xs hop b0 b1 b2 b3 e0 e1 e2 e3 g0 g1 g2 g3 h hj) (by decide +kernel) (by decide +kernel)
set_option maxHeartbeats 4000000 in
set_option maxRecDepth 100000 in
theorem jz_o0 (xs : Nat → Int32) (hop : xs 0 &&& 31 = 0) : jzOK (4, xs) := by
  have c0 := jz_cls (((Int32.toUInt32 (xs 1) >>> (Int32.toUInt32 0 &&& Int32.toUInt32 31)).toInt32))
  have c1 := jz_cls (((Int32.toUInt32 (xs 1) >>> (Int32.toUInt32 8 &&& Int32.toUInt32 31)).toInt32))
  have c2 := jz_cls (((Int32.toUInt32 (xs 1) >>> (Int32.toUInt32 16 &&& Int32.toUInt32 31)).toInt32))
  have c3 := jz_cls (((Int32.toUInt32 (xs 1) >>> (Int32.toUInt32 24 &&& Int32.toUInt32 31)).toInt32))
  rcases c0 with h0 | h0 | h0 <;> rcases c1 with h1 | h1 | h1 <;> rcases c2 with h2 | h2 | h2 <;> rcases c3 with h3 | h3 | h3
  · exact jz_o0_ZZZZ xs hop _ _ _ _ rfl rfl rfl rfl (jz_sh0 (xs 1)) (jz_sh1 (xs 1)) (jz_sh2 (xs 1)) (jz_sh3 (xs 1)) h0 h1 h2 h3
  · exact jz_o0_ZZZV xs hop _ _ _ _ rfl rfl rfl rfl (jz_sh0 (xs 1)) (jz_sh1 (xs 1)) (jz_sh2 (xs 1)) (jz_sh3 (xs 1)) h0 h1 h2 h3
  · exact jz_o0_I xs hop _ _ _ _ rfl rfl rfl rfl (jz_sh0 (xs 1)) (jz_sh1 (xs 1)) (jz_sh2 (xs 1)) (jz_sh3 (xs 1)) (.inr ⟨.inl h0, (.inr ⟨.inl h1, (.inr ⟨.inl h2, h3⟩)⟩)⟩) ⟨(.inl h1), ⟨(.inl h2), (.inr h3.1)⟩⟩
  · exact jz_o0_ZZVZ xs hop _ _ _ _ rfl rfl rfl rfl (jz_sh0 (xs 1)) (jz_sh1 (xs 1)) (jz_sh2 (xs 1)) (jz_sh3 (xs 1)) h0 h1 h2 h3
  · exact jz_o0_ZZVV xs hop _ _ _ _ rfl rfl rfl rfl (jz_sh0 (xs 1)) (jz_sh1 (xs 1)) (jz_sh2 (xs 1)) (jz_sh3 (xs 1)) h0 h1 h2 h3
  · exact jz_o0_I xs hop _ _ _ _ rfl rfl rfl rfl (jz_sh0 (xs 1)) (jz_sh1 (xs 1)) (jz_sh2 (xs 1)) (jz_sh3 (xs 1)) (.inr ⟨.inl h0, (.inr ⟨.inl h1, (.inr ⟨.inr h2, h3⟩)⟩)⟩) ⟨(.inl h1), ⟨(.inr h2.1), (.inr h3.1)⟩⟩
  · exact jz_o0_I xs hop _ _ _ _ rfl rfl rfl rfl (jz_sh0 (xs 1)) (jz_sh1 (xs 1)) (jz_sh2 (xs 1)) (jz_sh3 (xs 1)) (.inr ⟨.inl h0, (.inr ⟨.inl h1, (.inl h2)⟩)⟩) ⟨(.inl h1), ⟨(.inr h2.1), (.inl h3)⟩⟩
  · exact jz_o0_I xs hop _ _ _ _ rfl rfl rfl rfl (jz_sh0 (xs 1)) (jz_sh1 (xs 1)) (jz_sh2 (xs 1)) (jz_sh3 (xs 1)) (.inr ⟨.inl h0, (.inr ⟨.inl h1, (.inl h2)⟩)⟩) ⟨(.inl h1), ⟨(.inr h2.1), (.inr h3.1)⟩⟩
  · exact jz_o0_I xs hop _ _ _ _ rfl rfl rfl rfl (jz_sh0 (xs 1)) (jz_sh1 (xs 1)) (jz_sh2 (xs 1)) (jz_sh3 (xs 1)) (.inr ⟨.inl h0, (.inr ⟨.inl h1, (.inl h2)⟩)⟩) ⟨(.inl h1), ⟨(.inr h2.1), (.inr h3.1)⟩⟩
  · exact jz_o0_ZVZZ xs hop _ _ _ _ rfl rfl rfl rfl (jz_sh0 (xs 1)) (jz_sh1 (xs 1)) (jz_sh2 (xs 1)) (jz_sh3 (xs 1)) h0 h1 h2 h3
  · exact jz_o0_ZVZV xs hop _ _ _ _ rfl rfl rfl rfl (jz_sh0 (xs 1)) (jz_sh1 (xs 1)) (jz_sh2 (xs 1)) (jz_sh3 (xs 1)) h0 h1 h2 h3
  · exact jz_o0_I xs hop _ _ _ _ rfl rfl rfl rfl (jz_sh0 (xs 1)) (jz_sh1 (xs 1)) (jz_sh2 (xs 1)) (jz_sh3 (xs 1)) (.inr ⟨.inl h0, (.inr ⟨.inr h1, (.inr ⟨.inl h2, h3⟩)⟩)⟩) ⟨(.inr h1.1), ⟨(.inl h2), (.inr h3.1)⟩⟩
  · exact jz_o0_ZVVZ xs hop _ _ _ _ rfl rfl rfl rfl (jz_sh0 (xs 1)) (jz_sh1 (xs 1)) (jz_sh2 (xs 1)) (jz_sh3 (xs 1)) h0 h1 h2 h3
  · exact jz_o0_ZVVV xs hop _ _ _ _ rfl rfl rfl rfl (jz_sh0 (xs 1)) (jz_sh1 (xs 1)) (jz_sh2 (xs 1)) (jz_sh3 (xs 1)) h0 h1 h2 h3
  · exact jz_o0_I xs hop _ _ _ _ rfl rfl rfl rfl (jz_sh0 (xs 1)) (jz_sh1 (xs 1)) (jz_sh2 (xs 1)) (jz_sh3 (xs 1)) (.inr ⟨.inl h0, (.inr ⟨.inr h1, (.inr ⟨.inr h2, h3⟩)⟩)⟩) ⟨(.inr h1.1), ⟨(.inr h2.1), (.inr h3.1)⟩⟩
  · exact jz_o0_I xs hop _ _ _ _ rfl rfl rfl rfl (jz_sh0 (xs 1)) (jz_sh1 (xs 1)) (jz_sh2 (xs 1)) (jz_sh3 (xs 1)) (.inr ⟨.inl h0, (.inr ⟨.inr h1, (.inl h2)⟩)⟩) ⟨(.inr h1.1), ⟨(.inr h2.1), (.inl h3)⟩⟩
  · exact jz_o0_I xs hop _ _ _ _ rfl rfl rfl rfl (jz_sh0 (xs 1)) (jz_sh1 (xs 1)) (jz_sh2 (xs 1)) (jz_sh3 (xs 1)) (.inr ⟨.inl h0, (.inr ⟨.inr h1, (.inl h2)⟩)⟩) ⟨(.inr h1.1), ⟨(.inr h2.1), (.inr h3.1)⟩⟩
  · exact jz_o0_I xs hop _ _ _ _ rfl rfl rfl rfl (jz_sh0 (xs 1)) (jz_sh1 (xs 1)) (jz_sh2 (xs 1)) (jz_sh3 (xs 1)) (.inr ⟨.inl h0, (.inr ⟨.inr h1, (.inl h2)⟩)⟩) ⟨(.inr h1.1), ⟨(.inr h2.1), (.inr h3.1)⟩⟩
  · exact jz_o0_I xs hop _ _ _ _ rfl rfl rfl rfl (jz_sh0 (xs 1)) (jz_sh1 (xs 1)) (jz_sh2 (xs 1)) (jz_sh3 (xs 1)) (.inr ⟨.inl h0, (.inl h1)⟩) ⟨(.inr h1.1), ⟨(.inl h2), (.inl h3)⟩⟩
  · exact jz_o0_I xs hop _ _ _ _ rfl rfl rfl rfl (jz_sh0 (xs 1)) (jz_sh1 (xs 1)) (jz_sh2 (xs 1)) (jz_sh3 (xs 1)) (.inr ⟨.inl h0, (.inl h1)⟩) ⟨(.inr h1.1), ⟨(.inl h2), (.inr h3.1)⟩⟩
  · exact jz_o0_I xs hop _ _ _ _ rfl rfl rfl rfl (jz_sh0 (xs 1)) (jz_sh1 (xs 1)) (jz_sh2 (xs 1)) (jz_sh3 (xs 1)) (.inr ⟨.inl h0, (.inl h1)⟩) ⟨(.inr h1.1), ⟨(.inl h2), (.inr h3.1)⟩⟩
  · exact jz_o0_I xs hop _ _ _ _ rfl rfl rfl rfl (jz_sh0 (xs 1)) (jz_sh1 (xs 1)) (jz_sh2 (xs 1)) (jz_sh3 (xs 1)) (.inr ⟨.inl h0, (.inl h1)⟩) ⟨(.inr h1.1), ⟨(.inr h2.1), (.inl h3)⟩⟩
  · exact jz_o0_I xs hop _ _ _ _ rfl rfl rfl rfl (jz_sh0 (xs 1)) (jz_sh1 (xs 1)) (jz_sh2 (xs 1)) (jz_sh3 (xs 1)) (.inr ⟨.inl h0, (.inl h1)⟩) ⟨(.inr h1.1), ⟨(.inr h2.1), (.inr h3.1)⟩⟩
  · exact jz_o0_I xs hop _ _ _ _ rfl rfl rfl rfl (jz_sh0 (xs 1)) (jz_sh1 (xs 1)) (jz_sh2 (xs 1)) (jz_sh3 (xs 1)) (.inr ⟨.inl h0, (.inl h1)⟩) ⟨(.inr h1.1), ⟨(.inr h2.1), (.inr h3.1)⟩⟩
  · exact jz_o0_I xs hop _ _ _ _ rfl rfl rfl rfl (jz_sh0 (xs 1)) (jz_sh1 (xs 1)) (jz_sh2 (xs 1)) (jz_sh3 (xs 1)) (.inr ⟨.inl h0, (.inl h1)⟩) ⟨(.inr h1.1), ⟨(.inr h2.1), (.inl h3)⟩⟩
  · exact jz_o0_I xs hop _ _ _ _ rfl rfl rfl rfl (jz_sh0 (xs 1)) (jz_sh1 (xs 1)) (jz_sh2 (xs 1)) (jz_sh3 (xs 1)) (.inr ⟨.inl h0, (.inl h1)⟩) ⟨(.inr h1.1), ⟨(.inr h2.1), (.inr h3.1)⟩⟩
  · exact jz_o0_I xs hop _ _ _ _ rfl rfl rfl rfl (jz_sh0 (xs 1)) (jz_sh1 (xs 1)) (jz_sh2 (xs 1)) (jz_sh3 (xs 1)) (.inr ⟨.inl h0, (.inl h1)⟩) ⟨(.inr h1.1), ⟨(.inr h2.1), (.inr h3.1)⟩⟩
  · exact jz_o0_VZZZ xs hop _ _ _ _ rfl rfl rfl rfl (jz_sh0 (xs 1)) (jz_sh1 (xs 1)) (jz_sh2 (xs 1)) (jz_sh3 (xs 1)) h0 h1 h2 h3
  · exact jz_o0_VZZV xs hop _ _ _ _ rfl rfl rfl rfl (jz_sh0 (xs 1)) (jz_sh1 (xs 1)) (jz_sh2 (xs 1)) (jz_sh3 (xs 1)) h0 h1 h2 h3
  · exact jz_o0_I xs hop _ _ _ _ rfl rfl rfl rfl (jz_sh0 (xs 1)) (jz_sh1 (xs 1)) (jz_sh2 (xs 1)) (jz_sh3 (xs 1)) (.inr ⟨.inr h0, (.inr ⟨.inl h1, (.inr ⟨.inl h2, h3⟩)⟩)⟩) ⟨(.inl h1), ⟨(.inl h2), (.inr h3.1)⟩⟩
  · exact jz_o0_VZVZ xs hop _ _ _ _ rfl rfl rfl rfl (jz_sh0 (xs 1)) (jz_sh1 (xs 1)) (jz_sh2 (xs 1)) (jz_sh3 (xs 1)) h0 h1 h2 h3
  · exact jz_o0_VZVV xs hop _ _ _ _ rfl rfl rfl rfl (jz_sh0 (xs 1)) (jz_sh1 (xs 1)) (jz_sh2 (xs 1)) (jz_sh3 (xs 1)) h0 h1 h2 h3
  · exact jz_o0_I xs hop _ _ _ _ rfl rfl rfl rfl (jz_sh0 (xs 1)) (jz_sh1 (xs 1)) (jz_sh2 (xs 1)) (jz_sh3 (xs 1)) (.inr ⟨.inr h0, (.inr ⟨.inl h1, (.inr ⟨.inr h2, h3⟩)⟩)⟩) ⟨(.inl h1), ⟨(.inr h2.1), (.inr h3.1)⟩⟩
  · exact jz_o0_I xs hop _ _ _ _ rfl rfl rfl rfl (jz_sh0 (xs 1)) (jz_sh1 (xs 1)) (jz_sh2 (xs 1)) (jz_sh3 (xs 1)) (.inr ⟨.inr h0, (.inr ⟨.inl h1, (.inl h2)⟩)⟩) ⟨(.inl h1), ⟨(.inr h2.1), (.inl h3)⟩⟩
  · exact jz_o0_I xs hop _ _ _ _ rfl rfl rfl rfl (jz_sh0 (xs 1)) (jz_sh1 (xs 1)) (jz_sh2 (xs 1)) (jz_sh3 (xs 1)) (.inr ⟨.inr h0, (.inr ⟨.inl h1, (.inl h2)⟩)⟩) ⟨(.inl h1), ⟨(.inr h2.1), (.inr h3.1)⟩⟩
  · exact jz_o0_I xs hop _ _ _ _ rfl rfl rfl rfl (jz_sh0 (xs 1)) (jz_sh1 (xs 1)) (jz_sh2 (xs 1)) (jz_sh3 (xs 1)) (.inr ⟨.inr h0, (.inr ⟨.inl h1, (.inl h2)⟩)⟩) ⟨(.inl h1), ⟨(.inr h2.1), (.inr h3.1)⟩⟩
  · exact jz_o0_VVZZ xs hop _ _ _ _ rfl rfl rfl rfl (jz_sh0 (xs 1)) (jz_sh1 (xs 1)) (jz_sh2 (xs 1)) (jz_sh3 (xs 1)) h0 h1 h2 h3
  · exact jz_o0_VVZV xs hop _ _ _ _ rfl rfl rfl rfl (jz_sh0 (xs 1)) (jz_sh1 (xs 1)) (jz_sh2 (xs 1)) (jz_sh3 (xs 1)) h0 h1 h2 h3
  · exact jz_o0_I xs hop _ _ _ _ rfl rfl rfl rfl (jz_sh0 (xs 1)) (jz_sh1 (xs 1)) (jz_sh2 (xs 1)) (jz_sh3 (xs 1)) (.inr ⟨.inr h0, (.inr ⟨.inr h1, (.inr ⟨.inl h2, h3⟩)⟩)⟩) ⟨(.inr h1.1), ⟨(.inl h2), (.inr h3.1)⟩⟩
  · exact jz_o0_VVVZ xs hop _ _ _ _ rfl rfl rfl rfl (jz_sh0 (xs 1)) (jz_sh1 (xs 1)) (jz_sh2 (xs 1)) (jz_sh3 (xs 1)) h0 h1 h2 h3
  · exact jz_o0_VVVV xs hop _ _ _ _ rfl rfl rfl rfl (jz_sh0 (xs 1)) (jz_sh1 (xs 1)) (jz_sh2 (xs 1)) (jz_sh3 (xs 1)) h0 h1 h2 h3
  · exact jz_o0_I xs hop _ _ _ _ rfl rfl rfl rfl (jz_sh0 (xs 1)) (jz_sh1 (xs 1)) (jz_sh2 (xs 1)) (jz_sh3 (xs 1)) (.inr ⟨.inr h0, (.inr ⟨.inr h1, (.inr ⟨.inr h2, h3⟩)⟩)⟩) ⟨(.inr h1.1), ⟨(.inr h2.1), (.inr h3.1)⟩⟩
  · exact jz_o0_I xs hop _ _ _ _ rfl rfl rfl rfl (jz_sh0 (xs 1)) (jz_sh1 (xs 1)) (jz_sh2 (xs 1)) (jz_sh3 (xs 1)) (.inr ⟨.inr h0, (.inr ⟨.inr h1, (.inl h2)⟩)⟩) ⟨(.inr h1.1), ⟨(.inr h2.1), (.inl h3)⟩⟩
  · exact jz_o0_I xs hop _ _ _ _ rfl rfl rfl rfl (jz_sh0 (xs 1)) (jz_sh1 (xs 1)) (jz_sh2 (xs 1)) (jz_sh3 (xs 1)) (.inr ⟨.inr h0, (.inr ⟨.inr h1, (.inl h2)⟩)⟩) ⟨(.inr h1.1), ⟨(.inr h2.1), (.inr h3.1)⟩⟩
  · exact jz_o0_I xs hop _ _ _ _ rfl rfl rfl rfl (jz_sh0 (xs 1)) (jz_sh1 (xs 1)) (jz_sh2 (xs 1)) (jz_sh3 (xs 1)) (.inr ⟨.inr h0, (.inr ⟨.inr h1, (.inl h2)⟩)⟩) ⟨(.inr h1.1), ⟨(.inr h2.1), (.inr h3.1)⟩⟩
  · exact jz_o0_I xs hop _ _ _ _ rfl rfl rfl rfl (jz_sh0 (xs 1)) (jz_sh1 (xs 1)) (jz_sh2 (xs 1)) (jz_sh3 (xs 1)) (.inr ⟨.inr h0, (.inl h1)⟩) ⟨(.inr h1.1), ⟨(.inl h2), (.inl h3)⟩⟩
  · exact jz_o0_I xs hop _ _ _ _ rfl rfl rfl rfl (jz_sh0 (xs 1)) (jz_sh1 (xs 1)) (jz_sh2 (xs 1)) (jz_sh3 (xs 1)) (.inr ⟨.inr h0, (.inl h1)⟩) ⟨(.inr h1.1), ⟨(.inl h2), (.inr h3.1)⟩⟩
  · exact jz_o0_I xs hop _ _ _ _ rfl rfl rfl rfl (jz_sh0 (xs 1)) (jz_sh1 (xs 1)) (jz_sh2 (xs 1)) (jz_sh3 (xs 1)) (.inr ⟨.inr h0, (.inl h1)⟩) ⟨(.inr h1.1), ⟨(.inl h2), (.inr h3.1)⟩⟩
  · exact jz_o0_I xs hop _ _ _ _ rfl rfl rfl rfl (jz_sh0 (xs 1)) (jz_sh1 (xs 1)) (jz_sh2 (xs 1)) (jz_sh3 (xs 1)) (.inr ⟨.inr h0, (.inl h1)⟩) ⟨(.inr h1.1), ⟨(.inr h2.1), (.inl h3)⟩⟩
  · exact jz_o0_I xs hop _ _ _ _ rfl rfl rfl rfl (jz_sh0 (xs 1)) (jz_sh1 (xs 1)) (jz_sh2 (xs 1)) (jz_sh3 (xs 1)) (.inr ⟨.inr h0, (.inl h1)⟩) ⟨(.inr h1.1), ⟨(.inr h2.1), (.inr h3.1)⟩⟩
  · exact jz_o0_I xs hop _ _ _ _ rfl rfl rfl rfl (jz_sh0 (xs 1)) (jz_sh1 (xs 1)) (jz_sh2 (xs 1)) (jz_sh3 (xs 1)) (.inr ⟨.inr h0, (.inl h1)⟩) ⟨(.inr h1.1), ⟨(.inr h2.1), (.inr h3.1)⟩⟩
  · exact jz_o0_I xs hop _ _ _ _ rfl rfl rfl rfl (jz_sh0 (xs 1)) (jz_sh1 (xs 1)) (jz_sh2 (xs 1)) (jz_sh3 (xs 1)) (.inr ⟨.inr h0, (.inl h1)⟩) ⟨(.inr h1.1), ⟨(.inr h2.1), (.inl h3)⟩⟩
  · exact jz_o0_I xs hop _ _ _ _ rfl rfl rfl rfl (jz_sh0 (xs 1)) (jz_sh1 (xs 1)) (jz_sh2 (xs 1)) (jz_sh3 (xs 1)) (.inr ⟨.inr h0, (.inl h1)⟩) ⟨(.inr h1.1), ⟨(.inr h2.1), (.inr h3.1)⟩⟩
  · exact jz_o0_I xs hop _ _ _ _ rfl rfl rfl rfl (jz_sh0 (xs 1)) (jz_sh1 (xs 1)) (jz_sh2 (xs 1)) (jz_sh3 (xs 1)) (.inr ⟨.inr h0, (.inl h1)⟩) ⟨(.inr h1.1), ⟨(.inr h2.1), (.inr h3.1)⟩⟩
  · exact jz_o0_I xs hop _ _ _ _ rfl rfl rfl rfl (jz_sh0 (xs 1)) (jz_sh1 (xs 1)) (jz_sh2 (xs 1)) (jz_sh3 (xs 1)) (.inl h0) ⟨(.inl h1), ⟨(.inl h2), (.inl h3)⟩⟩
  · exact jz_o0_I xs hop _ _ _ _ rfl rfl rfl rfl (jz_sh0 (xs 1)) (jz_sh1 (xs 1)) (jz_sh2 (xs 1)) (jz_sh3 (xs 1)) (.inl h0) ⟨(.inl h1), ⟨(.inl h2), (.inr h3.1)⟩⟩
  · exact jz_o0_I xs hop _ _ _ _ rfl rfl rfl rfl (jz_sh0 (xs 1)) (jz_sh1 (xs 1)) (jz_sh2 (xs 1)) (jz_sh3 (xs 1)) (.inl h0) ⟨(.inl h1), ⟨(.inl h2), (.inr h3.1)⟩⟩
  · exact jz_o0_I xs hop _ _ _ _ rfl rfl rfl rfl (jz_sh0 (xs 1)) (jz_sh1 (xs 1)) (jz_sh2 (xs 1)) (jz_sh3 (xs 1)) (.inl h0) ⟨(.inl h1), ⟨(.inr h2.1), (.inl h3)⟩⟩
  · exact jz_o0_I xs hop _ _ _ _ rfl rfl rfl rfl (jz_sh0 (xs 1)) (jz_sh1 (xs 1)) (jz_sh2 (xs 1)) (jz_sh3 (xs 1)) (.inl h0) ⟨(.inl h1), ⟨(.inr h2.1), (.inr h3.1)⟩⟩
  · exact jz_o0_I xs hop _ _ _ _ rfl rfl rfl rfl (jz_sh0 (xs 1)) (jz_sh1 (xs 1)) (jz_sh2 (xs 1)) (jz_sh3 (xs 1)) (.inl h0) ⟨(.inl h1), ⟨(.inr h2.1), (.inr h3.1)⟩⟩
  · exact jz_o0_I xs hop _ _ _ _ rfl rfl rfl rfl (jz_sh0 (xs 1)) (jz_sh1 (xs 1)) (jz_sh2 (xs 1)) (jz_sh3 (xs 1)) (.inl h0) ⟨(.inl h1), ⟨(.inr h2.1), (.inl h3)⟩⟩
  · exact jz_o0_I xs hop _ _ _ _ rfl rfl rfl rfl (jz_sh0 (xs 1)) (jz_sh1 (xs 1)) (jz_sh2 (xs 1)) (jz_sh3 (xs 1)) (.inl h0) ⟨(.inl h1), ⟨(.inr h2.1), (.inr h3.1)⟩⟩
  · exact jz_o0_I xs hop _ _ _ _ rfl rfl rfl rfl (jz_sh0 (xs 1)) (jz_sh1 (xs 1)) (jz_sh2 (xs 1)) (jz_sh3 (xs 1)) (.inl h0) ⟨(.inl h1), ⟨(.inr h2.1), (.inr h3.1)⟩⟩
  · exact jz_o0_I xs hop _ _ _ _ rfl rfl rfl rfl (jz_sh0 (xs 1)) (jz_sh1 (xs 1)) (jz_sh2 (xs 1)) (jz_sh3 (xs 1)) (.inl h0) ⟨(.inr h1.1), ⟨(.inl h2), (.inl h3)⟩⟩
  · exact jz_o0_I xs hop _ _ _ _ rfl rfl rfl rfl (jz_sh0 (xs 1)) (jz_sh1 (xs 1)) (jz_sh2 (xs 1)) (jz_sh3 (xs 1)) (.inl h0) ⟨(.inr h1.1), ⟨(.inl h2), (.inr h3.1)⟩⟩
  · exact jz_o0_I xs hop _ _ _ _ rfl rfl rfl rfl (jz_sh0 (xs 1)) (jz_sh1 (xs 1)) (jz_sh2 (xs 1)) (jz_sh3 (xs 1)) (.inl h0) ⟨(.inr h1.1), ⟨(.inl h2), (.inr h3.1)⟩⟩
  · exact jz_o0_I xs hop _ _ _ _ rfl rfl rfl rfl (jz_sh0 (xs 1)) (jz_sh1 (xs 1)) (jz_sh2 (xs 1)) (jz_sh3 (xs 1)) (.inl h0) ⟨(.inr h1.1), ⟨(.inr h2.1), (.inl h3)⟩⟩
  · exact jz_o0_I xs hop _ _ _ _ rfl rfl rfl rfl (jz_sh0 (xs 1)) (jz_sh1 (xs 1)) (jz_sh2 (xs 1)) (jz_sh3 (xs 1)) (.inl h0) ⟨(.inr h1.1), ⟨(.inr h2.1), (.inr h3.1)⟩⟩
  · exact jz_o0_I xs hop _ _ _ _ rfl rfl rfl rfl (jz_sh0 (xs 1)) (jz_sh1 (xs 1)) (jz_sh2 (xs 1)) (jz_sh3 (xs 1)) (.inl h0) ⟨(.inr h1.1), ⟨(.inr h2.1), (.inr h3.1)⟩⟩
  · exact jz_o0_I xs hop _ _ _ _ rfl rfl rfl rfl (jz_sh0 (xs 1)) (jz_sh1 (xs 1)) (jz_sh2 (xs 1)) (jz_sh3 (xs 1)) (.inl h0) ⟨(.inr h1.1), ⟨(.inr h2.1), (.inl h3)⟩⟩
  · exact jz_o0_I xs hop _ _ _ _ rfl rfl rfl rfl (jz_sh0 (xs 1)) (jz_sh1 (xs 1)) (jz_sh2 (xs 1)) (jz_sh3 (xs 1)) (.inl h0) ⟨(.inr h1.1), ⟨(.inr h2.1), (.inr h3.1)⟩⟩
  · exact jz_o0_I xs hop _ _ _ _ rfl rfl rfl rfl (jz_sh0 (xs 1)) (jz_sh1 (xs 1)) (jz_sh2 (xs 1)) (jz_sh3 (xs 1)) (.inl h0) ⟨(.inr h1.1), ⟨(.inr h2.1), (.inr h3.1)⟩⟩
  · exact jz_o0_I xs hop _ _ _ _ rfl rfl rfl rfl (jz_sh0 (xs 1)) (jz_sh1 (xs 1)) (jz_sh2 (xs 1)) (jz_sh3 (xs 1)) (.inl h0) ⟨(.inr h1.1), ⟨(.inl h2), (.inl h3)⟩⟩
  · exact jz_o0_I xs hop _ _ _ _ rfl rfl rfl rfl (jz_sh0 (xs 1)) (jz_sh1 (xs 1)) (jz_sh2 (xs 1)) (jz_sh3 (xs 1)) (.inl h0) ⟨(.inr h1.1), ⟨(.inl h2), (.inr h3.1)⟩⟩
  · exact jz_o0_I xs hop _ _ _ _ rfl rfl rfl rfl (jz_sh0 (xs 1)) (jz_sh1 (xs 1)) (jz_sh2 (xs 1)) (jz_sh3 (xs 1)) (.inl h0) ⟨(.inr h1.1), ⟨(.inl h2), (.inr h3.1)⟩⟩
  · exact jz_o0_I xs hop _ _ _ _ rfl rfl rfl rfl (jz_sh0 (xs 1)) (jz_sh1 (xs 1)) (jz_sh2 (xs 1)) (jz_sh3 (xs 1)) (.inl h0) ⟨(.inr h1.1), ⟨(.inr h2.1), (.inl h3)⟩⟩
  · exact jz_o0_I xs hop _ _ _ _ rfl rfl rfl rfl (jz_sh0 (xs 1)) (jz_sh1 (xs 1)) (jz_sh2 (xs 1)) (jz_sh3 (xs 1)) (.inl h0) ⟨(.inr h1.1), ⟨(.inr h2.1), (.inr h3.1)⟩⟩
  · exact jz_o0_I xs hop _ _ _ _ rfl rfl rfl rfl (jz_sh0 (xs 1)) (jz_sh1 (xs 1)) (jz_sh2 (xs 1)) (jz_sh3 (xs 1)) (.inl h0) ⟨(.inr h1.1), ⟨(.inr h2.1), (.inr h3.1)⟩⟩
  · exact jz_o0_I xs hop _ _ _ _ rfl rfl rfl rfl (jz_sh0 (xs 1)) (jz_sh1 (xs 1)) (jz_sh2 (xs 1)) (jz_sh3 (xs 1)) (.inl h0) ⟨(.inr h1.1), ⟨(.inr h2.1), (.inl h3)⟩⟩
  · exact jz_o0_I xs hop _ _ _ _ rfl rfl rfl rfl (jz_sh0 (xs 1)) (jz_sh1 (xs 1)) (jz_sh2 (xs 1)) (jz_sh3 (xs 1)) (.inl h0) ⟨(.inr h1.1), ⟨(.inr h2.1), (.inr h3.1)⟩⟩
  · exact jz_o0_I xs hop _ _ _ _ rfl rfl rfl rfl (jz_sh0 (xs 1)) (jz_sh1 (xs 1)) (jz_sh2 (xs 1)) (jz_sh3 (xs 1)) (.inl h0) ⟨(.inr h1.1), ⟨(.inr h2.1), (.inr h3.1)⟩⟩
set_option maxHeartbeats 4000000 in
set_option maxRecDepth 100000 in
theorem jz_icl (x y : Int32) : (Op.if_icmp.holds .lt x y = true ↔ x < y) ∧ (Op.if_icmp.holds .gt x y = true ↔ y < x) ∧ (Op.if_icmp.holds .le x y = true ↔ x ≤ y) ∧ (Op.ifCond.holds .lt x = true ↔ x < 0) := by
  refine ⟨?_, ?_, ?_, ?_⟩ <;> simp [Op.if_icmp.holds, Op.ifCond.holds]
set_option maxHeartbeats 4000000 in
set_option maxRecDepth 100000 in
theorem jz_bf {b : Bool} {P : Prop} (h : b = true ↔ P) (hn : ¬ P) : b = false := by
  cases b
  · rfl
  · exact absurd (h.mp rfl) hn
set_option maxHeartbeats 4000000 in
set_option maxRecDepth 100000 in
theorem jz_lt (x y : Int32) : x < y ↔ x.toInt < y.toInt := Int32.lt_iff_toInt_lt
set_option maxHeartbeats 4000000 in
set_option maxRecDepth 100000 in
theorem jz_le (x y : Int32) : x ≤ y ↔ x.toInt ≤ y.toInt := Int32.le_iff_toInt_le
set_option maxHeartbeats 4000000 in
set_option maxRecDepth 100000 in
theorem jz_o1 (xs : Nat → Int32) (hop : xs 0 &&& 31 = 1) : jzOK (4, xs) := by
  by_cases ha : xs 1 < 0
  · exact jz_o1_n xs hop ((jz_icl (xs 1) 0).2.2.2.mpr (by simp only [jz_lt, jz_le] at *; have hz : (0 : Int32).toInt = 0 := (by decide); have h0 : (0 : Int32).toInt = 0 := (by decide); have h2 : (2 : Int32).toInt = 2 := (by decide); omega)) ((jz_icl (xs 1) 0).1.mpr (by simp only [jz_lt, jz_le] at *; have hz : (0 : Int32).toInt = 0 := (by decide); have h0 : (0 : Int32).toInt = 0 := (by decide); have h2 : (2 : Int32).toInt = 2 := (by decide); omega))
  · by_cases hb : 0 < xs 1
    · exact jz_o1_p xs hop (jz_bf (jz_icl (xs 1) 0).2.2.2 (by simp only [jz_lt, jz_le] at *; have hz : (0 : Int32).toInt = 0 := (by decide); have h0 : (0 : Int32).toInt = 0 := (by decide); have h2 : (2 : Int32).toInt = 2 := (by decide); omega)) (jz_bf (jz_icl (xs 1) 0).2.2.1 (by simp only [jz_lt, jz_le] at *; have hz : (0 : Int32).toInt = 0 := (by decide); have h0 : (0 : Int32).toInt = 0 := (by decide); have h2 : (2 : Int32).toInt = 2 := (by decide); omega)) (jz_bf (jz_icl (xs 1) 0).1 (by simp only [jz_lt, jz_le] at *; have hz : (0 : Int32).toInt = 0 := (by decide); have h0 : (0 : Int32).toInt = 0 := (by decide); have h2 : (2 : Int32).toInt = 2 := (by decide); omega)) ((jz_icl (xs 1) 0).2.1.mpr (by simp only [jz_lt, jz_le] at *; have hz : (0 : Int32).toInt = 0 := (by decide); have h0 : (0 : Int32).toInt = 0 := (by decide); have h2 : (2 : Int32).toInt = 2 := (by decide); omega))
    · exact jz_o1_0 xs hop (Int32.toInt_inj.mp (by simp only [jz_lt] at ha hb; have h0 : (0 : Int32).toInt = 0 := (by decide); have h1 : (1 : Int32).toInt = 1 := (by decide); have h2 : (2 : Int32).toInt = 2 := (by decide); omega))
set_option maxHeartbeats 4000000 in
set_option maxRecDepth 100000 in
theorem jz_o3 (xs : Nat → Int32) (hop : xs 0 &&& 31 = 3) : jzOK (4, xs) := by
  by_cases ha : xs 1 < 0
  · exact jz_o3_n xs hop ((jz_icl (xs 1) 0).2.2.2.mpr (by simp only [jz_lt, jz_le] at *; have hz : (0 : Int32).toInt = 0 := (by decide); have h0 : (0 : Int32).toInt = 0 := (by decide); have h2 : (2 : Int32).toInt = 2 := (by decide); omega)) ((jz_icl (xs 1) 0).1.mpr (by simp only [jz_lt, jz_le] at *; have hz : (0 : Int32).toInt = 0 := (by decide); have h0 : (0 : Int32).toInt = 0 := (by decide); have h2 : (2 : Int32).toInt = 2 := (by decide); omega))
  · by_cases hb : 2 < xs 1
    · exact jz_o3_p xs hop (jz_bf (jz_icl (xs 1) 0).2.2.2 (by simp only [jz_lt, jz_le] at *; have hz : (0 : Int32).toInt = 0 := (by decide); have h0 : (0 : Int32).toInt = 0 := (by decide); have h2 : (2 : Int32).toInt = 2 := (by decide); omega)) (jz_bf (jz_icl (xs 1) 2).2.2.1 (by simp only [jz_lt, jz_le] at *; have hz : (2 : Int32).toInt = 2 := (by decide); have h0 : (0 : Int32).toInt = 0 := (by decide); have h2 : (2 : Int32).toInt = 2 := (by decide); omega)) (jz_bf (jz_icl (xs 1) 0).1 (by simp only [jz_lt, jz_le] at *; have hz : (0 : Int32).toInt = 0 := (by decide); have h0 : (0 : Int32).toInt = 0 := (by decide); have h2 : (2 : Int32).toInt = 2 := (by decide); omega)) ((jz_icl (xs 1) 2).2.1.mpr (by simp only [jz_lt, jz_le] at *; have hz : (2 : Int32).toInt = 2 := (by decide); have h0 : (0 : Int32).toInt = 0 := (by decide); have h2 : (2 : Int32).toInt = 2 := (by decide); omega))
    · by_cases hw0 : xs 1 = 0
      · exact jz_o3_0 xs hop hw0
      · by_cases hw1 : xs 1 = 1
        · exact jz_o3_1 xs hop hw1
        · exact jz_o3_2 xs hop (Int32.toInt_inj.mp (by simp only [jz_lt] at ha hb; have h0 : (0 : Int32).toInt = 0 := (by decide); have h1 : (1 : Int32).toInt = 1 := (by decide); have h2 : (2 : Int32).toInt = 2 := (by decide); have n0 : (xs 1).toInt ≠ 0 := fun h => hw0 (Int32.toInt_inj.mp (h.trans h0.symm)); have n1 : (xs 1).toInt ≠ 1 := fun h => hw1 (Int32.toInt_inj.mp (h.trans h1.symm)); omega))
set_option maxHeartbeats 4000000 in
set_option maxRecDepth 100000 in
theorem jz_o7 (xs : Nat → Int32) (hop : xs 0 &&& 31 = 7) : jzOK (4, xs) := by
  by_cases ha : xs 1 < 0
  · exact jz_o7_n xs hop ((jz_icl (xs 1) 0).1.mpr (by simp only [jz_lt, jz_le] at *; have hz : (0 : Int32).toInt = 0 := (by decide); have h0 : (0 : Int32).toInt = 0 := (by decide); have h2 : (2 : Int32).toInt = 2 := (by decide); omega))
  · exact jz_o7_p xs hop (jz_bf (jz_icl (xs 1) 0).1 (by simp only [jz_lt, jz_le] at *; have hz : (0 : Int32).toInt = 0 := (by decide); have h0 : (0 : Int32).toInt = 0 := (by decide); have h2 : (2 : Int32).toInt = 2 := (by decide); omega)) ((jz_icl (xs 1) (-1)).2.1.mpr (by simp only [jz_lt, jz_le] at *; have hz : ((-1) : Int32).toInt = -1 := (by decide); have h0 : (0 : Int32).toInt = 0 := (by decide); have h2 : (2 : Int32).toInt = 2 := (by decide); omega))
set_option maxHeartbeats 4000000 in
set_option maxRecDepth 100000 in
theorem jz_goal4 : jGoal4 := by
  intro L xs hL
  match L, hL with
  | 0, _ => exact jz_L0 xs
  | 1, _ => exact jz_L1 xs
  | 2, _ => exact jz_L2 xs
  | 3, _ => exact jz_L3 xs
  | 4, _ =>
    obtain ⟨n, hn, h⟩ := jz_and (xs 0)
    match n, hn, h with
    | 0, _, h => exact jz_o0 xs h
    | 1, _, h => exact jz_o1 xs h
    | 2, _, h => exact jz_o2 xs h
    | 3, _, h => exact jz_o3 xs h
    | 4, _, h => exact jz_o4 xs h
    | 5, _, h => exact jz_o5 xs h
    | 6, _, h => exact jz_o6 xs h
    | 7, _, h => exact jz_o7 xs h
    | 8, _, h => exact jz_o8 xs h
    | 9, _, h => exact jz_o9 xs h
    | 10, _, h => exact jz_o10 xs h
    | 11, _, h => exact jz_o11 xs h
    | 12, _, h => exact jz_o12 xs h
    | 13, _, h => exact jz_o13 xs h
    | 14, _, h => exact jz_o14 xs h
    | 15, _, h => exact jz_o15 xs h
    | 16, _, h => exact jz_o16 xs h
    | 17, _, h => exact jz_o17 xs h
    | 18, _, h => exact jz_o18 xs h
    | 19, _, h => exact jz_o19 xs h
    | 20, _, h => exact jz_o20 xs h
    | 21, _, h => exact jz_o21 xs h
    | 22, _, h => exact jz_o22 xs h
    | 23, _, h => exact jz_o23 xs h
    | 24, _, h => exact jz_o24 xs h
    | 25, _, h => exact jz_o25 xs h
    | 26, _, h => exact jz_o26 xs h
    | 27, _, h => exact jz_o27 xs h
    | 28, _, h => exact jz_o28 xs h
    | 29, _, h => exact jz_o29 xs h
    | 30, _, h => exact jz_o30 xs h
    | 31, _, h => exact jz_o31 xs h
    | n + 32, hn, _ => omega
  | L + 5, hL => omega
