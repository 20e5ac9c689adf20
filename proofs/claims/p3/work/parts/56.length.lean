def p16 : Nat → Int
  | 0 => 1
  | n + 1 => 16 * p16 n
/-- v goes into r bytes -/
def NB (v r : Int) : Prop := (v < 0 → 2 ≤ r) ∧ -(p16 r.toNat) ≤ v ∧ v < p16 r.toNat
theorem NB_of {v r p : Int} (hp : p16 r.toNat = p) (h0 : v < 0 → 2 ≤ r) (h1 : -p ≤ v) (h2 : v < p) : NB v r := by
  unfold NB
  rw [hp]
  exact ⟨h0, h1, h2⟩

set_option maxRecDepth 20000 in
set_option maxHeartbeats 4000000 in
theorem c_length_at_38_8 {X : jX} {d : Nat} {V : jH} {v : Int} (hd : 1 ≤ d + 1) (h_v : (-2147483648 : Int) ≤ v ∧ v ≤ 2147483647) : ∀ (L : jL) (lf : Int), jGet L 0 = some (.int (i32 (v))) → jGet L 1 = some (.int (i32 (8))) → jGet L 2 = some (.int (i32 lf)) → ((-2147483648 : Int) ≤ lf ∧ lf ≤ 2147483647) → (0 ≤ lf) → (lf ≤ 8) → ((0 ≤ v ∧ 268435456 * lf ≤ v ∧ v < 268435456 * (lf + 1)) ∨ (v < 0 ∧ 268435456 * lf ≤ (-v - 1) ∧ (-v - 1) < 268435456 * (lf + 1))) → wj X d jm360 (38, L, [], V) (fun o V_q => ∃ (r : Int), V_q = V ∧ o = .inl (some (.int (i32 r))) ∧ ((-2147483648 : Int) ≤ r ∧ r ≤ 2147483647) ∧ (1 ≤ r) ∧ (r ≤ 8) ∧ (NB (v) (r)) ∧ True) := by
  intro L lf gL_0 gL_1 gL_2 rx_lf iv_0 iv_1 iv_2
  refine jx_ld (pc_q := 39) (l_q := L) (st_q := [.int (i32 (lf))]) rfl (jl_iloadn gL_2) ?_
  refine jx_ar (pc_q := 41) (st_q := [.int (i32 (15)), .int (i32 (lf))]) rfl rfl rfl rfl ?_
  refine jx_icmp_le (pc_q := 44) (tg := 54) rfl rfl rfl (Int.le_trans (by decide : (-2147483648 : Int) ≤ -2147483648) rx_lf.1) (Int.le_trans rx_lf.2 (by decide : (2147483647 : Int) ≤ 2147483647)) (by decide) (by decide) (fun h1 => ?_) (fun h1 => ?_)
  · have _q := h1
    refine jx_ld (pc_q := 55) (l_q := L) (st_q := [.int (i32 (8))]) rfl (jl_iloadn gL_1) ?_
    refine jx_rt (v := some (.int (i32 (8)))) rfl rfl rfl rfl rfl rfl ?_
    exact ⟨_, rfl, rfl, by omega, by omega, by omega, (NB_of (p := 4294967296) rfl (by omega) (by omega) (by omega)), trivial⟩
  · have _q := h1
    exfalso
    omega
set_option maxRecDepth 20000 in
set_option maxHeartbeats 4000000 in
theorem c_length_at_38_7 {X : jX} {d : Nat} {V : jH} {v : Int} (hd : 1 ≤ d + 1) (h_v : (-2147483648 : Int) ≤ v ∧ v ≤ 2147483647) : ∀ (L : jL) (lf : Int), jGet L 0 = some (.int (i32 (v))) → jGet L 1 = some (.int (i32 (7))) → jGet L 2 = some (.int (i32 lf)) → ((-2147483648 : Int) ≤ lf ∧ lf ≤ 2147483647) → (0 ≤ lf) → (lf ≤ 128) → ((0 ≤ v ∧ 16777216 * lf ≤ v ∧ v < 16777216 * (lf + 1)) ∨ (v < 0 ∧ 16777216 * lf ≤ (-v - 1) ∧ (-v - 1) < 16777216 * (lf + 1))) → wj X d jm360 (38, L, [], V) (fun o V_q => ∃ (r : Int), V_q = V ∧ o = .inl (some (.int (i32 r))) ∧ ((-2147483648 : Int) ≤ r ∧ r ≤ 2147483647) ∧ (1 ≤ r) ∧ (r ≤ 8) ∧ (NB (v) (r)) ∧ True) := by
  intro L lf gL_0 gL_1 gL_2 rx_lf iv_0 iv_1 iv_2
  refine jx_ld (pc_q := 39) (l_q := L) (st_q := [.int (i32 (lf))]) rfl (jl_iloadn gL_2) ?_
  refine jx_ar (pc_q := 41) (st_q := [.int (i32 (15)), .int (i32 (lf))]) rfl rfl rfl rfl ?_
  refine jx_icmp_le (pc_q := 44) (tg := 54) rfl rfl rfl (Int.le_trans (by decide : (-2147483648 : Int) ≤ -2147483648) rx_lf.1) (Int.le_trans rx_lf.2 (by decide : (2147483647 : Int) ≤ 2147483647)) (by decide) (by decide) (fun h2 => ?_) (fun h2 => ?_)
  · have _q := h2
    refine jx_ld (pc_q := 55) (l_q := L) (st_q := [.int (i32 (7))]) rfl (jl_iloadn gL_1) ?_
    refine jx_rt (v := some (.int (i32 (7)))) rfl rfl rfl rfl rfl rfl ?_
    exact ⟨_, rfl, rfl, by omega, by omega, by omega, (NB_of (p := 268435456) rfl (by omega) (by omega) (by omega)), trivial⟩
  · have _q := h2
    refine jx_ld (pc_q := 45) (l_q := L) (st_q := [.int (i32 (lf))]) rfl (jl_iloadn gL_2) ?_
    refine jx_ar (pc_q := 46) (st_q := [.int (i32 (4)), .int (i32 (lf))]) rfl rfl rfl rfl ?_
    refine jx_shr (pc_q := 47) rfl rfl ?_
    obtain ⟨b3, eb3⟩ : ∃ z, z = (i32 (lf) >>> (i32 (4) &&& 31)).toInt := ⟨_, rfl⟩
    rw [← eb3]
    have rb3 : (-2147483648 : Int) ≤ b3 ∧ b3 ≤ 2147483647 := eb3 ▸ i32_rg _
    have hsb3 : b3 = lf / 16 := by rw [eb3]; exact shr_4 (by omega) (by omega)
    refine jx_ld (pc_q := 48) (l_q := jSto1 L 2 (.int (i32 (b3)))) (st_q := []) rfl rfl ?_
    obtain ⟨L4, eL4⟩ : ∃ q, q = jSto1 L 2 (.int (i32 (b3))) := ⟨_, rfl⟩
    rw [← eL4]
    have gL4_0 : jGet L4 0 = some (.int (i32 (v))) := eL4 ▸ jg_ne (by decide) gL_0 rfl
    have gL4_1 : jGet L4 1 = some (.int (i32 (7))) := eL4 ▸ jg_ne (by decide) gL_1 rfl
    have gL4_2 : jGet L4 2 = some (.int (i32 (b3))) := eL4 ▸ jg_eq
    refine jx_inc (pc_q := 51) (l_q := jSto1 L4 1 (.int (i32 ((7 + (1)))))) (x := 7) rfl gL4_1 (by decide) rfl rfl ?_
    obtain ⟨L5, eL5⟩ : ∃ q, q = jSto1 L4 1 (.int (i32 ((7 + (1))))) := ⟨_, rfl⟩
    rw [← eL5]
    have gL5_0 : jGet L5 0 = some (.int (i32 (v))) := eL5 ▸ jg_ne (by decide) gL4_0 rfl
    have gL5_2 : jGet L5 2 = some (.int (i32 (b3))) := eL5 ▸ jg_ne (by decide) gL4_2 rfl
    have gL5_1 : jGet L5 1 = some (.int (i32 ((7 + (1))))) := eL5 ▸ jg_eq
    refine jx_go (tg := 38) rfl rfl ?_
    exact c_length_at_38_8 (X := X) (d := d) (V := V) (v := v) (hd := hd) (h_v := h_v) L5 (b3) gL5_0 gL5_1 gL5_2 (by omega) (by omega) (by omega) (by omega)
set_option maxRecDepth 20000 in
set_option maxHeartbeats 4000000 in
theorem c_length_at_38_6 {X : jX} {d : Nat} {V : jH} {v : Int} (hd : 1 ≤ d + 1) (h_v : (-2147483648 : Int) ≤ v ∧ v ≤ 2147483647) : ∀ (L : jL) (lf : Int), jGet L 0 = some (.int (i32 (v))) → jGet L 1 = some (.int (i32 (6))) → jGet L 2 = some (.int (i32 lf)) → ((-2147483648 : Int) ≤ lf ∧ lf ≤ 2147483647) → (0 ≤ lf) → (lf ≤ 2048) → ((0 ≤ v ∧ 1048576 * lf ≤ v ∧ v < 1048576 * (lf + 1)) ∨ (v < 0 ∧ 1048576 * lf ≤ (-v - 1) ∧ (-v - 1) < 1048576 * (lf + 1))) → wj X d jm360 (38, L, [], V) (fun o V_q => ∃ (r : Int), V_q = V ∧ o = .inl (some (.int (i32 r))) ∧ ((-2147483648 : Int) ≤ r ∧ r ≤ 2147483647) ∧ (1 ≤ r) ∧ (r ≤ 8) ∧ (NB (v) (r)) ∧ True) := by
  intro L lf gL_0 gL_1 gL_2 rx_lf iv_0 iv_1 iv_2
  refine jx_ld (pc_q := 39) (l_q := L) (st_q := [.int (i32 (lf))]) rfl (jl_iloadn gL_2) ?_
  refine jx_ar (pc_q := 41) (st_q := [.int (i32 (15)), .int (i32 (lf))]) rfl rfl rfl rfl ?_
  refine jx_icmp_le (pc_q := 44) (tg := 54) rfl rfl rfl (Int.le_trans (by decide : (-2147483648 : Int) ≤ -2147483648) rx_lf.1) (Int.le_trans rx_lf.2 (by decide : (2147483647 : Int) ≤ 2147483647)) (by decide) (by decide) (fun h6 => ?_) (fun h6 => ?_)
  · have _q := h6
    refine jx_ld (pc_q := 55) (l_q := L) (st_q := [.int (i32 (6))]) rfl (jl_iloadn gL_1) ?_
    refine jx_rt (v := some (.int (i32 (6)))) rfl rfl rfl rfl rfl rfl ?_
    exact ⟨_, rfl, rfl, by omega, by omega, by omega, (NB_of (p := 16777216) rfl (by omega) (by omega) (by omega)), trivial⟩
  · have _q := h6
    refine jx_ld (pc_q := 45) (l_q := L) (st_q := [.int (i32 (lf))]) rfl (jl_iloadn gL_2) ?_
    refine jx_ar (pc_q := 46) (st_q := [.int (i32 (4)), .int (i32 (lf))]) rfl rfl rfl rfl ?_
    refine jx_shr (pc_q := 47) rfl rfl ?_
    obtain ⟨b7, eb7⟩ : ∃ z, z = (i32 (lf) >>> (i32 (4) &&& 31)).toInt := ⟨_, rfl⟩
    rw [← eb7]
    have rb7 : (-2147483648 : Int) ≤ b7 ∧ b7 ≤ 2147483647 := eb7 ▸ i32_rg _
    have hsb7 : b7 = lf / 16 := by rw [eb7]; exact shr_4 (by omega) (by omega)
    refine jx_ld (pc_q := 48) (l_q := jSto1 L 2 (.int (i32 (b7)))) (st_q := []) rfl rfl ?_
    obtain ⟨L8, eL8⟩ : ∃ q, q = jSto1 L 2 (.int (i32 (b7))) := ⟨_, rfl⟩
    rw [← eL8]
    have gL8_0 : jGet L8 0 = some (.int (i32 (v))) := eL8 ▸ jg_ne (by decide) gL_0 rfl
    have gL8_1 : jGet L8 1 = some (.int (i32 (6))) := eL8 ▸ jg_ne (by decide) gL_1 rfl
    have gL8_2 : jGet L8 2 = some (.int (i32 (b7))) := eL8 ▸ jg_eq
    refine jx_inc (pc_q := 51) (l_q := jSto1 L8 1 (.int (i32 ((6 + (1)))))) (x := 6) rfl gL8_1 (by decide) rfl rfl ?_
    obtain ⟨L9, eL9⟩ : ∃ q, q = jSto1 L8 1 (.int (i32 ((6 + (1))))) := ⟨_, rfl⟩
    rw [← eL9]
    have gL9_0 : jGet L9 0 = some (.int (i32 (v))) := eL9 ▸ jg_ne (by decide) gL8_0 rfl
    have gL9_2 : jGet L9 2 = some (.int (i32 (b7))) := eL9 ▸ jg_ne (by decide) gL8_2 rfl
    have gL9_1 : jGet L9 1 = some (.int (i32 ((6 + (1))))) := eL9 ▸ jg_eq
    refine jx_go (tg := 38) rfl rfl ?_
    exact c_length_at_38_7 (X := X) (d := d) (V := V) (v := v) (hd := hd) (h_v := h_v) L9 (b7) gL9_0 gL9_1 gL9_2 (by omega) (by omega) (by omega) (by omega)
set_option maxRecDepth 20000 in
set_option maxHeartbeats 4000000 in
theorem c_length_at_38_5 {X : jX} {d : Nat} {V : jH} {v : Int} (hd : 1 ≤ d + 1) (h_v : (-2147483648 : Int) ≤ v ∧ v ≤ 2147483647) : ∀ (L : jL) (lf : Int), jGet L 0 = some (.int (i32 (v))) → jGet L 1 = some (.int (i32 (5))) → jGet L 2 = some (.int (i32 lf)) → ((-2147483648 : Int) ≤ lf ∧ lf ≤ 2147483647) → (0 ≤ lf) → (lf ≤ 32768) → ((0 ≤ v ∧ 65536 * lf ≤ v ∧ v < 65536 * (lf + 1)) ∨ (v < 0 ∧ 65536 * lf ≤ (-v - 1) ∧ (-v - 1) < 65536 * (lf + 1))) → wj X d jm360 (38, L, [], V) (fun o V_q => ∃ (r : Int), V_q = V ∧ o = .inl (some (.int (i32 r))) ∧ ((-2147483648 : Int) ≤ r ∧ r ≤ 2147483647) ∧ (1 ≤ r) ∧ (r ≤ 8) ∧ (NB (v) (r)) ∧ True) := by
  intro L lf gL_0 gL_1 gL_2 rx_lf iv_0 iv_1 iv_2
  refine jx_ld (pc_q := 39) (l_q := L) (st_q := [.int (i32 (lf))]) rfl (jl_iloadn gL_2) ?_
  refine jx_ar (pc_q := 41) (st_q := [.int (i32 (15)), .int (i32 (lf))]) rfl rfl rfl rfl ?_
  refine jx_icmp_le (pc_q := 44) (tg := 54) rfl rfl rfl (Int.le_trans (by decide : (-2147483648 : Int) ≤ -2147483648) rx_lf.1) (Int.le_trans rx_lf.2 (by decide : (2147483647 : Int) ≤ 2147483647)) (by decide) (by decide) (fun h10 => ?_) (fun h10 => ?_)
  · have _q := h10
    refine jx_ld (pc_q := 55) (l_q := L) (st_q := [.int (i32 (5))]) rfl (jl_iloadn gL_1) ?_
    refine jx_rt (v := some (.int (i32 (5)))) rfl rfl rfl rfl rfl rfl ?_
    exact ⟨_, rfl, rfl, by omega, by omega, by omega, (NB_of (p := 1048576) rfl (by omega) (by omega) (by omega)), trivial⟩
  · have _q := h10
    refine jx_ld (pc_q := 45) (l_q := L) (st_q := [.int (i32 (lf))]) rfl (jl_iloadn gL_2) ?_
    refine jx_ar (pc_q := 46) (st_q := [.int (i32 (4)), .int (i32 (lf))]) rfl rfl rfl rfl ?_
    refine jx_shr (pc_q := 47) rfl rfl ?_
    obtain ⟨b11, eb11⟩ : ∃ z, z = (i32 (lf) >>> (i32 (4) &&& 31)).toInt := ⟨_, rfl⟩
    rw [← eb11]
    have rb11 : (-2147483648 : Int) ≤ b11 ∧ b11 ≤ 2147483647 := eb11 ▸ i32_rg _
    have hsb11 : b11 = lf / 16 := by rw [eb11]; exact shr_4 (by omega) (by omega)
    refine jx_ld (pc_q := 48) (l_q := jSto1 L 2 (.int (i32 (b11)))) (st_q := []) rfl rfl ?_
    obtain ⟨L12, eL12⟩ : ∃ q, q = jSto1 L 2 (.int (i32 (b11))) := ⟨_, rfl⟩
    rw [← eL12]
    have gL12_0 : jGet L12 0 = some (.int (i32 (v))) := eL12 ▸ jg_ne (by decide) gL_0 rfl
    have gL12_1 : jGet L12 1 = some (.int (i32 (5))) := eL12 ▸ jg_ne (by decide) gL_1 rfl
    have gL12_2 : jGet L12 2 = some (.int (i32 (b11))) := eL12 ▸ jg_eq
    refine jx_inc (pc_q := 51) (l_q := jSto1 L12 1 (.int (i32 ((5 + (1)))))) (x := 5) rfl gL12_1 (by decide) rfl rfl ?_
    obtain ⟨L13, eL13⟩ : ∃ q, q = jSto1 L12 1 (.int (i32 ((5 + (1))))) := ⟨_, rfl⟩
    rw [← eL13]
    have gL13_0 : jGet L13 0 = some (.int (i32 (v))) := eL13 ▸ jg_ne (by decide) gL12_0 rfl
    have gL13_2 : jGet L13 2 = some (.int (i32 (b11))) := eL13 ▸ jg_ne (by decide) gL12_2 rfl
    have gL13_1 : jGet L13 1 = some (.int (i32 ((5 + (1))))) := eL13 ▸ jg_eq
    refine jx_go (tg := 38) rfl rfl ?_
    exact c_length_at_38_6 (X := X) (d := d) (V := V) (v := v) (hd := hd) (h_v := h_v) L13 (b11) gL13_0 gL13_1 gL13_2 (by omega) (by omega) (by omega) (by omega)
set_option maxRecDepth 20000 in
set_option maxHeartbeats 4000000 in
theorem c_length_at_38_4 {X : jX} {d : Nat} {V : jH} {v : Int} (hd : 1 ≤ d + 1) (h_v : (-2147483648 : Int) ≤ v ∧ v ≤ 2147483647) : ∀ (L : jL) (lf : Int), jGet L 0 = some (.int (i32 (v))) → jGet L 1 = some (.int (i32 (4))) → jGet L 2 = some (.int (i32 lf)) → ((-2147483648 : Int) ≤ lf ∧ lf ≤ 2147483647) → (0 ≤ lf) → (lf ≤ 524288) → ((0 ≤ v ∧ 4096 * lf ≤ v ∧ v < 4096 * (lf + 1)) ∨ (v < 0 ∧ 4096 * lf ≤ (-v - 1) ∧ (-v - 1) < 4096 * (lf + 1))) → wj X d jm360 (38, L, [], V) (fun o V_q => ∃ (r : Int), V_q = V ∧ o = .inl (some (.int (i32 r))) ∧ ((-2147483648 : Int) ≤ r ∧ r ≤ 2147483647) ∧ (1 ≤ r) ∧ (r ≤ 8) ∧ (NB (v) (r)) ∧ True) := by
  intro L lf gL_0 gL_1 gL_2 rx_lf iv_0 iv_1 iv_2
  refine jx_ld (pc_q := 39) (l_q := L) (st_q := [.int (i32 (lf))]) rfl (jl_iloadn gL_2) ?_
  refine jx_ar (pc_q := 41) (st_q := [.int (i32 (15)), .int (i32 (lf))]) rfl rfl rfl rfl ?_
  refine jx_icmp_le (pc_q := 44) (tg := 54) rfl rfl rfl (Int.le_trans (by decide : (-2147483648 : Int) ≤ -2147483648) rx_lf.1) (Int.le_trans rx_lf.2 (by decide : (2147483647 : Int) ≤ 2147483647)) (by decide) (by decide) (fun h14 => ?_) (fun h14 => ?_)
  · have _q := h14
    refine jx_ld (pc_q := 55) (l_q := L) (st_q := [.int (i32 (4))]) rfl (jl_iloadn gL_1) ?_
    refine jx_rt (v := some (.int (i32 (4)))) rfl rfl rfl rfl rfl rfl ?_
    exact ⟨_, rfl, rfl, by omega, by omega, by omega, (NB_of (p := 65536) rfl (by omega) (by omega) (by omega)), trivial⟩
  · have _q := h14
    refine jx_ld (pc_q := 45) (l_q := L) (st_q := [.int (i32 (lf))]) rfl (jl_iloadn gL_2) ?_
    refine jx_ar (pc_q := 46) (st_q := [.int (i32 (4)), .int (i32 (lf))]) rfl rfl rfl rfl ?_
    refine jx_shr (pc_q := 47) rfl rfl ?_
    obtain ⟨b15, eb15⟩ : ∃ z, z = (i32 (lf) >>> (i32 (4) &&& 31)).toInt := ⟨_, rfl⟩
    rw [← eb15]
    have rb15 : (-2147483648 : Int) ≤ b15 ∧ b15 ≤ 2147483647 := eb15 ▸ i32_rg _
    have hsb15 : b15 = lf / 16 := by rw [eb15]; exact shr_4 (by omega) (by omega)
    refine jx_ld (pc_q := 48) (l_q := jSto1 L 2 (.int (i32 (b15)))) (st_q := []) rfl rfl ?_
    obtain ⟨L16, eL16⟩ : ∃ q, q = jSto1 L 2 (.int (i32 (b15))) := ⟨_, rfl⟩
    rw [← eL16]
    have gL16_0 : jGet L16 0 = some (.int (i32 (v))) := eL16 ▸ jg_ne (by decide) gL_0 rfl
    have gL16_1 : jGet L16 1 = some (.int (i32 (4))) := eL16 ▸ jg_ne (by decide) gL_1 rfl
    have gL16_2 : jGet L16 2 = some (.int (i32 (b15))) := eL16 ▸ jg_eq
    refine jx_inc (pc_q := 51) (l_q := jSto1 L16 1 (.int (i32 ((4 + (1)))))) (x := 4) rfl gL16_1 (by decide) rfl rfl ?_
    obtain ⟨L17, eL17⟩ : ∃ q, q = jSto1 L16 1 (.int (i32 ((4 + (1))))) := ⟨_, rfl⟩
    rw [← eL17]
    have gL17_0 : jGet L17 0 = some (.int (i32 (v))) := eL17 ▸ jg_ne (by decide) gL16_0 rfl
    have gL17_2 : jGet L17 2 = some (.int (i32 (b15))) := eL17 ▸ jg_ne (by decide) gL16_2 rfl
    have gL17_1 : jGet L17 1 = some (.int (i32 ((4 + (1))))) := eL17 ▸ jg_eq
    refine jx_go (tg := 38) rfl rfl ?_
    exact c_length_at_38_5 (X := X) (d := d) (V := V) (v := v) (hd := hd) (h_v := h_v) L17 (b15) gL17_0 gL17_1 gL17_2 (by omega) (by omega) (by omega) (by omega)
set_option maxRecDepth 20000 in
set_option maxHeartbeats 4000000 in
theorem c_length_at_38_3 {X : jX} {d : Nat} {V : jH} {v : Int} (hd : 1 ≤ d + 1) (h_v : (-2147483648 : Int) ≤ v ∧ v ≤ 2147483647) : ∀ (L : jL) (lf : Int), jGet L 0 = some (.int (i32 (v))) → jGet L 1 = some (.int (i32 (3))) → jGet L 2 = some (.int (i32 lf)) → ((-2147483648 : Int) ≤ lf ∧ lf ≤ 2147483647) → (0 ≤ lf) → (lf ≤ 8388608) → ((0 ≤ v ∧ 256 * lf ≤ v ∧ v < 256 * (lf + 1)) ∨ (v < 0 ∧ 256 * lf ≤ (-v - 1) ∧ (-v - 1) < 256 * (lf + 1))) → wj X d jm360 (38, L, [], V) (fun o V_q => ∃ (r : Int), V_q = V ∧ o = .inl (some (.int (i32 r))) ∧ ((-2147483648 : Int) ≤ r ∧ r ≤ 2147483647) ∧ (1 ≤ r) ∧ (r ≤ 8) ∧ (NB (v) (r)) ∧ True) := by
  intro L lf gL_0 gL_1 gL_2 rx_lf iv_0 iv_1 iv_2
  refine jx_ld (pc_q := 39) (l_q := L) (st_q := [.int (i32 (lf))]) rfl (jl_iloadn gL_2) ?_
  refine jx_ar (pc_q := 41) (st_q := [.int (i32 (15)), .int (i32 (lf))]) rfl rfl rfl rfl ?_
  refine jx_icmp_le (pc_q := 44) (tg := 54) rfl rfl rfl (Int.le_trans (by decide : (-2147483648 : Int) ≤ -2147483648) rx_lf.1) (Int.le_trans rx_lf.2 (by decide : (2147483647 : Int) ≤ 2147483647)) (by decide) (by decide) (fun h18 => ?_) (fun h18 => ?_)
  · have _q := h18
    refine jx_ld (pc_q := 55) (l_q := L) (st_q := [.int (i32 (3))]) rfl (jl_iloadn gL_1) ?_
    refine jx_rt (v := some (.int (i32 (3)))) rfl rfl rfl rfl rfl rfl ?_
    exact ⟨_, rfl, rfl, by omega, by omega, by omega, (NB_of (p := 4096) rfl (by omega) (by omega) (by omega)), trivial⟩
  · have _q := h18
    refine jx_ld (pc_q := 45) (l_q := L) (st_q := [.int (i32 (lf))]) rfl (jl_iloadn gL_2) ?_
    refine jx_ar (pc_q := 46) (st_q := [.int (i32 (4)), .int (i32 (lf))]) rfl rfl rfl rfl ?_
    refine jx_shr (pc_q := 47) rfl rfl ?_
    obtain ⟨b19, eb19⟩ : ∃ z, z = (i32 (lf) >>> (i32 (4) &&& 31)).toInt := ⟨_, rfl⟩
    rw [← eb19]
    have rb19 : (-2147483648 : Int) ≤ b19 ∧ b19 ≤ 2147483647 := eb19 ▸ i32_rg _
    have hsb19 : b19 = lf / 16 := by rw [eb19]; exact shr_4 (by omega) (by omega)
    refine jx_ld (pc_q := 48) (l_q := jSto1 L 2 (.int (i32 (b19)))) (st_q := []) rfl rfl ?_
    obtain ⟨L20, eL20⟩ : ∃ q, q = jSto1 L 2 (.int (i32 (b19))) := ⟨_, rfl⟩
    rw [← eL20]
    have gL20_0 : jGet L20 0 = some (.int (i32 (v))) := eL20 ▸ jg_ne (by decide) gL_0 rfl
    have gL20_1 : jGet L20 1 = some (.int (i32 (3))) := eL20 ▸ jg_ne (by decide) gL_1 rfl
    have gL20_2 : jGet L20 2 = some (.int (i32 (b19))) := eL20 ▸ jg_eq
    refine jx_inc (pc_q := 51) (l_q := jSto1 L20 1 (.int (i32 ((3 + (1)))))) (x := 3) rfl gL20_1 (by decide) rfl rfl ?_
    obtain ⟨L21, eL21⟩ : ∃ q, q = jSto1 L20 1 (.int (i32 ((3 + (1))))) := ⟨_, rfl⟩
    rw [← eL21]
    have gL21_0 : jGet L21 0 = some (.int (i32 (v))) := eL21 ▸ jg_ne (by decide) gL20_0 rfl
    have gL21_2 : jGet L21 2 = some (.int (i32 (b19))) := eL21 ▸ jg_ne (by decide) gL20_2 rfl
    have gL21_1 : jGet L21 1 = some (.int (i32 ((3 + (1))))) := eL21 ▸ jg_eq
    refine jx_go (tg := 38) rfl rfl ?_
    exact c_length_at_38_4 (X := X) (d := d) (V := V) (v := v) (hd := hd) (h_v := h_v) L21 (b19) gL21_0 gL21_1 gL21_2 (by omega) (by omega) (by omega) (by omega)
set_option maxRecDepth 20000 in
set_option maxHeartbeats 4000000 in
theorem c_length_at_38_2 {X : jX} {d : Nat} {V : jH} {v : Int} (hd : 1 ≤ d + 1) (h_v : (-2147483648 : Int) ≤ v ∧ v ≤ 2147483647) : ∀ (L : jL) (lf : Int), jGet L 0 = some (.int (i32 (v))) → jGet L 1 = some (.int (i32 (2))) → jGet L 2 = some (.int (i32 lf)) → ((-2147483648 : Int) ≤ lf ∧ lf ≤ 2147483647) → (0 ≤ lf) → (lf ≤ 134217728) → ((0 ≤ v ∧ 16 * lf ≤ v ∧ v < 16 * (lf + 1)) ∨ (v < 0 ∧ 16 * lf ≤ (-v - 1) ∧ (-v - 1) < 16 * (lf + 1))) → wj X d jm360 (38, L, [], V) (fun o V_q => ∃ (r : Int), V_q = V ∧ o = .inl (some (.int (i32 r))) ∧ ((-2147483648 : Int) ≤ r ∧ r ≤ 2147483647) ∧ (1 ≤ r) ∧ (r ≤ 8) ∧ (NB (v) (r)) ∧ True) := by
  intro L lf gL_0 gL_1 gL_2 rx_lf iv_0 iv_1 iv_2
  refine jx_ld (pc_q := 39) (l_q := L) (st_q := [.int (i32 (lf))]) rfl (jl_iloadn gL_2) ?_
  refine jx_ar (pc_q := 41) (st_q := [.int (i32 (15)), .int (i32 (lf))]) rfl rfl rfl rfl ?_
  refine jx_icmp_le (pc_q := 44) (tg := 54) rfl rfl rfl (Int.le_trans (by decide : (-2147483648 : Int) ≤ -2147483648) rx_lf.1) (Int.le_trans rx_lf.2 (by decide : (2147483647 : Int) ≤ 2147483647)) (by decide) (by decide) (fun h22 => ?_) (fun h22 => ?_)
  · have _q := h22
    refine jx_ld (pc_q := 55) (l_q := L) (st_q := [.int (i32 (2))]) rfl (jl_iloadn gL_1) ?_
    refine jx_rt (v := some (.int (i32 (2)))) rfl rfl rfl rfl rfl rfl ?_
    exact ⟨_, rfl, rfl, by omega, by omega, by omega, (NB_of (p := 256) rfl (by omega) (by omega) (by omega)), trivial⟩
  · have _q := h22
    refine jx_ld (pc_q := 45) (l_q := L) (st_q := [.int (i32 (lf))]) rfl (jl_iloadn gL_2) ?_
    refine jx_ar (pc_q := 46) (st_q := [.int (i32 (4)), .int (i32 (lf))]) rfl rfl rfl rfl ?_
    refine jx_shr (pc_q := 47) rfl rfl ?_
    obtain ⟨b23, eb23⟩ : ∃ z, z = (i32 (lf) >>> (i32 (4) &&& 31)).toInt := ⟨_, rfl⟩
    rw [← eb23]
    have rb23 : (-2147483648 : Int) ≤ b23 ∧ b23 ≤ 2147483647 := eb23 ▸ i32_rg _
    have hsb23 : b23 = lf / 16 := by rw [eb23]; exact shr_4 (by omega) (by omega)
    refine jx_ld (pc_q := 48) (l_q := jSto1 L 2 (.int (i32 (b23)))) (st_q := []) rfl rfl ?_
    obtain ⟨L24, eL24⟩ : ∃ q, q = jSto1 L 2 (.int (i32 (b23))) := ⟨_, rfl⟩
    rw [← eL24]
    have gL24_0 : jGet L24 0 = some (.int (i32 (v))) := eL24 ▸ jg_ne (by decide) gL_0 rfl
    have gL24_1 : jGet L24 1 = some (.int (i32 (2))) := eL24 ▸ jg_ne (by decide) gL_1 rfl
    have gL24_2 : jGet L24 2 = some (.int (i32 (b23))) := eL24 ▸ jg_eq
    refine jx_inc (pc_q := 51) (l_q := jSto1 L24 1 (.int (i32 ((2 + (1)))))) (x := 2) rfl gL24_1 (by decide) rfl rfl ?_
    obtain ⟨L25, eL25⟩ : ∃ q, q = jSto1 L24 1 (.int (i32 ((2 + (1))))) := ⟨_, rfl⟩
    rw [← eL25]
    have gL25_0 : jGet L25 0 = some (.int (i32 (v))) := eL25 ▸ jg_ne (by decide) gL24_0 rfl
    have gL25_2 : jGet L25 2 = some (.int (i32 (b23))) := eL25 ▸ jg_ne (by decide) gL24_2 rfl
    have gL25_1 : jGet L25 1 = some (.int (i32 ((2 + (1))))) := eL25 ▸ jg_eq
    refine jx_go (tg := 38) rfl rfl ?_
    exact c_length_at_38_3 (X := X) (d := d) (V := V) (v := v) (hd := hd) (h_v := h_v) L25 (b23) gL25_0 gL25_1 gL25_2 (by omega) (by omega) (by omega) (by omega)
set_option maxRecDepth 20000 in
set_option maxHeartbeats 4000000 in
theorem c_length {X : jX} {dd : Nat} {V : jH} {v : Int} (hd : 1 ≤ dd) (h_v : (-2147483648 : Int) ≤ v ∧ v ≤ 2147483647) : wk X dd 360 [.int (i32 v)] V (fun o V_q => ∃ (r : Int), V_q = V ∧ o = .inl (some (.int (i32 r))) ∧ ((-2147483648 : Int) ≤ r ∧ r ≤ 2147483647) ∧ (1 ≤ r) ∧ (r ≤ 8) ∧ (NB (v) (r)) ∧ True) := by
  obtain ⟨d, rfl⟩ : ∃ d, dd = d + 1 := ⟨dd - 1, by omega⟩
  refine wk_of (e := jm360) rfl (Nat.le_of_ble_eq_true rfl) ?_
  show wj X d jm360 (0, [(0, .int (i32 (v)))], [], V) _
  refine jx_ar (pc_q := 1) (st_q := [.int (i32 (1))]) rfl rfl rfl rfl ?_
  refine jx_ld (pc_q := 2) (l_q := jSto1 [(0, .int (i32 (v)))] 1 (.int (i32 (1)))) (st_q := []) rfl rfl ?_
  obtain ⟨L26, eL26⟩ : ∃ q, q = jSto1 [(0, .int (i32 (v)))] 1 (.int (i32 (1))) := ⟨_, rfl⟩
  rw [← eL26]
  have gL26_0 : jGet L26 0 = some (.int (i32 (v))) := eL26 ▸ jg_ne (by decide) (rfl : jGet [(0, .int (i32 (v)))] 0 = some (.int (i32 (v)))) rfl
  have gL26_1 : jGet L26 1 = some (.int (i32 (1))) := eL26 ▸ jg_eq
  refine jx_ld (pc_q := 3) (l_q := L26) (st_q := [.int (i32 (v))]) rfl (jl_iloadn gL26_0) ?_
  refine jx_ld (pc_q := 4) (l_q := jSto1 L26 2 (.int (i32 (v)))) (st_q := []) rfl rfl ?_
  obtain ⟨L27, eL27⟩ : ∃ q, q = jSto1 L26 2 (.int (i32 (v))) := ⟨_, rfl⟩
  rw [← eL27]
  have gL27_0 : jGet L27 0 = some (.int (i32 (v))) := eL27 ▸ jg_ne (by decide) gL26_0 rfl
  have gL27_1 : jGet L27 1 = some (.int (i32 (1))) := eL27 ▸ jg_ne (by decide) gL26_1 rfl
  have gL27_2 : jGet L27 2 = some (.int (i32 (v))) := eL27 ▸ jg_eq
  refine jx_ld (pc_q := 5) (l_q := L27) (st_q := [.int (i32 (v))]) rfl (jl_iloadn gL27_2) ?_
  refine jx_if_ge (pc_q := 8) (tg := 20) rfl rfl rfl (Int.le_trans (by decide : (-2147483648 : Int) ≤ -2147483648) h_v.1) (Int.le_trans h_v.2 (by decide : (2147483647 : Int) ≤ 2147483647)) (fun h28 => ?_) (fun h28 => ?_)
  · have _q := h28
    refine jx_ld (pc_q := 21) (l_q := L27) (st_q := [.int (i32 (v))]) rfl (jl_iloadn gL27_2) ?_
    refine jx_ar (pc_q := 23) (st_q := [.int (i32 (15)), .int (i32 (v))]) rfl rfl rfl rfl ?_
    refine jx_icmp_le (pc_q := 26) (tg := 36) rfl rfl rfl (Int.le_trans (by decide : (-2147483648 : Int) ≤ -2147483648) h_v.1) (Int.le_trans h_v.2 (by decide : (2147483647 : Int) ≤ 2147483647)) (by decide) (by decide) (fun h29 => ?_) (fun h29 => ?_)
    · have _q := h29
      refine jx_ar (pc_q := 37) (st_q := [.int (i32 (1))]) rfl rfl rfl rfl ?_
      refine jx_rt (v := some (.int (i32 (1)))) rfl rfl rfl rfl rfl rfl ?_
      exact ⟨_, rfl, rfl, by omega, by omega, by omega, (NB_of (p := 16) rfl (by omega) (by omega) (by omega)), trivial⟩
    · have _q := h29
      refine jx_ld (pc_q := 27) (l_q := L27) (st_q := [.int (i32 (v))]) rfl (jl_iloadn gL27_2) ?_
      refine jx_ar (pc_q := 28) (st_q := [.int (i32 (4)), .int (i32 (v))]) rfl rfl rfl rfl ?_
      refine jx_shr (pc_q := 29) rfl rfl ?_
      obtain ⟨b30, eb30⟩ : ∃ z, z = (i32 (v) >>> (i32 (4) &&& 31)).toInt := ⟨_, rfl⟩
      rw [← eb30]
      have rb30 : (-2147483648 : Int) ≤ b30 ∧ b30 ≤ 2147483647 := eb30 ▸ i32_rg _
      have hsb30 : b30 = v / 16 := by rw [eb30]; exact shr_4 (by omega) (by omega)
      refine jx_ld (pc_q := 30) (l_q := jSto1 L27 2 (.int (i32 (b30)))) (st_q := []) rfl rfl ?_
      obtain ⟨L31, eL31⟩ : ∃ q, q = jSto1 L27 2 (.int (i32 (b30))) := ⟨_, rfl⟩
      rw [← eL31]
      have gL31_0 : jGet L31 0 = some (.int (i32 (v))) := eL31 ▸ jg_ne (by decide) gL27_0 rfl
      have gL31_1 : jGet L31 1 = some (.int (i32 (1))) := eL31 ▸ jg_ne (by decide) gL27_1 rfl
      have gL31_2 : jGet L31 2 = some (.int (i32 (b30))) := eL31 ▸ jg_eq
      refine jx_inc (pc_q := 33) (l_q := jSto1 L31 1 (.int (i32 ((1 + (1)))))) (x := 1) rfl gL31_1 (by decide) rfl rfl ?_
      obtain ⟨L32, eL32⟩ : ∃ q, q = jSto1 L31 1 (.int (i32 ((1 + (1))))) := ⟨_, rfl⟩
      rw [← eL32]
      have gL32_0 : jGet L32 0 = some (.int (i32 (v))) := eL32 ▸ jg_ne (by decide) gL31_0 rfl
      have gL32_2 : jGet L32 2 = some (.int (i32 (b30))) := eL32 ▸ jg_ne (by decide) gL31_2 rfl
      have gL32_1 : jGet L32 1 = some (.int (i32 ((1 + (1))))) := eL32 ▸ jg_eq
      refine jx_go (tg := 38) rfl rfl ?_
      exact c_length_at_38_2 (X := X) (d := d) (V := V) (v := v) (hd := hd) (h_v := h_v) L32 (b30) gL32_0 gL32_1 gL32_2 (by omega) (by omega) (by omega) (by omega)
  · have _q := h28
    refine jx_ld (pc_q := 9) (l_q := L27) (st_q := [.int (i32 (v))]) rfl (jl_iloadn gL27_2) ?_
    refine jx_ar (pc_q := 10) (st_q := [.int (i32 (-1)), .int (i32 (v))]) rfl rfl rfl rfl ?_
    refine jx_xor (pc_q := 11) rfl rfl ?_
    obtain ⟨b33, eb33⟩ : ∃ z, z = (i32 (v) ^^^ i32 (-1)).toInt := ⟨_, rfl⟩
    rw [← eb33]
    have rb33 : (-2147483648 : Int) ≤ b33 ∧ b33 ≤ 2147483647 := eb33 ▸ i32_rg _
    have hxb33 : b33 = -v - 1 := by rw [eb33]; exact not_1 (by omega) (by omega)
    refine jx_ar (pc_q := 12) (st_q := [.int (i32 (4)), .int (i32 (b33))]) rfl rfl rfl rfl ?_
    refine jx_shr (pc_q := 13) rfl rfl ?_
    obtain ⟨b34, eb34⟩ : ∃ z, z = (i32 (b33) >>> (i32 (4) &&& 31)).toInt := ⟨_, rfl⟩
    rw [← eb34]
    have rb34 : (-2147483648 : Int) ≤ b34 ∧ b34 ≤ 2147483647 := eb34 ▸ i32_rg _
    have hsb34 : b34 = b33 / 16 := by rw [eb34]; exact shr_4 (by omega) (by omega)
    refine jx_ld (pc_q := 14) (l_q := jSto1 L27 2 (.int (i32 (b34)))) (st_q := []) rfl rfl ?_
    obtain ⟨L35, eL35⟩ : ∃ q, q = jSto1 L27 2 (.int (i32 (b34))) := ⟨_, rfl⟩
    rw [← eL35]
    have gL35_0 : jGet L35 0 = some (.int (i32 (v))) := eL35 ▸ jg_ne (by decide) gL27_0 rfl
    have gL35_1 : jGet L35 1 = some (.int (i32 (1))) := eL35 ▸ jg_ne (by decide) gL27_1 rfl
    have gL35_2 : jGet L35 2 = some (.int (i32 (b34))) := eL35 ▸ jg_eq
    refine jx_inc (pc_q := 17) (l_q := jSto1 L35 1 (.int (i32 ((1 + (1)))))) (x := 1) rfl gL35_1 (by decide) rfl rfl ?_
    obtain ⟨L36, eL36⟩ : ∃ q, q = jSto1 L35 1 (.int (i32 ((1 + (1))))) := ⟨_, rfl⟩
    rw [← eL36]
    have gL36_0 : jGet L36 0 = some (.int (i32 (v))) := eL36 ▸ jg_ne (by decide) gL35_0 rfl
    have gL36_2 : jGet L36 2 = some (.int (i32 (b34))) := eL36 ▸ jg_ne (by decide) gL35_2 rfl
    have gL36_1 : jGet L36 1 = some (.int (i32 ((1 + (1))))) := eL36 ▸ jg_eq
    refine jx_go (tg := 38) rfl rfl ?_
    exact c_length_at_38_2 (X := X) (d := d) (V := V) (v := v) (hd := hd) (h_v := h_v) L36 (b34) gL36_0 gL36_1 gL36_2 (by omega) (by omega) (by omega) (by omega)
