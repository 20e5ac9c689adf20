def tz (z : Int) : Int := if z = 0 then 0 else 1
theorem tz_f (z : Int) : (z = 0 ∧ tz z = 0) ∨ (z ≠ 0 ∧ tz z = 1) := by
  unfold tz
  by_cases h : z = 0
  · rw [if_pos h]
    exact .inl ⟨h, rfl⟩
  · rw [if_neg h]
    exact .inr ⟨h, rfl⟩
theorem tz_b (z : Int) : 0 ≤ tz z ∧ tz z ≤ 1 := by
  rcases tz_f z with h | h <;> omega

theorem uA_ne {A : Nat → Nat → Int} {k j n : Nat} {z : Int} (h : j ≠ k) : uA A k n z j = A j := funext (fun m => if_neg (fun q => h q.1))
theorem uA_eq {A : Nat → Nat → Int} {k n : Nat} {z : Int} : uA A k n z k n = z := if_pos ⟨rfl, rfl⟩
theorem uA_ni {A : Nat → Nat → Int} {k n m : Nat} {z : Int} (h : m ≠ n) : uA A k n z k m = A k m := if_neg (fun q => h q.2)
def nr : List Nat := [15, 16, 17, 18, 19, 20, 21, 22, 23, 24, 25, 26, 27, 28]
/-- the nodes below z are as they were -/
def Pf (z : Int) (A A_q : Nat → Nat → Int) : Prop := ∀ k j : Nat, nr.elem k = true → (j : Int) < z → A_q k j = A k j
theorem Pf_rf {z : Int} {A : Nat → Nat → Int} : Pf z A A := fun _ _ _ _ => rfl
theorem Pf_a {w z v : Int} {A A_q : Nat → Nat → Int} {k : Nat} (h : Pf w A A_q) (h0 : 0 ≤ z) (hz : w ≤ z) : Pf w A (uA A_q k z.toNat v) := by
  intro k_q j hk hj
  rw [← h k_q j hk hj]
  exact if_neg (fun q => by omega)
theorem Pf_n {w v : Int} {A A_q : Nat → Nat → Int} {k n : Nat} (h : Pf w A A_q) (hn : nr.elem k = false) : Pf w A (uA A_q k n v) := by
  intro k_q j hk hj
  rw [← h k_q j hk hj]
  exact if_neg (fun q => by
    rw [q.1, hn] at hk
    cases hk)
theorem Pf_tr {w z : Int} {A A1 A2 : Nat → Nat → Int} (h : Pf w A A1) (h2 : Pf z A1 A2) (hz : w ≤ z) : Pf w A A2 := fun k j hk hj => (h2 k j hk (by omega)).trans (h k j hk hj)
theorem Pf_f {w : Int} {A A1 A2 : Nat → Nat → Int} {gs as : List Nat} {G1 G2 : Nat → Int} (h : Pf w A A1) (hF : Fr gs as G1 A1 G2 A2) (hd : nr.all (fun k => !as.elem k) = true) : Pf w A A2 := fun k j hk hj => by
  have e : as.elem k = false := by
    have := List.all_eq_true.mp hd k (List.elem_iff.mp hk)
    simpa using this
  rw [hF.2 k e]
  exact h k j hk hj
theorem jg_eq {l : jL} {i : Nat} {v : Value} : jGet (jSto1 l i v) i = some v := by
  simp [jGet, jSto1]
theorem jg_flt {P : Nat × Value → Bool} {j : Nat} {x : Nat × Value} (hP : P x = true) : ∀ {l : jL}, l.find? (fun q => q.1 == j) = some x → (l.filter P).find? (fun q => q.1 == j) = some x
  | [], h => by cases h
  | p :: ps, h => by
    rw [List.find?_cons] at h
    cases hp : (p.1 == j) with
    | true =>
      rw [hp] at h
      cases h
      rw [List.filter_cons_of_pos hP, List.find?_cons, hp]
    | false =>
      rw [hp] at h
      by_cases hq : P p = true
      · rw [List.filter_cons_of_pos hq, List.find?_cons, hp]
        exact jg_flt hP h
      · rw [List.filter_cons_of_neg hq]
        exact jg_flt hP h
theorem jg_ne {l : jL} {i j : Nat} {v u : Value} (h : i ≠ j) (g : jGet l j = some u) (h2 : (u.category == 2) = false) : jGet (jSto1 l i v) j = some u := by
  unfold jGet at g ⊢
  obtain ⟨x, hx, rfl⟩ := Option.map_eq_some_iff.mp g
  have hj : x.1 = j := by simpa using List.find?_some hx
  have hi : (x.1 == i) = false := by
    rw [hj]
    simpa using fun q : j = i => h q.symm
  unfold jSto1
  have h4 : ((i, v).1 == j) = false := by simpa using h
  rw [List.find?_cons, h4]
  simp only
  rw [jg_flt (x := x) (by simp [hi, h2]) hx]
  rfl
theorem jl_iloadn {l : jL} {a : Fin 4} {n m : Nat} {x : Int32} {st : List Value} (h : jGet l a.val = some (.int x)) : jLoad (.iload_n a) 1 n m l st = some (n + 1, l, .int x :: st) := by
  simp only [jLoad, h]
theorem jl_iload {l : jL} {a n m : Nat} {x : Int32} {st : List Value} (h : jGet l a = some (.int x)) : jLoad (.iload a) 2 n m l st = some (n + 2, l, .int x :: st) := by
  simp only [jLoad, h]
theorem jl_aloadn {l : jL} {a : Fin 4} {n m r : Nat} {st : List Value} (h : jGet l a.val = some (.ref r)) : jLoad (.aload_n a) 1 n m l st = some (n + 1, l, .ref r :: st) := by
  simp only [jLoad, h, jIsR, if_true]
set_option maxRecDepth 20000 in
set_option maxHeartbeats 4000000 in
theorem c_in {X : jX} {dd : Nat} {V : jH} {v a b : Int} (hd : 1 ≤ dd) (h_v : (-2147483648 : Int) ≤ v ∧ v ≤ 2147483647) (h_a : (-2147483648 : Int) ≤ a ∧ a ≤ 2147483647) (h_b : (-2147483648 : Int) ≤ b ∧ b ≤ 2147483647) : wk X dd 246 [.int (i32 v), .int (i32 a), .int (i32 b)] V (fun o V_q => ∃ (r : Int), V_q = V ∧ o = .inl (some (.int (i32 r))) ∧ ((0 : Int) ≤ r ∧ r ≤ 1) ∧ ((r = 1 ∧ (a ≤ v) ∧ (v ≤ b)) ∨ (r = 0 ∧ (v < a ∨ b < v)))) := by
  obtain ⟨d, rfl⟩ : ∃ d, dd = d + 1 := ⟨dd - 1, by omega⟩
  refine wk_of (e := jm246) rfl (Nat.le_of_ble_eq_true rfl) ?_
  show wj X d jm246 (0, [(0, .int (i32 (v))), (1, .int (i32 (a))), (2, .int (i32 (b)))], [], V) _
  refine jx_ld (pc_q := 1) (l_q := [(0, .int (i32 (v))), (1, .int (i32 (a))), (2, .int (i32 (b)))]) (st_q := [.int (i32 (v))]) rfl (jl_iloadn rfl) ?_
  refine jx_ld (pc_q := 2) (l_q := [(0, .int (i32 (v))), (1, .int (i32 (a))), (2, .int (i32 (b)))]) (st_q := [.int (i32 (a)), .int (i32 (v))]) rfl (jl_iloadn rfl) ?_
  refine jx_icmp_lt (pc_q := 5) (tg := 14) rfl rfl rfl (Int.le_trans (by decide : (-2147483648 : Int) ≤ -2147483648) h_v.1) (Int.le_trans h_v.2 (by decide : (2147483647 : Int) ≤ 2147483647)) (Int.le_trans (by decide : (-2147483648 : Int) ≤ -2147483648) h_a.1) (Int.le_trans h_a.2 (by decide : (2147483647 : Int) ≤ 2147483647)) (fun h1 => ?_) (fun h1 => ?_)
  · have _q := h1
    refine jx_ar (pc_q := 15) (st_q := [.int (i32 (0))]) rfl rfl rfl rfl ?_
    refine jx_rt (v := some (.int (i32 (0)))) rfl rfl rfl rfl rfl (by first | rfl | exact jRet_b (by omega)) ?_
    exact ⟨_, rfl, rfl, by omega, by first | exact Or.inl (⟨by omega, by omega, by omega⟩) | exact Or.inr ((⟨by omega, by omega⟩))⟩
  · have _q := h1
    refine jx_ld (pc_q := 6) (l_q := [(0, .int (i32 (v))), (1, .int (i32 (a))), (2, .int (i32 (b)))]) (st_q := [.int (i32 (v))]) rfl (jl_iloadn rfl) ?_
    refine jx_ld (pc_q := 7) (l_q := [(0, .int (i32 (v))), (1, .int (i32 (a))), (2, .int (i32 (b)))]) (st_q := [.int (i32 (b)), .int (i32 (v))]) rfl (jl_iloadn rfl) ?_
    refine jx_icmp_gt (pc_q := 10) (tg := 14) rfl rfl rfl (Int.le_trans (by decide : (-2147483648 : Int) ≤ -2147483648) h_v.1) (Int.le_trans h_v.2 (by decide : (2147483647 : Int) ≤ 2147483647)) (Int.le_trans (by decide : (-2147483648 : Int) ≤ -2147483648) h_b.1) (Int.le_trans h_b.2 (by decide : (2147483647 : Int) ≤ 2147483647)) (fun h2 => ?_) (fun h2 => ?_)
    · have _q := h2
      refine jx_ar (pc_q := 15) (st_q := [.int (i32 (0))]) rfl rfl rfl rfl ?_
      refine jx_rt (v := some (.int (i32 (0)))) rfl rfl rfl rfl rfl (by first | rfl | exact jRet_b (by omega)) ?_
      exact ⟨_, rfl, rfl, by omega, by first | exact Or.inl (⟨by omega, by omega, by omega⟩) | exact Or.inr ((⟨by omega, by omega⟩))⟩
    · have _q := h2
      refine jx_ar (pc_q := 11) (st_q := [.int (i32 (1))]) rfl rfl rfl rfl ?_
      refine jx_go (tg := 15) rfl rfl ?_
      refine jx_rt (v := some (.int (i32 (1)))) rfl rfl rfl rfl rfl (by first | rfl | exact jRet_b (by omega)) ?_
      exact ⟨_, rfl, rfl, by omega, by first | exact Or.inl (⟨by omega, by omega, by omega⟩) | exact Or.inr ((⟨by omega, by omega⟩))⟩
set_option maxRecDepth 20000 in
set_option maxHeartbeats 4000000 in
theorem c_isSign {X : jX} {dd : Nat} {V : jH} {v : Int} (hd : 2 ≤ dd) (h_v : (-2147483648 : Int) ≤ v ∧ v ≤ 2147483647) : wk X dd 247 [.int (i32 v)] V (fun o V_q => ∃ (r : Int), V_q = V ∧ o = .inl (some (.int (i32 r))) ∧ ((0 : Int) ≤ r ∧ r ≤ 1) ∧ ((r = 1 ∧ (v = 10 ∨ 32 ≤ v) ∧ (v ≤ 126)) ∨ (r = 0 ∧ (v ≠ 10) ∧ (v < 32 ∨ 126 < v)))) := by
  obtain ⟨d, rfl⟩ : ∃ d, dd = d + 1 := ⟨dd - 1, by omega⟩
  refine wk_of (e := jm247) rfl (Nat.le_of_ble_eq_true rfl) ?_
  show wj X d jm247 (0, [(0, .int (i32 (v)))], [], V) _
  refine jx_ld (pc_q := 1) (l_q := [(0, .int (i32 (v)))]) (st_q := [.int (i32 (v))]) rfl (jl_iloadn rfl) ?_
  refine jx_ar (pc_q := 3) (st_q := [.int (i32 (10)), .int (i32 (v))]) rfl rfl rfl rfl ?_
  refine jx_icmp_eq (pc_q := 6) (tg := 17) rfl rfl rfl (Int.le_trans (by decide : (-2147483648 : Int) ≤ -2147483648) h_v.1) (Int.le_trans h_v.2 (by decide : (2147483647 : Int) ≤ 2147483647)) (by decide) (by decide) (fun h1 => ?_) (fun h1 => ?_)
  · have _q := h1
    refine jx_ar (pc_q := 18) (st_q := [.int (i32 (1))]) rfl rfl rfl rfl ?_
    refine jx_go (tg := 22) rfl rfl ?_
    refine jx_rt (v := some (.int (i32 (1)))) rfl rfl rfl rfl rfl (by first | rfl | exact jRet_b (by omega)) ?_
    exact ⟨_, rfl, rfl, by omega, by first | exact Or.inl (⟨by omega, by omega, by omega⟩) | exact Or.inr ((⟨by omega, by omega, by omega⟩))⟩
  · have _q := h1
    refine jx_ld (pc_q := 7) (l_q := [(0, .int (i32 (v)))]) (st_q := [.int (i32 (v))]) rfl (jl_iloadn rfl) ?_
    refine jx_ar (pc_q := 9) (st_q := [.int (i32 (32)), .int (i32 (v))]) rfl rfl rfl rfl ?_
    refine jx_ar (pc_q := 11) (st_q := [.int (i32 (126)), .int (i32 (32)), .int (i32 (v))]) rfl rfl rfl rfl ?_
    refine jx_st (pc_q := 14) (as := [.int (i32 (v)), .int (i32 (32)), .int (i32 (126))]) (st := []) rfl rfl ⟨rfl, Nat.le_of_ble_eq_true rfl⟩ rfl rfl rfl (c_in (dd := d) (hd := by omega) (v := v) (a := 32) (b := 126)   (h_v := ⟨(Int.le_trans (by decide : (-2147483648 : Int) ≤ -2147483648) h_v.1), (Int.le_trans h_v.2 (by decide : (2147483647 : Int) ≤ 2147483647))⟩) (h_a := ⟨(by decide), (by decide)⟩) (h_b := ⟨(by decide), (by decide)⟩)  ) (fun o V_q hq => ?_)
    obtain ⟨r2, rfl, rfl, b3, q4⟩ := hq
    refine .inr ⟨_, rfl, ?_⟩
    rcases q4 with ⟨rfl, a5, a6⟩ | ⟨rfl, a7⟩
    · have _q : True := trivial
      refine jx_if_eq (pc_q := 17) (tg := 21) rfl rfl rfl (by decide) (by decide) (fun h8 => ?_) (fun h8 => ?_)
      · have _q := h8
        exact absurd h8 (by omega)
      · have _q := h8
        refine jx_ar (pc_q := 18) (st_q := [.int (i32 (1))]) rfl rfl rfl rfl ?_
        refine jx_go (tg := 22) rfl rfl ?_
        refine jx_rt (v := some (.int (i32 (1)))) rfl rfl rfl rfl rfl (by first | rfl | exact jRet_b (by omega)) ?_
        exact ⟨_, rfl, rfl, by omega, by first | exact Or.inl (⟨by omega, by omega, by omega⟩) | exact Or.inr ((⟨by omega, by omega, by omega⟩))⟩
    · have _q : True := trivial
      refine jx_if_eq (pc_q := 17) (tg := 21) rfl rfl rfl (by decide) (by decide) (fun h9 => ?_) (fun h9 => ?_)
      · have _q := h9
        refine jx_ar (pc_q := 22) (st_q := [.int (i32 (0))]) rfl rfl rfl rfl ?_
        refine jx_rt (v := some (.int (i32 (0)))) rfl rfl rfl rfl rfl (by first | rfl | exact jRet_b (by omega)) ?_
        exact ⟨_, rfl, rfl, by omega, by first | exact Or.inl (⟨by omega, by omega, by omega⟩) | exact Or.inr ((⟨by omega, by omega, by omega⟩))⟩
      · have _q := h9
        exact absurd h9 (by omega)
set_option maxRecDepth 20000 in
set_option maxHeartbeats 4000000 in
theorem c_isSmall {X : jX} {dd : Nat} {V : jH} {v : Int} (hd : 1 ≤ dd) (h_v : (-2147483648 : Int) ≤ v ∧ v ≤ 2147483647) : wk X dd 254 [.int (i32 v)] V (fun o V_q => ∃ (r : Int), V_q = V ∧ o = .inl (some (.int (i32 r))) ∧ ((0 : Int) ≤ r ∧ r ≤ 1) ∧ ((r = 1 ∧ (97 ≤ v) ∧ (v ≤ 122)) ∨ (r = 0 ∧ (v < 97 ∨ 122 < v)))) := by
  obtain ⟨d, rfl⟩ : ∃ d, dd = d + 1 := ⟨dd - 1, by omega⟩
  refine wk_of (e := jm254) rfl (Nat.le_of_ble_eq_true rfl) ?_
  show wj X d jm254 (0, [(0, .int (i32 (v)))], [], V) _
  refine jx_ld (pc_q := 1) (l_q := [(0, .int (i32 (v)))]) (st_q := [.int (i32 (v))]) rfl (jl_iloadn rfl) ?_
  refine jx_ar (pc_q := 3) (st_q := [.int (i32 (97)), .int (i32 (v))]) rfl rfl rfl rfl ?_
  refine jx_icmp_lt (pc_q := 6) (tg := 16) rfl rfl rfl (Int.le_trans (by decide : (-2147483648 : Int) ≤ -2147483648) h_v.1) (Int.le_trans h_v.2 (by decide : (2147483647 : Int) ≤ 2147483647)) (by decide) (by decide) (fun h1 => ?_) (fun h1 => ?_)
  · have _q := h1
    refine jx_ar (pc_q := 17) (st_q := [.int (i32 (0))]) rfl rfl rfl rfl ?_
    refine jx_rt (v := some (.int (i32 (0)))) rfl rfl rfl rfl rfl (by first | rfl | exact jRet_b (by omega)) ?_
    exact ⟨_, rfl, rfl, by omega, by first | exact Or.inl (⟨by omega, by omega, by omega⟩) | exact Or.inr ((⟨by omega, by omega⟩))⟩
  · have _q := h1
    refine jx_ld (pc_q := 7) (l_q := [(0, .int (i32 (v)))]) (st_q := [.int (i32 (v))]) rfl (jl_iloadn rfl) ?_
    refine jx_ar (pc_q := 9) (st_q := [.int (i32 (122)), .int (i32 (v))]) rfl rfl rfl rfl ?_
    refine jx_icmp_gt (pc_q := 12) (tg := 16) rfl rfl rfl (Int.le_trans (by decide : (-2147483648 : Int) ≤ -2147483648) h_v.1) (Int.le_trans h_v.2 (by decide : (2147483647 : Int) ≤ 2147483647)) (by decide) (by decide) (fun h2 => ?_) (fun h2 => ?_)
    · have _q := h2
      refine jx_ar (pc_q := 17) (st_q := [.int (i32 (0))]) rfl rfl rfl rfl ?_
      refine jx_rt (v := some (.int (i32 (0)))) rfl rfl rfl rfl rfl (by first | rfl | exact jRet_b (by omega)) ?_
      exact ⟨_, rfl, rfl, by omega, by first | exact Or.inl (⟨by omega, by omega, by omega⟩) | exact Or.inr ((⟨by omega, by omega⟩))⟩
    · have _q := h2
      refine jx_ar (pc_q := 13) (st_q := [.int (i32 (1))]) rfl rfl rfl rfl ?_
      refine jx_go (tg := 17) rfl rfl ?_
      refine jx_rt (v := some (.int (i32 (1)))) rfl rfl rfl rfl rfl (by first | rfl | exact jRet_b (by omega)) ?_
      exact ⟨_, rfl, rfl, by omega, by first | exact Or.inl (⟨by omega, by omega, by omega⟩) | exact Or.inr ((⟨by omega, by omega⟩))⟩
set_option maxRecDepth 20000 in
set_option maxHeartbeats 4000000 in
theorem c_isBig {X : jX} {dd : Nat} {V : jH} {v : Int} (hd : 1 ≤ dd) (h_v : (-2147483648 : Int) ≤ v ∧ v ≤ 2147483647) : wk X dd 255 [.int (i32 v)] V (fun o V_q => ∃ (r : Int), V_q = V ∧ o = .inl (some (.int (i32 r))) ∧ ((0 : Int) ≤ r ∧ r ≤ 1) ∧ ((r = 1 ∧ (65 ≤ v) ∧ (v ≤ 90)) ∨ (r = 0 ∧ (v < 65 ∨ 90 < v)))) := by
  obtain ⟨d, rfl⟩ : ∃ d, dd = d + 1 := ⟨dd - 1, by omega⟩
  refine wk_of (e := jm255) rfl (Nat.le_of_ble_eq_true rfl) ?_
  show wj X d jm255 (0, [(0, .int (i32 (v)))], [], V) _
  refine jx_ld (pc_q := 1) (l_q := [(0, .int (i32 (v)))]) (st_q := [.int (i32 (v))]) rfl (jl_iloadn rfl) ?_
  refine jx_ar (pc_q := 3) (st_q := [.int (i32 (65)), .int (i32 (v))]) rfl rfl rfl rfl ?_
  refine jx_icmp_lt (pc_q := 6) (tg := 16) rfl rfl rfl (Int.le_trans (by decide : (-2147483648 : Int) ≤ -2147483648) h_v.1) (Int.le_trans h_v.2 (by decide : (2147483647 : Int) ≤ 2147483647)) (by decide) (by decide) (fun h1 => ?_) (fun h1 => ?_)
  · have _q := h1
    refine jx_ar (pc_q := 17) (st_q := [.int (i32 (0))]) rfl rfl rfl rfl ?_
    refine jx_rt (v := some (.int (i32 (0)))) rfl rfl rfl rfl rfl (by first | rfl | exact jRet_b (by omega)) ?_
    exact ⟨_, rfl, rfl, by omega, by first | exact Or.inl (⟨by omega, by omega, by omega⟩) | exact Or.inr ((⟨by omega, by omega⟩))⟩
  · have _q := h1
    refine jx_ld (pc_q := 7) (l_q := [(0, .int (i32 (v)))]) (st_q := [.int (i32 (v))]) rfl (jl_iloadn rfl) ?_
    refine jx_ar (pc_q := 9) (st_q := [.int (i32 (90)), .int (i32 (v))]) rfl rfl rfl rfl ?_
    refine jx_icmp_gt (pc_q := 12) (tg := 16) rfl rfl rfl (Int.le_trans (by decide : (-2147483648 : Int) ≤ -2147483648) h_v.1) (Int.le_trans h_v.2 (by decide : (2147483647 : Int) ≤ 2147483647)) (by decide) (by decide) (fun h2 => ?_) (fun h2 => ?_)
    · have _q := h2
      refine jx_ar (pc_q := 17) (st_q := [.int (i32 (0))]) rfl rfl rfl rfl ?_
      refine jx_rt (v := some (.int (i32 (0)))) rfl rfl rfl rfl rfl (by first | rfl | exact jRet_b (by omega)) ?_
      exact ⟨_, rfl, rfl, by omega, by first | exact Or.inl (⟨by omega, by omega, by omega⟩) | exact Or.inr ((⟨by omega, by omega⟩))⟩
    · have _q := h2
      refine jx_ar (pc_q := 13) (st_q := [.int (i32 (1))]) rfl rfl rfl rfl ?_
      refine jx_go (tg := 17) rfl rfl ?_
      refine jx_rt (v := some (.int (i32 (1)))) rfl rfl rfl rfl rfl (by first | rfl | exact jRet_b (by omega)) ?_
      exact ⟨_, rfl, rfl, by omega, by first | exact Or.inl (⟨by omega, by omega, by omega⟩) | exact Or.inr ((⟨by omega, by omega⟩))⟩
set_option maxRecDepth 20000 in
set_option maxHeartbeats 4000000 in
theorem c_isDigit {X : jX} {dd : Nat} {V : jH} {v : Int} (hd : 1 ≤ dd) (h_v : (-2147483648 : Int) ≤ v ∧ v ≤ 2147483647) : wk X dd 256 [.int (i32 v)] V (fun o V_q => ∃ (r : Int), V_q = V ∧ o = .inl (some (.int (i32 r))) ∧ ((0 : Int) ≤ r ∧ r ≤ 1) ∧ ((r = 1 ∧ (48 ≤ v) ∧ (v ≤ 57)) ∨ (r = 0 ∧ (v < 48 ∨ 57 < v)))) := by
  obtain ⟨d, rfl⟩ : ∃ d, dd = d + 1 := ⟨dd - 1, by omega⟩
  refine wk_of (e := jm256) rfl (Nat.le_of_ble_eq_true rfl) ?_
  show wj X d jm256 (0, [(0, .int (i32 (v)))], [], V) _
  refine jx_ld (pc_q := 1) (l_q := [(0, .int (i32 (v)))]) (st_q := [.int (i32 (v))]) rfl (jl_iloadn rfl) ?_
  refine jx_ar (pc_q := 3) (st_q := [.int (i32 (48)), .int (i32 (v))]) rfl rfl rfl rfl ?_
  refine jx_icmp_lt (pc_q := 6) (tg := 16) rfl rfl rfl (Int.le_trans (by decide : (-2147483648 : Int) ≤ -2147483648) h_v.1) (Int.le_trans h_v.2 (by decide : (2147483647 : Int) ≤ 2147483647)) (by decide) (by decide) (fun h1 => ?_) (fun h1 => ?_)
  · have _q := h1
    refine jx_ar (pc_q := 17) (st_q := [.int (i32 (0))]) rfl rfl rfl rfl ?_
    refine jx_rt (v := some (.int (i32 (0)))) rfl rfl rfl rfl rfl (by first | rfl | exact jRet_b (by omega)) ?_
    exact ⟨_, rfl, rfl, by omega, by first | exact Or.inl (⟨by omega, by omega, by omega⟩) | exact Or.inr ((⟨by omega, by omega⟩))⟩
  · have _q := h1
    refine jx_ld (pc_q := 7) (l_q := [(0, .int (i32 (v)))]) (st_q := [.int (i32 (v))]) rfl (jl_iloadn rfl) ?_
    refine jx_ar (pc_q := 9) (st_q := [.int (i32 (57)), .int (i32 (v))]) rfl rfl rfl rfl ?_
    refine jx_icmp_gt (pc_q := 12) (tg := 16) rfl rfl rfl (Int.le_trans (by decide : (-2147483648 : Int) ≤ -2147483648) h_v.1) (Int.le_trans h_v.2 (by decide : (2147483647 : Int) ≤ 2147483647)) (by decide) (by decide) (fun h2 => ?_) (fun h2 => ?_)
    · have _q := h2
      refine jx_ar (pc_q := 17) (st_q := [.int (i32 (0))]) rfl rfl rfl rfl ?_
      refine jx_rt (v := some (.int (i32 (0)))) rfl rfl rfl rfl rfl (by first | rfl | exact jRet_b (by omega)) ?_
      exact ⟨_, rfl, rfl, by omega, by first | exact Or.inl (⟨by omega, by omega, by omega⟩) | exact Or.inr ((⟨by omega, by omega⟩))⟩
    · have _q := h2
      refine jx_ar (pc_q := 13) (st_q := [.int (i32 (1))]) rfl rfl rfl rfl ?_
      refine jx_go (tg := 17) rfl rfl ?_
      refine jx_rt (v := some (.int (i32 (1)))) rfl rfl rfl rfl rfl (by first | rfl | exact jRet_b (by omega)) ?_
      exact ⟨_, rfl, rfl, by omega, by first | exact Or.inl (⟨by omega, by omega, by omega⟩) | exact Or.inr ((⟨by omega, by omega⟩))⟩
set_option maxRecDepth 20000 in
set_option maxHeartbeats 4000000 in
theorem c_bad {X : jX} {dd : Nat} {c0 c1 : jC} {G : Nat → Int} {A : Nat → Nat → Int} {T : jH} {fk : Int} (hd : 1 ≤ dd) (hW : Wk G A) (e_fk : G 16 = fk) : wk X dd 251 [.ref 66] (rV c0 c1 G A T) (fun o V_q => ∃ (r : Int), V_q = rV c0 c1 G A T ∧ o = .inl (some (.int (i32 r))) ∧ ((0 : Int) ≤ r ∧ r ≤ 1) ∧ ((r = 1 ∧ (1 ≤ fk)) ∨ (r = 0 ∧ (fk = 0)))) := by
  obtain ⟨d, rfl⟩ : ∃ d, dd = d + 1 := ⟨dd - 1, by omega⟩
  refine wk_of (e := jm251) rfl (Nat.le_of_ble_eq_true rfl) ?_
  show wj X d jm251 (0, [(0, .ref 66)], [], rV c0 c1 G A T) _
  have b_fk : (0 : Int) ≤ fk ∧ fk ≤ 6 := e_fk ▸ hW.1 16
  refine jx_ld (pc_q := 1) (l_q := [(0, .ref 66)]) (st_q := [.ref 66]) rfl (jl_aloadn rfl) ?_
  refine jr_get (pc_q := 4) (i := 16) (v := .int (i32 (fk))) rfl rfl (by decide) (rFv_eq (by decide) (show G 16 = fk from (e_fk))) rfl ?_
  refine jx_if_eq (pc_q := 7) (tg := 11) rfl rfl rfl (Int.le_trans (by decide : (-2147483648 : Int) ≤ 0) b_fk.1) (Int.le_trans b_fk.2 (by decide : (6 : Int) ≤ 2147483647)) (fun h1 => ?_) (fun h1 => ?_)
  · have _q := h1
    refine jx_ar (pc_q := 12) (st_q := [.int (i32 (0))]) rfl rfl rfl rfl ?_
    refine jx_rt (v := some (.int (i32 (0)))) rfl rfl rfl rfl rfl (by first | rfl | exact jRet_b (by omega)) ?_
    exact ⟨_, rfl, rfl, by omega, by first | exact Or.inl (⟨by omega, by omega⟩) | exact Or.inr ((⟨by omega, by omega⟩))⟩
  · have _q := h1
    refine jx_ar (pc_q := 8) (st_q := [.int (i32 (1))]) rfl rfl rfl rfl ?_
    refine jx_go (tg := 12) rfl rfl ?_
    refine jx_rt (v := some (.int (i32 (1)))) rfl rfl rfl rfl rfl (by first | rfl | exact jRet_b (by omega)) ?_
    exact ⟨_, rfl, rfl, by omega, by first | exact Or.inl (⟨by omega, by omega⟩) | exact Or.inr ((⟨by omega, by omega⟩))⟩
set_option maxRecDepth 20000 in
set_option maxHeartbeats 4000000 in
theorem c_fail {X : jX} {dd : Nat} {c0 c1 : jC} {G : Nat → Int} {A : Nat → Nat → Int} {T : jH} {kind place : Int} {fk : Int} (hd : 1 ≤ dd) (hW : Wk G A) (e_fk : G 16 = fk) (h_kind : (-2147483648 : Int) ≤ kind ∧ kind ≤ 2147483647) (h_place : (-2147483648 : Int) ≤ place ∧ place ≤ 2147483647) (p_0 : 1 ≤ kind ∧ kind ≤ 6) (p_1 : -3000 ≤ place ∧ place ≤ 3002) : wk X dd 250 [.ref 66, .int (i32 kind), .int (i32 place)] (rV c0 c1 G A T) (fun o V_q => ∃ (G_q : Nat → Int) (A_q : Nat → Nat → Int) (fk2 : Int), V_q = rV c0 c1 G_q A_q T ∧ o = .inl none ∧ Wk G_q A_q ∧ Fr [16, 17, 18] [] G A G_q A_q ∧ G_q 16 = fk2 ∧ (1 ≤ fk2) ∧ True) := by
  obtain ⟨d, rfl⟩ : ∃ d, dd = d + 1 := ⟨dd - 1, by omega⟩
  refine wk_of (e := jm250) rfl (Nat.le_of_ble_eq_true rfl) ?_
  show wj X d jm250 (0, [(0, .ref 66), (1, .int (i32 (kind))), (2, .int (i32 (place)))], [], rV c0 c1 G A T) _
  have hF0 : Fr [16, 17, 18] [] G A G A := Fr_rf
  have b_fk : (0 : Int) ≤ fk ∧ fk ≤ 6 := e_fk ▸ hW.1 16
  refine jx_ld (pc_q := 1) (l_q := [(0, .ref 66), (1, .int (i32 (kind))), (2, .int (i32 (place)))]) (st_q := [.ref 66]) rfl (jl_aloadn rfl) ?_
  refine jr_get (pc_q := 4) (i := 16) (v := .int (i32 (fk))) rfl rfl (by decide) (rFv_eq (by decide) (show G 16 = fk from (e_fk))) rfl ?_
  refine jx_if_ne (pc_q := 7) (tg := 60) rfl rfl rfl (Int.le_trans (by decide : (-2147483648 : Int) ≤ 0) b_fk.1) (Int.le_trans b_fk.2 (by decide : (6 : Int) ≤ 2147483647)) (fun h1 => ?_) (fun h1 => ?_)
  · have _q := h1
    refine jx_rt (v := none) rfl rfl rfl rfl rfl rfl ?_
    exact ⟨_, _, fk, rfl, rfl, hW, hF0, (e_fk), by omega, trivial⟩
  · have _q := h1
    refine jx_ld (pc_q := 8) (l_q := [(0, .ref 66), (1, .int (i32 (kind))), (2, .int (i32 (place)))]) (st_q := [.ref 66]) rfl (jl_aloadn rfl) ?_
    refine jx_ld (pc_q := 9) (l_q := [(0, .ref 66), (1, .int (i32 (kind))), (2, .int (i32 (place)))]) (st_q := [.int (i32 (kind)), .ref 66]) rfl (jl_iloadn rfl) ?_
    refine jr_put (pc_q := 12) (i := 16) (z := kind) rfl rfl (by decide) rfl rfl rfl rfl rfl rfl ?_
    have hW2 : Wk (uG G 16 (kind)) A := Wk_g hW (show (0 : Int) ≤ kind by omega) (show kind ≤ (6 : Int) by omega)
    have hF3 := Fr_g (z := kind) (i := 16) hF0 (by decide)
    refine jx_ld (pc_q := 13) (l_q := [(0, .ref 66), (1, .int (i32 (kind))), (2, .int (i32 (place)))]) (st_q := [.ref 66]) rfl (jl_aloadn rfl) ?_
    refine jx_ld (pc_q := 14) (l_q := [(0, .ref 66), (1, .int (i32 (kind))), (2, .int (i32 (place)))]) (st_q := [.ref 66, .ref 66]) rfl (jl_aloadn rfl) ?_
    have b4 : (0 : Int) ≤ G 9 ∧ G 9 ≤ 3000 := hW.1 9
    refine jr_get (pc_q := 17) (i := 9) (v := .int (i32 (G 9))) rfl rfl (by decide) rfl rfl ?_
    refine jx_ld (pc_q := 18) (l_q := [(0, .ref 66), (1, .int (i32 (kind))), (2, .int (i32 (place)))]) (st_q := [.ref 66, .int (i32 (G 9)), .ref 66]) rfl (jl_aloadn rfl) ?_
    have b5 : (0 : Int) ≤ G 3 ∧ G 3 ≤ 3000 := hW.1 3
    refine jr_get (pc_q := 21) (i := 3) (v := .int (i32 (G 3))) rfl rfl (by decide) rfl rfl ?_
    refine jx_icmp_ge (pc_q := 24) (tg := 36) rfl rfl rfl (Int.le_trans (by decide : (-2147483648 : Int) ≤ 0) b4.1) (Int.le_trans b4.2 (by decide : (3000 : Int) ≤ 2147483647)) (Int.le_trans (by decide : (-2147483648 : Int) ≤ 0) b5.1) (Int.le_trans b5.2 (by decide : (3000 : Int) ≤ 2147483647)) (fun h6 => ?_) (fun h6 => ?_)
    · have _q := h6
      refine jx_ar (pc_q := 37) (st_q := [.int (i32 (-1)), .ref 66]) rfl rfl rfl rfl ?_
      refine jr_put (pc_q := 40) (i := 17) (z := -1) rfl rfl (by decide) rfl rfl rfl rfl rfl rfl ?_
      have hW7 : Wk (uG (uG G 16 (kind)) 17 (-1)) A := Wk_g hW2 (show (-1 : Int) ≤ -1 by omega) (show -1 ≤ (3000 : Int) by omega)
      have hF8 := Fr_g (z := -1) (i := 17) hF3 (by decide)
      refine jx_ld (pc_q := 41) (l_q := [(0, .ref 66), (1, .int (i32 (kind))), (2, .int (i32 (place)))]) (st_q := [.ref 66]) rfl (jl_aloadn rfl) ?_
      refine jx_ld (pc_q := 42) (l_q := [(0, .ref 66), (1, .int (i32 (kind))), (2, .int (i32 (place)))]) (st_q := [.ref 66, .ref 66]) rfl (jl_aloadn rfl) ?_
      refine jr_get (pc_q := 45) (i := 9) (v := .int (i32 (G 9))) rfl rfl (by decide) rfl rfl ?_
      refine jx_ld (pc_q := 46) (l_q := [(0, .ref 66), (1, .int (i32 (kind))), (2, .int (i32 (place)))]) (st_q := [.ref 66, .int (i32 (G 9)), .ref 66]) rfl (jl_aloadn rfl) ?_
      refine jr_get (pc_q := 49) (i := 3) (v := .int (i32 (G 3))) rfl rfl (by decide) rfl rfl ?_
      refine jx_icmp_ge (pc_q := 52) (tg := 56) rfl rfl rfl (Int.le_trans (by decide : (-2147483648 : Int) ≤ 0) b4.1) (Int.le_trans b4.2 (by decide : (3000 : Int) ≤ 2147483647)) (Int.le_trans (by decide : (-2147483648 : Int) ≤ 0) b5.1) (Int.le_trans b5.2 (by decide : (3000 : Int) ≤ 2147483647)) (fun h9 => ?_) (fun h9 => ?_)
      · have _q := h9
        refine jx_ar (pc_q := 57) (st_q := [.int (i32 (-1)), .ref 66]) rfl rfl rfl rfl ?_
        refine jr_put (pc_q := 60) (i := 18) (z := -1) rfl rfl (by decide) rfl rfl rfl rfl rfl rfl ?_
        have hW10 : Wk (uG (uG (uG G 16 (kind)) 17 (-1)) 18 (-1)) A := Wk_g hW7 (show (-3000 : Int) ≤ -1 by omega) (show -1 ≤ (3002 : Int) by omega)
        have hF11 := Fr_g (z := -1) (i := 18) hF8 (by decide)
        refine jx_rt (v := none) rfl rfl rfl rfl rfl rfl ?_
        exact ⟨_, _, kind, rfl, rfl, hW10, hF11, rfl, by omega, trivial⟩
      · have _q := h9
        refine jx_ld (pc_q := 53) (l_q := [(0, .ref 66), (1, .int (i32 (kind))), (2, .int (i32 (place)))]) (st_q := [.int (i32 (place)), .ref 66]) rfl (jl_iloadn rfl) ?_
        refine jx_go (tg := 57) rfl rfl ?_
        refine jr_put (pc_q := 60) (i := 18) (z := place) rfl rfl (by decide) rfl rfl rfl rfl rfl rfl ?_
        have hW12 : Wk (uG (uG (uG G 16 (kind)) 17 (-1)) 18 (place)) A := Wk_g hW7 (show (-3000 : Int) ≤ place by omega) (show place ≤ (3002 : Int) by omega)
        have hF13 := Fr_g (z := place) (i := 18) hF8 (by decide)
        refine jx_rt (v := none) rfl rfl rfl rfl rfl rfl ?_
        exact ⟨_, _, kind, rfl, rfl, hW12, hF13, rfl, by omega, trivial⟩
    · have _q := h6
      refine jx_ld (pc_q := 25) (l_q := [(0, .ref 66), (1, .int (i32 (kind))), (2, .int (i32 (place)))]) (st_q := [.ref 66, .ref 66]) rfl (jl_aloadn rfl) ?_
      refine jr_get (pc_q := 28) (i := 4) (v := .ref 68) rfl rfl (by decide) rfl rfl ?_
      refine jx_ld (pc_q := 29) (l_q := [(0, .ref 66), (1, .int (i32 (kind))), (2, .int (i32 (place)))]) (st_q := [.ref 66, .ref 68, .ref 66]) rfl (jl_aloadn rfl) ?_
      refine jr_get (pc_q := 32) (i := 9) (v := .int (i32 (G 9))) rfl rfl (by decide) rfl rfl ?_
      have b14 : (0 : Int) ≤ A 1 (G 9).toNat ∧ A 1 (G 9).toNat ≤ 3000 := hW.2 1 _
      refine jr_ldv (pc_q := 33) (i := 1) (m := 3001) (z := G 9) (y := A 1 (G 9).toNat) rfl (by decide) rfl (by decide) (Int.le_trans (by decide : (0 : Int) ≤ 0) b4.1) (Int.lt_of_le_of_lt b4.2 (by decide : (3000 : Int) < ((3001 : Nat) : Int))) rfl (show A 1 (G 9).toNat = A 1 (G 9).toNat from rfl) ?_
      refine jx_go (tg := 37) rfl rfl ?_
      refine jr_put (pc_q := 40) (i := 17) (z := A 1 (G 9).toNat) rfl rfl (by decide) rfl rfl rfl rfl rfl rfl ?_
      have hW15 : Wk (uG (uG G 16 (kind)) 17 (A 1 (G 9).toNat)) A := Wk_g hW2 (show (-1 : Int) ≤ A 1 (G 9).toNat by omega) (show A 1 (G 9).toNat ≤ (3000 : Int) by omega)
      have hF16 := Fr_g (z := A 1 (G 9).toNat) (i := 17) hF3 (by decide)
      refine jx_ld (pc_q := 41) (l_q := [(0, .ref 66), (1, .int (i32 (kind))), (2, .int (i32 (place)))]) (st_q := [.ref 66]) rfl (jl_aloadn rfl) ?_
      refine jx_ld (pc_q := 42) (l_q := [(0, .ref 66), (1, .int (i32 (kind))), (2, .int (i32 (place)))]) (st_q := [.ref 66, .ref 66]) rfl (jl_aloadn rfl) ?_
      refine jr_get (pc_q := 45) (i := 9) (v := .int (i32 (G 9))) rfl rfl (by decide) rfl rfl ?_
      refine jx_ld (pc_q := 46) (l_q := [(0, .ref 66), (1, .int (i32 (kind))), (2, .int (i32 (place)))]) (st_q := [.ref 66, .int (i32 (G 9)), .ref 66]) rfl (jl_aloadn rfl) ?_
      refine jr_get (pc_q := 49) (i := 3) (v := .int (i32 (G 3))) rfl rfl (by decide) rfl rfl ?_
      refine jx_icmp_ge (pc_q := 52) (tg := 56) rfl rfl rfl (Int.le_trans (by decide : (-2147483648 : Int) ≤ 0) b4.1) (Int.le_trans b4.2 (by decide : (3000 : Int) ≤ 2147483647)) (Int.le_trans (by decide : (-2147483648 : Int) ≤ 0) b5.1) (Int.le_trans b5.2 (by decide : (3000 : Int) ≤ 2147483647)) (fun h17 => ?_) (fun h17 => ?_)
      · have _q := h17
        refine jx_ar (pc_q := 57) (st_q := [.int (i32 (-1)), .ref 66]) rfl rfl rfl rfl ?_
        refine jr_put (pc_q := 60) (i := 18) (z := -1) rfl rfl (by decide) rfl rfl rfl rfl rfl rfl ?_
        have hW18 : Wk (uG (uG (uG G 16 (kind)) 17 (A 1 (G 9).toNat)) 18 (-1)) A := Wk_g hW15 (show (-3000 : Int) ≤ -1 by omega) (show -1 ≤ (3002 : Int) by omega)
        have hF19 := Fr_g (z := -1) (i := 18) hF16 (by decide)
        refine jx_rt (v := none) rfl rfl rfl rfl rfl rfl ?_
        exact ⟨_, _, kind, rfl, rfl, hW18, hF19, rfl, by omega, trivial⟩
      · have _q := h17
        refine jx_ld (pc_q := 53) (l_q := [(0, .ref 66), (1, .int (i32 (kind))), (2, .int (i32 (place)))]) (st_q := [.int (i32 (place)), .ref 66]) rfl (jl_iloadn rfl) ?_
        refine jx_go (tg := 57) rfl rfl ?_
        refine jr_put (pc_q := 60) (i := 18) (z := place) rfl rfl (by decide) rfl rfl rfl rfl rfl rfl ?_
        have hW20 : Wk (uG (uG (uG G 16 (kind)) 17 (A 1 (G 9).toNat)) 18 (place)) A := Wk_g hW15 (show (-3000 : Int) ≤ place by omega) (show place ≤ (3002 : Int) by omega)
        have hF21 := Fr_g (z := place) (i := 18) hF16 (by decide)
        refine jx_rt (v := none) rfl rfl rfl rfl rfl rfl ?_
        exact ⟨_, _, kind, rfl, rfl, hW20, hF21, rfl, by omega, trivial⟩
set_option maxRecDepth 20000 in
set_option maxHeartbeats 4000000 in
theorem c_sign {X : jX} {dd : Nat} {c0 c1 : jC} {G : Nat → Int} {A : Nat → Nat → Int} {T : jH} {k : Int} {ln le tx : Int} (hd : 1 ≤ dd) (hW : Wk G A) (e_ln : G 9 = ln) (e_le : A 4 (ln).toNat = le) (e_tx : A 0 (k).toNat = tx) (h_k : (-2147483648 : Int) ≤ k ∧ k ≤ 2147483647) (p_0 : 0 ≤ k) : wk X dd 253 [.ref 66, .int (i32 k)] (rV c0 c1 G A T) (fun o V_q => ∃ (r : Int), V_q = rV c0 c1 G A T ∧ o = .inl (some (.int (i32 r))) ∧ ((-2147483648 : Int) ≤ r ∧ r ≤ 2147483647) ∧ (((k < le) ∧ (r = tx)) ∨ ((le ≤ k) ∧ (r = 0)))) := by
  obtain ⟨d, rfl⟩ : ∃ d, dd = d + 1 := ⟨dd - 1, by omega⟩
  refine wk_of (e := jm253) rfl (Nat.le_of_ble_eq_true rfl) ?_
  show wj X d jm253 (0, [(0, .ref 66), (1, .int (i32 (k)))], [], rV c0 c1 G A T) _
  have b_ln : (0 : Int) ≤ ln ∧ ln ≤ 3000 := e_ln ▸ hW.1 9
  have b_le : (0 : Int) ≤ le ∧ le ≤ 3000 := e_le ▸ hW.2 4 _
  have b_tx : (0 : Int) ≤ tx ∧ tx ≤ 126 := e_tx ▸ hW.2 0 _
  refine jx_ld (pc_q := 1) (l_q := [(0, .ref 66), (1, .int (i32 (k)))]) (st_q := [.int (i32 (k))]) rfl (jl_iloadn rfl) ?_
  refine jx_ld (pc_q := 2) (l_q := [(0, .ref 66), (1, .int (i32 (k)))]) (st_q := [.ref 66, .int (i32 (k))]) rfl (jl_aloadn rfl) ?_
  refine jr_get (pc_q := 5) (i := 7) (v := .ref 71) rfl rfl (by decide) rfl rfl ?_
  refine jx_ld (pc_q := 6) (l_q := [(0, .ref 66), (1, .int (i32 (k)))]) (st_q := [.ref 66, .ref 71, .int (i32 (k))]) rfl (jl_aloadn rfl) ?_
  refine jr_get (pc_q := 9) (i := 9) (v := .int (i32 (ln))) rfl rfl (by decide) (rFv_eq (by decide) (show G 9 = ln from (e_ln))) rfl ?_
  refine jr_ldv (pc_q := 10) (i := 4) (m := 3001) (z := ln) (y := le) rfl (by decide) rfl (by decide) (Int.le_trans (by decide : (0 : Int) ≤ 0) b_ln.1) (Int.lt_of_le_of_lt b_ln.2 (by decide : (3000 : Int) < ((3001 : Nat) : Int))) rfl (show A 4 (ln).toNat = le from (e_le)) ?_
  refine jx_icmp_ge (pc_q := 13) (tg := 22) rfl rfl rfl (Int.le_trans (by decide : (-2147483648 : Int) ≤ -2147483648) h_k.1) (Int.le_trans h_k.2 (by decide : (2147483647 : Int) ≤ 2147483647)) (Int.le_trans (by decide : (-2147483648 : Int) ≤ 0) b_le.1) (Int.le_trans b_le.2 (by decide : (3000 : Int) ≤ 2147483647)) (fun h1 => ?_) (fun h1 => ?_)
  · have _q := h1
    refine jx_ar (pc_q := 23) (st_q := [.int (i32 (0))]) rfl rfl rfl rfl ?_
    refine jx_rt (v := some (.int (i32 (0)))) rfl rfl rfl rfl rfl rfl ?_
    exact ⟨_, rfl, rfl, by omega, by first | exact Or.inl (⟨by omega, by omega⟩) | exact Or.inr ((⟨by omega, by omega⟩))⟩
  · have _q := h1
    refine jx_ld (pc_q := 14) (l_q := [(0, .ref 66), (1, .int (i32 (k)))]) (st_q := [.ref 66]) rfl (jl_aloadn rfl) ?_
    refine jr_get (pc_q := 17) (i := 1) (v := .ref 67) rfl rfl (by decide) rfl rfl ?_
    refine jx_ld (pc_q := 18) (l_q := [(0, .ref 66), (1, .int (i32 (k)))]) (st_q := [.int (i32 (k)), .ref 67]) rfl (jl_iloadn rfl) ?_
    refine jr_ldv (pc_q := 19) (i := 0) (m := 3000) (z := k) (y := tx) rfl (by decide) rfl (by decide) (by omega) (by omega) rfl (show A 0 (k).toNat = tx from (e_tx)) ?_
    refine jx_go (tg := 23) rfl rfl ?_
    refine jx_rt (v := some (.int (i32 (tx)))) rfl rfl rfl rfl rfl rfl ?_
    exact ⟨_, rfl, rfl, by omega, by first | exact Or.inl (⟨by omega, by omega⟩) | exact Or.inr ((⟨by omega, by omega⟩))⟩
set_option maxRecDepth 20000 in
set_option maxHeartbeats 4000000 in
theorem c_isKey {X : jX} {dd : Nat} {c0 c1 : jC} {G : Nat → Int} {A : Nat → Nat → Int} {T : jH} {k : Int} {tk tn : Int} (hd : 1 ≤ dd) (hW : Wk G A) (e_tk : G 11 = tk) (e_tn : G 13 = tn) (h_k : (-2147483648 : Int) ≤ k ∧ k ≤ 2147483647) : wk X dd 267 [.ref 66, .int (i32 k)] (rV c0 c1 G A T) (fun o V_q => ∃ (r : Int), V_q = rV c0 c1 G A T ∧ o = .inl (some (.int (i32 r))) ∧ ((0 : Int) ≤ r ∧ r ≤ 1) ∧ ((r = 1 ∧ (tk = 2) ∧ (tn = k) ∧ (tz tk = 1)) ∨ (r = 0))) := by
  obtain ⟨d, rfl⟩ : ∃ d, dd = d + 1 := ⟨dd - 1, by omega⟩
  refine wk_of (e := jm267) rfl (Nat.le_of_ble_eq_true rfl) ?_
  show wj X d jm267 (0, [(0, .ref 66), (1, .int (i32 (k)))], [], rV c0 c1 G A T) _
  have z_tk := tz_f tk
  have b_tk : (0 : Int) ≤ tk ∧ tk ≤ 5 := e_tk ▸ hW.1 11
  have b_tn : (-2147483648 : Int) ≤ tn ∧ tn ≤ 2147483647 := e_tn ▸ hW.1 13
  refine jx_ld (pc_q := 1) (l_q := [(0, .ref 66), (1, .int (i32 (k)))]) (st_q := [.ref 66]) rfl (jl_aloadn rfl) ?_
  have z1 := tz_f (tk)
  refine jr_get (pc_q := 4) (i := 11) (v := .int (i32 (tk))) rfl rfl (by decide) (rFv_eq (by decide) (show G 11 = tk from (e_tk))) rfl ?_
  refine jx_ar (pc_q := 5) (st_q := [.int (i32 (2)), .int (i32 (tk))]) rfl rfl rfl rfl ?_
  refine jx_icmp_ne (pc_q := 8) (tg := 20) rfl rfl rfl (Int.le_trans (by decide : (-2147483648 : Int) ≤ 0) b_tk.1) (Int.le_trans b_tk.2 (by decide : (5 : Int) ≤ 2147483647)) (by decide) (by decide) (fun h2 => ?_) (fun h2 => ?_)
  · have _q := h2
    refine jx_ar (pc_q := 21) (st_q := [.int (i32 (0))]) rfl rfl rfl rfl ?_
    refine jx_rt (v := some (.int (i32 (0)))) rfl rfl rfl rfl rfl (by first | rfl | exact jRet_b (by omega)) ?_
    exact ⟨_, rfl, rfl, by omega, by first | exact Or.inl (⟨by omega, by omega, by omega, by omega⟩) | exact Or.inr ((by omega))⟩
  · have _q := h2
    refine jx_ld (pc_q := 9) (l_q := [(0, .ref 66), (1, .int (i32 (k)))]) (st_q := [.ref 66]) rfl (jl_aloadn rfl) ?_
    refine jr_get (pc_q := 12) (i := 13) (v := .int (i32 (tn))) rfl rfl (by decide) (rFv_eq (by decide) (show G 13 = tn from (e_tn))) rfl ?_
    refine jx_ld (pc_q := 13) (l_q := [(0, .ref 66), (1, .int (i32 (k)))]) (st_q := [.int (i32 (k)), .int (i32 (tn))]) rfl (jl_iloadn rfl) ?_
    refine jx_icmp_ne (pc_q := 16) (tg := 20) rfl rfl rfl (Int.le_trans (by decide : (-2147483648 : Int) ≤ -2147483648) b_tn.1) (Int.le_trans b_tn.2 (by decide : (2147483647 : Int) ≤ 2147483647)) (Int.le_trans (by decide : (-2147483648 : Int) ≤ -2147483648) h_k.1) (Int.le_trans h_k.2 (by decide : (2147483647 : Int) ≤ 2147483647)) (fun h3 => ?_) (fun h3 => ?_)
    · have _q := h3
      refine jx_ar (pc_q := 21) (st_q := [.int (i32 (0))]) rfl rfl rfl rfl ?_
      refine jx_rt (v := some (.int (i32 (0)))) rfl rfl rfl rfl rfl (by first | rfl | exact jRet_b (by omega)) ?_
      exact ⟨_, rfl, rfl, by omega, by first | exact Or.inl (⟨by omega, by omega, by omega, by omega⟩) | exact Or.inr ((by omega))⟩
    · have _q := h3
      refine jx_ar (pc_q := 17) (st_q := [.int (i32 (1))]) rfl rfl rfl rfl ?_
      refine jx_go (tg := 21) rfl rfl ?_
      refine jx_rt (v := some (.int (i32 (1)))) rfl rfl rfl rfl rfl (by first | rfl | exact jRet_b (by omega)) ?_
      exact ⟨_, rfl, rfl, by omega, by first | exact Or.inl (⟨by omega, by omega, by omega, by omega⟩) | exact Or.inr ((by omega))⟩
set_option maxRecDepth 20000 in
set_option maxHeartbeats 4000000 in
theorem c_is {X : jX} {dd : Nat} {c0 c1 : jC} {G : Nat → Int} {A : Nat → Nat → Int} {T : jH} {k : Int} {tk tn : Int} (hd : 1 ≤ dd) (hW : Wk G A) (e_tk : G 11 = tk) (e_tn : G 13 = tn) (h_k : (-2147483648 : Int) ≤ k ∧ k ≤ 2147483647) : wk X dd 268 [.ref 66, .int (i32 k)] (rV c0 c1 G A T) (fun o V_q => ∃ (r : Int), V_q = rV c0 c1 G A T ∧ o = .inl (some (.int (i32 r))) ∧ ((0 : Int) ≤ r ∧ r ≤ 1) ∧ ((r = 1 ∧ (tk = 4) ∧ (tn = k) ∧ (tz tk = 1)) ∨ (r = 0))) := by
  obtain ⟨d, rfl⟩ : ∃ d, dd = d + 1 := ⟨dd - 1, by omega⟩
  refine wk_of (e := jm268) rfl (Nat.le_of_ble_eq_true rfl) ?_
  show wj X d jm268 (0, [(0, .ref 66), (1, .int (i32 (k)))], [], rV c0 c1 G A T) _
  have z_tk := tz_f tk
  have b_tk : (0 : Int) ≤ tk ∧ tk ≤ 5 := e_tk ▸ hW.1 11
  have b_tn : (-2147483648 : Int) ≤ tn ∧ tn ≤ 2147483647 := e_tn ▸ hW.1 13
  refine jx_ld (pc_q := 1) (l_q := [(0, .ref 66), (1, .int (i32 (k)))]) (st_q := [.ref 66]) rfl (jl_aloadn rfl) ?_
  have z1 := tz_f (tk)
  refine jr_get (pc_q := 4) (i := 11) (v := .int (i32 (tk))) rfl rfl (by decide) (rFv_eq (by decide) (show G 11 = tk from (e_tk))) rfl ?_
  refine jx_ar (pc_q := 5) (st_q := [.int (i32 (4)), .int (i32 (tk))]) rfl rfl rfl rfl ?_
  refine jx_icmp_ne (pc_q := 8) (tg := 20) rfl rfl rfl (Int.le_trans (by decide : (-2147483648 : Int) ≤ 0) b_tk.1) (Int.le_trans b_tk.2 (by decide : (5 : Int) ≤ 2147483647)) (by decide) (by decide) (fun h2 => ?_) (fun h2 => ?_)
  · have _q := h2
    refine jx_ar (pc_q := 21) (st_q := [.int (i32 (0))]) rfl rfl rfl rfl ?_
    refine jx_rt (v := some (.int (i32 (0)))) rfl rfl rfl rfl rfl (by first | rfl | exact jRet_b (by omega)) ?_
    exact ⟨_, rfl, rfl, by omega, by first | exact Or.inl (⟨by omega, by omega, by omega, by omega⟩) | exact Or.inr ((by omega))⟩
  · have _q := h2
    refine jx_ld (pc_q := 9) (l_q := [(0, .ref 66), (1, .int (i32 (k)))]) (st_q := [.ref 66]) rfl (jl_aloadn rfl) ?_
    refine jr_get (pc_q := 12) (i := 13) (v := .int (i32 (tn))) rfl rfl (by decide) (rFv_eq (by decide) (show G 13 = tn from (e_tn))) rfl ?_
    refine jx_ld (pc_q := 13) (l_q := [(0, .ref 66), (1, .int (i32 (k)))]) (st_q := [.int (i32 (k)), .int (i32 (tn))]) rfl (jl_iloadn rfl) ?_
    refine jx_icmp_ne (pc_q := 16) (tg := 20) rfl rfl rfl (Int.le_trans (by decide : (-2147483648 : Int) ≤ -2147483648) b_tn.1) (Int.le_trans b_tn.2 (by decide : (2147483647 : Int) ≤ 2147483647)) (Int.le_trans (by decide : (-2147483648 : Int) ≤ -2147483648) h_k.1) (Int.le_trans h_k.2 (by decide : (2147483647 : Int) ≤ 2147483647)) (fun h3 => ?_) (fun h3 => ?_)
    · have _q := h3
      refine jx_ar (pc_q := 21) (st_q := [.int (i32 (0))]) rfl rfl rfl rfl ?_
      refine jx_rt (v := some (.int (i32 (0)))) rfl rfl rfl rfl rfl (by first | rfl | exact jRet_b (by omega)) ?_
      exact ⟨_, rfl, rfl, by omega, by first | exact Or.inl (⟨by omega, by omega, by omega, by omega⟩) | exact Or.inr ((by omega))⟩
    · have _q := h3
      refine jx_ar (pc_q := 17) (st_q := [.int (i32 (1))]) rfl rfl rfl rfl ?_
      refine jx_go (tg := 21) rfl rfl ?_
      refine jx_rt (v := some (.int (i32 (1)))) rfl rfl rfl rfl rfl (by first | rfl | exact jRet_b (by omega)) ?_
      exact ⟨_, rfl, rfl, by omega, by first | exact Or.inl (⟨by omega, by omega, by omega, by omega⟩) | exact Or.inr ((by omega))⟩
