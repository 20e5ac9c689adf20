set_option maxHeartbeats 1000000 in
theorem m_in {X : jX} {d : Nat} {V : jH} {v a b : Int} (h1 : -2147483648 ≤ v ∧ v ≤ 2147483647) (h2 : -2147483648 ≤ a ∧ a ≤ 2147483647) (h3 : -2147483648 ≤ b ∧ b ≤ 2147483647) : wk X (d + 1) 246 [.int (i32 v), .int (i32 a), .int (i32 b)] V (fun o V' => ∃ r : Int, V' = V ∧ o = .inl (some (.int (i32 r))) ∧ ((r = 1 ∧ a ≤ v ∧ v ≤ b) ∨ (r = 0 ∧ ¬ (a ≤ v ∧ v ≤ b)))) := by
  refine wk_of (e := jm246) rfl (Nat.le_of_ble_eq_true rfl) ?_
  show wj X d jm246 (0, [(0, .int (i32 (v))), (1, .int (i32 (a))), (2, .int (i32 (b)))], [], V) _
  refine jx_ld (pc' := 1) (l' := [(0, .int (i32 (v))), (1, .int (i32 (a))), (2, .int (i32 (b)))]) (st' := [.int (i32 (v))]) rfl rfl ?_
  refine jx_ld (pc' := 2) (l' := [(0, .int (i32 (v))), (1, .int (i32 (a))), (2, .int (i32 (b)))]) (st' := [.int (i32 (a)), .int (i32 (v))]) rfl rfl ?_
  refine jx_icmp_lt (pc' := 5) (tg := 14) rfl rfl rfl (by omega) (by omega) (by omega) (by omega) (fun h1 => ?_) (fun h1 => ?_)
  · skip
    refine jx_ar (pc' := 15) (st' := [.int (i32 (0))]) rfl rfl rfl rfl ?_
    refine jx_rt (v := some (.int (i32 (0)))) rfl rfl rfl rfl rfl (by first | rfl | exact jRet_b (by omega)) ?_
    exact ⟨_, rfl, rfl, by omega⟩
  · skip
    refine jx_ld (pc' := 6) (l' := [(0, .int (i32 (v))), (1, .int (i32 (a))), (2, .int (i32 (b)))]) (st' := [.int (i32 (v))]) rfl rfl ?_
    refine jx_ld (pc' := 7) (l' := [(0, .int (i32 (v))), (1, .int (i32 (a))), (2, .int (i32 (b)))]) (st' := [.int (i32 (b)), .int (i32 (v))]) rfl rfl ?_
    refine jx_icmp_gt (pc' := 10) (tg := 14) rfl rfl rfl (by omega) (by omega) (by omega) (by omega) (fun h2 => ?_) (fun h2 => ?_)
    · skip
      refine jx_ar (pc' := 15) (st' := [.int (i32 (0))]) rfl rfl rfl rfl ?_
      refine jx_rt (v := some (.int (i32 (0)))) rfl rfl rfl rfl rfl (by first | rfl | exact jRet_b (by omega)) ?_
      exact ⟨_, rfl, rfl, by omega⟩
    · skip
      refine jx_ar (pc' := 11) (st' := [.int (i32 (1))]) rfl rfl rfl rfl ?_
      refine jx_go (tg := 15) rfl rfl ?_
      refine jx_rt (v := some (.int (i32 (1)))) rfl rfl rfl rfl rfl (by first | rfl | exact jRet_b (by omega)) ?_
      exact ⟨_, rfl, rfl, by omega⟩
set_option maxHeartbeats 1000000 in
theorem m_isSign {X : jX} {d : Nat} {V : jH} {v : Int} (h1 : -2147483648 ≤ v ∧ v ≤ 2147483647) : wk X (d + 2) 247 [.int (i32 v)] V (fun o V' => ∃ r : Int, V' = V ∧ o = .inl (some (.int (i32 r))) ∧ ((r = 1 ∧ (v = 10 ∨ 32 ≤ v ∧ v ≤ 126)) ∨ (r = 0 ∧ ¬ (v = 10 ∨ 32 ≤ v ∧ v ≤ 126)))) := by
  refine wk_of (e := jm247) rfl (Nat.le_of_ble_eq_true rfl) ?_
  show wj X (d + 1) jm247 (0, [(0, .int (i32 (v)))], [], V) _
  refine jx_ld (pc' := 1) (l' := [(0, .int (i32 (v)))]) (st' := [.int (i32 (v))]) rfl rfl ?_
  refine jx_ar (pc' := 3) (st' := [.int (i32 (10)), .int (i32 (v))]) rfl rfl rfl rfl ?_
  refine jx_icmp_eq (pc' := 6) (tg := 17) rfl rfl rfl (by omega) (by omega) (by omega) (by omega) (fun h1 => ?_) (fun h1 => ?_)
  · skip
    refine jx_ar (pc' := 18) (st' := [.int (i32 (1))]) rfl rfl rfl rfl ?_
    refine jx_go (tg := 22) rfl rfl ?_
    refine jx_rt (v := some (.int (i32 (1)))) rfl rfl rfl rfl rfl (by first | rfl | exact jRet_b (by omega)) ?_
    exact ⟨_, rfl, rfl, by omega⟩
  · skip
    refine jx_ld (pc' := 7) (l' := [(0, .int (i32 (v)))]) (st' := [.int (i32 (v))]) rfl rfl ?_
    refine jx_ar (pc' := 9) (st' := [.int (i32 (32)), .int (i32 (v))]) rfl rfl rfl rfl ?_
    refine jx_ar (pc' := 11) (st' := [.int (i32 (126)), .int (i32 (32)), .int (i32 (v))]) rfl rfl rfl rfl ?_
    refine jx_st (pc' := 14) (as := [.int (i32 (v)), .int (i32 (32)), .int (i32 (126))]) (st := []) rfl rfl ⟨rfl, Nat.le_of_ble_eq_true rfl⟩ rfl rfl rfl (m_in (by omega) (by omega) (by omega)) (fun o V' hq => ?_)
    obtain ⟨r2, rfl, rfl, p3⟩ := hq
    refine .inr ⟨_, rfl, ?_⟩
    refine jx_if_eq (pc' := 17) (tg := 21) rfl rfl rfl (by omega) (by omega) (fun h4 => ?_) (fun h4 => ?_)
    · skip
      refine jx_ar (pc' := 22) (st' := [.int (i32 (0))]) rfl rfl rfl rfl ?_
      refine jx_rt (v := some (.int (i32 (0)))) rfl rfl rfl rfl rfl (by first | rfl | exact jRet_b (by omega)) ?_
      exact ⟨_, rfl, rfl, by omega⟩
    · skip
      refine jx_ar (pc' := 18) (st' := [.int (i32 (1))]) rfl rfl rfl rfl ?_
      refine jx_go (tg := 22) rfl rfl ?_
      refine jx_rt (v := some (.int (i32 (1)))) rfl rfl rfl rfl rfl (by first | rfl | exact jRet_b (by omega)) ?_
      exact ⟨_, rfl, rfl, by omega⟩
set_option maxHeartbeats 1000000 in
theorem m_refuse {X : jX} {d : Nat} {c0 c1 : jC} {G : Nat → Int} {A : Nat → Nat → Int} {T : jH} {x y z : Int} (hx : x = 0 ∨ x = 1) (hy : y = 0 ∨ y = 1) (hz : z = 0 ∨ z = 1) : wk X (d + 1) 245 [.ref 66, .int (i32 x), .int (i32 y), .int (i32 z)] (rV c0 c1 G A T) (fun o V' => ∃ r c : Int, V' = rV c0 c1 (uG G 0 c) A T ∧ o = .inl (some (.int (i32 r))) ∧ ((x = 1 ∧ c = 1) ∨ (x = 0 ∧ y = 1 ∧ c = 2) ∨ (x = 0 ∧ y = 0 ∧ z = 1 ∧ c = 3) ∨ (x = 0 ∧ y = 0 ∧ z = 0 ∧ c = 0)) ∧ ((r = 1 ∧ 0 < c) ∨ (r = 0 ∧ c = 0))) := by
  refine wk_of (e := jm245) rfl (Nat.le_of_ble_eq_true rfl) ?_
  show wj X d jm245 (0, [(0, .ref 66), (1, .int (i32 (x))), (2, .int (i32 (y))), (3, .int (i32 (z)))], [], (rV c0 c1 G A T)) _
  refine jx_ld (pc' := 1) (l' := [(0, .ref 66), (1, .int (i32 (x))), (2, .int (i32 (y))), (3, .int (i32 (z)))]) (st' := [.ref 66]) rfl rfl ?_
  refine jx_ld (pc' := 2) (l' := [(0, .ref 66), (1, .int (i32 (x))), (2, .int (i32 (y))), (3, .int (i32 (z)))]) (st' := [.int (i32 (x)), .ref 66]) rfl rfl ?_
  refine jx_if_eq (pc' := 5) (tg := 9) rfl rfl rfl (by omega) (by omega) (fun h1 => ?_) (fun h1 => ?_)
  · skip
    refine jx_ld (pc' := 10) (l' := [(0, .ref 66), (1, .int (i32 (x))), (2, .int (i32 (y))), (3, .int (i32 (z)))]) (st' := [.int (i32 (y)), .ref 66]) rfl rfl ?_
    refine jx_if_eq (pc' := 13) (tg := 17) rfl rfl rfl (by omega) (by omega) (fun h2 => ?_) (fun h2 => ?_)
    · skip
      refine jx_ld (pc' := 18) (l' := [(0, .ref 66), (1, .int (i32 (x))), (2, .int (i32 (y))), (3, .int (i32 (z)))]) (st' := [.int (i32 (z)), .ref 66]) rfl rfl ?_
      refine jx_if_eq (pc' := 21) (tg := 25) rfl rfl rfl (by omega) (by omega) (fun h3 => ?_) (fun h3 => ?_)
      · skip
        refine jx_ar (pc' := 26) (st' := [.int (i32 (0)), .ref 66]) rfl rfl rfl rfl ?_
        refine jr_put (pc' := 29) (i := 0) (z := 0) rfl rfl (by decide) rfl rfl rfl rfl rfl rfl ?_
        refine jx_ld (pc' := 30) (l' := [(0, .ref 66), (1, .int (i32 (x))), (2, .int (i32 (y))), (3, .int (i32 (z)))]) (st' := [.ref 66]) rfl rfl ?_
        refine jr_get (pc' := 33) (i := 0) (v := .int (i32 (0))) rfl rfl (by decide) rfl rfl ?_
        refine jx_if_le (pc' := 36) (tg := 40) rfl rfl rfl (by omega) (by omega) (fun h4 => ?_) (fun h4 => ?_)
        · skip
          refine jx_ar (pc' := 41) (st' := [.int (i32 (0))]) rfl rfl rfl rfl ?_
          refine jx_rt (v := some (.int (i32 (0)))) rfl rfl rfl rfl rfl (by first | rfl | exact jRet_b (by omega)) ?_
          exact ⟨_, _, rfl, rfl, by omega, by omega⟩
        · skip
          refine jx_ar (pc' := 37) (st' := [.int (i32 (1))]) rfl rfl rfl rfl ?_
          refine jx_go (tg := 41) rfl rfl ?_
          refine jx_rt (v := some (.int (i32 (1)))) rfl rfl rfl rfl rfl (by first | rfl | exact jRet_b (by omega)) ?_
          exact ⟨_, _, rfl, rfl, by omega, by omega⟩
      · skip
        refine jx_ar (pc' := 22) (st' := [.int (i32 (3)), .ref 66]) rfl rfl rfl rfl ?_
        refine jx_go (tg := 26) rfl rfl ?_
        refine jr_put (pc' := 29) (i := 0) (z := 3) rfl rfl (by decide) rfl rfl rfl rfl rfl rfl ?_
        refine jx_ld (pc' := 30) (l' := [(0, .ref 66), (1, .int (i32 (x))), (2, .int (i32 (y))), (3, .int (i32 (z)))]) (st' := [.ref 66]) rfl rfl ?_
        refine jr_get (pc' := 33) (i := 0) (v := .int (i32 (3))) rfl rfl (by decide) rfl rfl ?_
        refine jx_if_le (pc' := 36) (tg := 40) rfl rfl rfl (by omega) (by omega) (fun h5 => ?_) (fun h5 => ?_)
        · skip
          refine jx_ar (pc' := 41) (st' := [.int (i32 (0))]) rfl rfl rfl rfl ?_
          refine jx_rt (v := some (.int (i32 (0)))) rfl rfl rfl rfl rfl (by first | rfl | exact jRet_b (by omega)) ?_
          exact ⟨_, _, rfl, rfl, by omega, by omega⟩
        · skip
          refine jx_ar (pc' := 37) (st' := [.int (i32 (1))]) rfl rfl rfl rfl ?_
          refine jx_go (tg := 41) rfl rfl ?_
          refine jx_rt (v := some (.int (i32 (1)))) rfl rfl rfl rfl rfl (by first | rfl | exact jRet_b (by omega)) ?_
          exact ⟨_, _, rfl, rfl, by omega, by omega⟩
    · skip
      refine jx_ar (pc' := 14) (st' := [.int (i32 (2)), .ref 66]) rfl rfl rfl rfl ?_
      refine jx_go (tg := 26) rfl rfl ?_
      refine jr_put (pc' := 29) (i := 0) (z := 2) rfl rfl (by decide) rfl rfl rfl rfl rfl rfl ?_
      refine jx_ld (pc' := 30) (l' := [(0, .ref 66), (1, .int (i32 (x))), (2, .int (i32 (y))), (3, .int (i32 (z)))]) (st' := [.ref 66]) rfl rfl ?_
      refine jr_get (pc' := 33) (i := 0) (v := .int (i32 (2))) rfl rfl (by decide) rfl rfl ?_
      refine jx_if_le (pc' := 36) (tg := 40) rfl rfl rfl (by omega) (by omega) (fun h6 => ?_) (fun h6 => ?_)
      · skip
        refine jx_ar (pc' := 41) (st' := [.int (i32 (0))]) rfl rfl rfl rfl ?_
        refine jx_rt (v := some (.int (i32 (0)))) rfl rfl rfl rfl rfl (by first | rfl | exact jRet_b (by omega)) ?_
        exact ⟨_, _, rfl, rfl, by omega, by omega⟩
      · skip
        refine jx_ar (pc' := 37) (st' := [.int (i32 (1))]) rfl rfl rfl rfl ?_
        refine jx_go (tg := 41) rfl rfl ?_
        refine jx_rt (v := some (.int (i32 (1)))) rfl rfl rfl rfl rfl (by first | rfl | exact jRet_b (by omega)) ?_
        exact ⟨_, _, rfl, rfl, by omega, by omega⟩
  · skip
    refine jx_ar (pc' := 6) (st' := [.int (i32 (1)), .ref 66]) rfl rfl rfl rfl ?_
    refine jx_go (tg := 26) rfl rfl ?_
    refine jr_put (pc' := 29) (i := 0) (z := 1) rfl rfl (by decide) rfl rfl rfl rfl rfl rfl ?_
    refine jx_ld (pc' := 30) (l' := [(0, .ref 66), (1, .int (i32 (x))), (2, .int (i32 (y))), (3, .int (i32 (z)))]) (st' := [.ref 66]) rfl rfl ?_
    refine jr_get (pc' := 33) (i := 0) (v := .int (i32 (1))) rfl rfl (by decide) rfl rfl ?_
    refine jx_if_le (pc' := 36) (tg := 40) rfl rfl rfl (by omega) (by omega) (fun h7 => ?_) (fun h7 => ?_)
    · skip
      refine jx_ar (pc' := 41) (st' := [.int (i32 (0))]) rfl rfl rfl rfl ?_
      refine jx_rt (v := some (.int (i32 (0)))) rfl rfl rfl rfl rfl (by first | rfl | exact jRet_b (by omega)) ?_
      exact ⟨_, _, rfl, rfl, by omega, by omega⟩
    · skip
      refine jx_ar (pc' := 37) (st' := [.int (i32 (1))]) rfl rfl rfl rfl ?_
      refine jx_go (tg := 41) rfl rfl ?_
      refine jx_rt (v := some (.int (i32 (1)))) rfl rfl rfl rfl rfl (by first | rfl | exact jRet_b (by omega)) ?_
      exact ⟨_, _, rfl, rfl, by omega, by omega⟩
set_option maxHeartbeats 1000000 in
theorem m_thrown {X : jX} {d : Nat} {c0 c1 : jC} {G : Nat → Int} {A : Nat → Nat → Int} {T : jH} : wk X (d + 1) 244 [.ref 66] (rV c0 c1 G A T) (fun o V' => V' = rV c0 c1 G A T ∧ o = .inl (some (.int (i32 (G 0))))) := by
  refine wk_of (e := jm244) rfl (Nat.le_of_ble_eq_true rfl) ?_
  show wj X d jm244 (0, [(0, .ref 66)], [], (rV c0 c1 G A T)) _
  refine jx_ld (pc' := 1) (l' := [(0, .ref 66)]) (st' := [.ref 66]) rfl rfl ?_
  refine jr_get (pc' := 4) (i := 0) (v := .int (i32 (G 0))) rfl rfl (by decide) rfl rfl ?_
  refine jx_rt (v := some (.int (i32 (G 0)))) rfl rfl rfl rfl rfl rfl ?_
  exact ⟨rfl, rfl⟩
