/-! HOW MANY ELEMENTS (a[i]) WERE MADE: the second family of the reader's contracts -/
def cnE (A : Nat → Nat → Int) : Nat → Int
  | 0 => 0
  | n + 1 => cnE A n + (if A 15 n = 3 then 1 else 0)
def ecn (A : Nat → Nat → Int) (n : Int) : Int := cnE A n.toNat
theorem cnE_e {A A' : Nat → Nat → Int} : ∀ {n : Nat}, (∀ j, j < n → A' 15 j = A 15 j) → cnE A' n = cnE A n
  | 0, _ => rfl
  | n + 1, h => by
    show cnE A' n + (if A' 15 n = 3 then 1 else 0) = cnE A n + (if A 15 n = 3 then 1 else 0)
    rw [cnE_e (fun j hj => h j (by omega)), h n (by omega)]
theorem ecn_e {A A' : Nat → Nat → Int} {n : Int} (h : A' 15 = A 15) : ecn A' n = ecn A n := cnE_e (fun j _ => by rw [h])
theorem ecn_f {A A' : Nat → Nat → Int} {n n' : Int} (h : A' 15 = A 15) (e : n' = n) : ecn A' n' = ecn A n := by
  rw [e]
  exact ecn_e h
theorem ecn_n {A A' : Nat → Nat → Int} {n k : Int} (h0 : 0 ≤ n) (hp : Pf n A A') (hk : A' 15 n.toNat = k) : ecn A' (n + 1) = ecn A n + (if k = 3 then 1 else 0) := by
  unfold ecn
  rw [show (n + 1).toNat = n.toNat + 1 by omega]
  show cnE A' n.toNat + (if A' 15 n.toNat = 3 then 1 else 0) = _
  rw [hk, cnE_e (A := A) (fun j hj => hp 15 j rfl (by omega))]
theorem c_node_e {X : jX} {dd : Nat} {c0 c1 : jC} {G : Nat → Int} {A : Nat → Nat → Int} {T : jH} {kind a b c e : Int} {nd ec : Int} (hd : 1 ≤ dd) (hW : Wk G A) (e_nd : G 31 = nd) (e_ec : ecn A (G 31) = ec) (h_kind : (-2147483648 : Int) ≤ kind ∧ kind ≤ 2147483647) (h_a : (-2147483648 : Int) ≤ a ∧ a ≤ 2147483647) (h_b : (-2147483648 : Int) ≤ b ∧ b ≤ 2147483647) (h_c : (-2147483648 : Int) ≤ c ∧ c ≤ 2147483647) (h_e : (-2147483648 : Int) ≤ e ∧ e ≤ 2147483647) (p_0 : nd ≤ 6998) (p_1 : 0 ≤ kind ∧ kind ≤ 34) (p_2 : kind = 3) : wk X dd 278 [.ref 66, .int (i32 kind), .int (i32 a), .int (i32 b), .int (i32 c), .int (i32 e)] (rV c0 c1 G A T) (fun o V' => ∃ (G' : Nat → Int) (A' : Nat → Nat → Int) (nd2 : Int) (ec2 : Int), V' = rV c0 c1 G' A' T ∧ o = .inl (some (.int (i32 (nd)))) ∧ Wk G' A' ∧ Fr [31] [15, 16, 17, 18, 19, 20, 21, 22, 24, 28] G A G' A' ∧ Pf nd A A' ∧ G' 31 = nd2 ∧ ecn A' (G' 31) = ec2 ∧ (nd2 = nd + 1) ∧ (ec2 = ec + 1) ∧ (ND A' (nd) (kind) (a) (b) (c) (e) (0) (0)) ∧ True) := by
  have hn := hW.1 31
  rw [e_nd] at hn
  have hn0 : (0 : Int) ≤ nd := hn.1
  refine wk_mono (fun o V' h => ?_) (c_node hd hW e_nd h_kind h_a h_b h_c h_e p_0 p_1)
  obtain ⟨G', A', nd2, h1, h2, h3, h4, h5, h6, h7, h8, _⟩ := h
  have z := ecn_n hn0 h5 h8.1
  have e_ec' : ecn A nd = ec := by rw [← e_nd]; exact e_ec
  rw [e_ec', if_pos (by omega)] at z
  exact ⟨G', A', nd2, _, h1, h2, h3, h4, h5, h6, rfl, h7, by rw [h6, h7, z], h8, trivial⟩
theorem c_node_o {X : jX} {dd : Nat} {c0 c1 : jC} {G : Nat → Int} {A : Nat → Nat → Int} {T : jH} {kind a b c e : Int} {nd ec : Int} (hd : 1 ≤ dd) (hW : Wk G A) (e_nd : G 31 = nd) (e_ec : ecn A (G 31) = ec) (h_kind : (-2147483648 : Int) ≤ kind ∧ kind ≤ 2147483647) (h_a : (-2147483648 : Int) ≤ a ∧ a ≤ 2147483647) (h_b : (-2147483648 : Int) ≤ b ∧ b ≤ 2147483647) (h_c : (-2147483648 : Int) ≤ c ∧ c ≤ 2147483647) (h_e : (-2147483648 : Int) ≤ e ∧ e ≤ 2147483647) (p_0 : nd ≤ 6998) (p_1 : 0 ≤ kind ∧ kind ≤ 34) (p_2 : kind ≤ 2 ∨ 4 ≤ kind) : wk X dd 278 [.ref 66, .int (i32 kind), .int (i32 a), .int (i32 b), .int (i32 c), .int (i32 e)] (rV c0 c1 G A T) (fun o V' => ∃ (G' : Nat → Int) (A' : Nat → Nat → Int) (nd2 : Int) (ec2 : Int), V' = rV c0 c1 G' A' T ∧ o = .inl (some (.int (i32 (nd)))) ∧ Wk G' A' ∧ Fr [31] [15, 16, 17, 18, 19, 20, 21, 22, 24, 28] G A G' A' ∧ Pf nd A A' ∧ G' 31 = nd2 ∧ ecn A' (G' 31) = ec2 ∧ (nd2 = nd + 1) ∧ (ec2 = ec) ∧ (ND A' (nd) (kind) (a) (b) (c) (e) (0) (0)) ∧ True) := by
  have hn := hW.1 31
  rw [e_nd] at hn
  have hn0 : (0 : Int) ≤ nd := hn.1
  refine wk_mono (fun o V' h => ?_) (c_node hd hW e_nd h_kind h_a h_b h_c h_e p_0 p_1)
  obtain ⟨G', A', nd2, h1, h2, h3, h4, h5, h6, h7, h8, _⟩ := h
  have z := ecn_n hn0 h5 h8.1
  have e_ec' : ecn A nd = ec := by rw [← e_nd]; exact e_ec
  rw [e_ec', if_neg (by omega)] at z
  exact ⟨G', A', nd2, _, h1, h2, h3, h4, h5, h6, rfl, h7, by rw [h6, h7, z]; omega, h8, trivial⟩
