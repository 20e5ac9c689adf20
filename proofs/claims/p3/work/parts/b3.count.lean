/-! HOW MANY ELEMENTS (a[i]) WERE MADE: the second family of the reader's contracts -/
def cnE (A : Nat → Nat → Int) : Nat → Int
  | 0 => 0
  | n + 1 => cnE A n + (if A 15 n = 3 then 1 else 0)
def ecn (A : Nat → Nat → Int) (n : Int) : Int := cnE A n.toNat
theorem cnE_e {A A_q : Nat → Nat → Int} : ∀ {n : Nat}, (∀ j, j < n → A_q 15 j = A 15 j) → cnE A_q n = cnE A n
  | 0, _ => rfl
  | n + 1, h => by
    show cnE A_q n + (if A_q 15 n = 3 then 1 else 0) = cnE A n + (if A 15 n = 3 then 1 else 0)
    rw [cnE_e (fun j hj => h j (by omega)), h n (by omega)]
theorem ecn_e {A A_q : Nat → Nat → Int} {n : Int} (h : A_q 15 = A 15) : ecn A_q n = ecn A n := cnE_e (fun j _ => by rw [h])
theorem ecn_f {A A_q : Nat → Nat → Int} {n n_q : Int} (h : A_q 15 = A 15) (e : n_q = n) : ecn A_q n_q = ecn A n := by
  rw [e]
  exact ecn_e h
theorem ecn_n {A A_q : Nat → Nat → Int} {n k : Int} (h0 : 0 ≤ n) (hp : Pf n A A_q) (hk : A_q 15 n.toNat = k) : ecn A_q (n + 1) = ecn A n + (if k = 3 then 1 else 0) := by
  unfold ecn
  rw [show (n + 1).toNat = n.toNat + 1 by omega]
  show cnE A_q n.toNat + (if A_q 15 n.toNat = 3 then 1 else 0) = _
  rw [hk, cnE_e (A := A) (fun j hj => hp 15 j rfl (by omega))]
/-- the nodes from lo on, below hi: their marks, their lines, the index of an element -/
def NdM (A : Nat → Nat → Int) (lo hi sy : Int) : Prop := ∀ j : Int, lo ≤ j → j < hi → sy ≤ A 28 j.toNat ∧ (A 15 j.toNat = 28 ∨ A 15 j.toNat = 29 → A 23 j.toNat + A 24 j.toNat ≤ A 28 j.toNat) ∧ ((23 ≤ A 15 j.toNat ∧ A 15 j.toNat ≤ 25) ∨ A 15 j.toNat = 28 ∨ A 15 j.toNat = 29 ∨ A 15 j.toNat = 33 → 0 ≤ A 16 j.toNat) ∧ (A 15 j.toNat = 3 → A 18 j.toNat = j - 1)
/-- but for what is declared at r -/
def NdO (A : Nat → Nat → Int) (lo hi sy r : Int) : Prop := ∀ j : Int, lo ≤ j → j < hi → sy ≤ A 28 j.toNat ∧ (j ≠ r → A 15 j.toNat = 28 ∨ A 15 j.toNat = 29 → A 23 j.toNat + A 24 j.toNat ≤ A 28 j.toNat) ∧ ((23 ≤ A 15 j.toNat ∧ A 15 j.toNat ≤ 25) ∨ A 15 j.toNat = 28 ∨ A 15 j.toNat = 29 ∨ A 15 j.toNat = 33 → 0 ≤ A 16 j.toNat) ∧ (j ≠ r → A 15 j.toNat = 3 → A 18 j.toNat = j - 1)
theorem NdM_mv {A A_q : Nat → Nat → Int} {lo hi sy : Int} (e : ∀ j : Int, lo ≤ j → j < hi → A_q 15 j.toNat = A 15 j.toNat ∧ A_q 16 j.toNat = A 16 j.toNat ∧ A_q 23 j.toNat = A 23 j.toNat ∧ A_q 24 j.toNat = A 24 j.toNat ∧ A_q 28 j.toNat = A 28 j.toNat ∧ (A 15 j.toNat = 3 → A_q 18 j.toNat = A 18 j.toNat)) (h : NdM A lo hi sy) : NdM A_q lo hi sy := fun j a b => by
  obtain ⟨e1, e2, e3, e4, e5, e6⟩ := e j a b
  obtain ⟨h1, h2, h3, h4⟩ := h j a b
  rw [e1, e2, e3, e4, e5]
  exact ⟨h1, h2, h3, fun q => (e6 q).trans (h4 q)⟩
theorem NdO_mv {A A_q : Nat → Nat → Int} {lo hi sy r : Int} (e : ∀ j : Int, lo ≤ j → j < hi → A_q 15 j.toNat = A 15 j.toNat ∧ A_q 16 j.toNat = A 16 j.toNat ∧ (j ≠ r → A_q 23 j.toNat = A 23 j.toNat ∧ A_q 24 j.toNat = A 24 j.toNat) ∧ A_q 28 j.toNat = A 28 j.toNat ∧ (j ≠ r → A 15 j.toNat = 3 → A_q 18 j.toNat = A 18 j.toNat)) (h : NdO A lo hi sy r) : NdO A_q lo hi sy r := fun j a b => by
  obtain ⟨e1, e2, e3, e5, e6⟩ := e j a b
  obtain ⟨h1, h2, h3, h4⟩ := h j a b
  rw [e1, e2, e5]
  refine ⟨h1, fun n => ?_, h3, fun n q => (e6 n q).trans (h4 n q)⟩
  rw [(e3 n).1, (e3 n).2]
  exact h2 n
theorem NdM_pf {A A_q : Nat → Nat → Int} {lo hi sy z : Int} (p : Pf z A A_q) (hz : hi ≤ z) (h0 : 0 ≤ lo) (h : NdM A lo hi sy) : NdM A_q lo hi sy := NdM_mv (fun j a b => ⟨p 15 _ rfl (by omega), p 16 _ rfl (by omega), p 23 _ rfl (by omega), p 24 _ rfl (by omega), p 28 _ rfl (by omega), fun _ => p 18 _ rfl (by omega)⟩) h
theorem NdO_pf {A A_q : Nat → Nat → Int} {lo hi sy r z : Int} (p : Pf z A A_q) (hz : hi ≤ z) (h0 : 0 ≤ lo) (h : NdO A lo hi sy r) : NdO A_q lo hi sy r := NdO_mv (fun j a b => ⟨p 15 _ rfl (by omega), p 16 _ rfl (by omega), fun _ => ⟨p 23 _ rfl (by omega), p 24 _ rfl (by omega)⟩, p 28 _ rfl (by omega), fun _ _ => p 18 _ rfl (by omega)⟩) h
theorem NdM_px {A A_q : Nat → Nat → Int} {lo hi sy n z : Int} (p : Px n z A A_q) (hz : hi ≤ z) (h0 : 0 ≤ lo) (hn : n < lo) (h : NdM A lo hi sy) : NdM A_q lo hi sy := NdM_mv (fun j a b => ⟨p 15 _ rfl (by omega) (by omega), p 16 _ rfl (by omega) (by omega), p 23 _ rfl (by omega) (by omega), p 24 _ rfl (by omega) (by omega), p 28 _ rfl (by omega) (by omega), fun _ => p 18 _ rfl (by omega) (by omega)⟩) h
def mrr : List Nat := [15, 16, 18, 23, 24, 28]
theorem mrr_f {A A_q : Nat → Nat → Int} {G G_q : Nat → Int} {gs as : List Nat} (hF : Fr gs as G A G_q A_q) (hd : mrr.all (fun k => !as.elem k) = true) (k : Nat) (hk : mrr.elem k = true) : A_q k = A k := by
  have e : as.elem k = false := by
    have := List.all_eq_true.mp hd k (List.elem_iff.mp hk)
    simpa using this
  exact hF.2 k e
theorem NdM_f {A A_q : Nat → Nat → Int} {G G_q : Nat → Int} {gs as : List Nat} {lo hi sy : Int} (hF : Fr gs as G A G_q A_q) (hd : mrr.all (fun k => !as.elem k) = true) (h : NdM A lo hi sy) : NdM A_q lo hi sy := NdM_mv (fun j _ _ => ⟨congrFun (mrr_f hF hd 15 rfl) _, congrFun (mrr_f hF hd 16 rfl) _, congrFun (mrr_f hF hd 23 rfl) _, congrFun (mrr_f hF hd 24 rfl) _, congrFun (mrr_f hF hd 28 rfl) _, fun _ => congrFun (mrr_f hF hd 18 rfl) _⟩) h
theorem NdO_f {A A_q : Nat → Nat → Int} {G G_q : Nat → Int} {gs as : List Nat} {lo hi sy r : Int} (hF : Fr gs as G A G_q A_q) (hd : mrr.all (fun k => !as.elem k) = true) (h : NdO A lo hi sy r) : NdO A_q lo hi sy r := NdO_mv (fun j _ _ => ⟨congrFun (mrr_f hF hd 15 rfl) _, congrFun (mrr_f hF hd 16 rfl) _, fun _ => ⟨congrFun (mrr_f hF hd 23 rfl) _, congrFun (mrr_f hF hd 24 rfl) _⟩, congrFun (mrr_f hF hd 28 rfl) _, fun _ _ => congrFun (mrr_f hF hd 18 rfl) _⟩) h
theorem mrr_s {A A_q : Nat → Nat → Int} {k n : Nat} {v : Int} (e : A_q = uA A k n v) (hk : mrr.elem k = false) (r : Nat) (hr : mrr.elem r = true) : A_q r = A r := by
  rw [e]
  exact uA_ne (fun q => by rw [q, hk] at hr; cases hr)
theorem NdM_st {A A_q : Nat → Nat → Int} {k n : Nat} {v lo hi sy : Int} (e : A_q = uA A k n v) (hk : mrr.elem k = false) (h : NdM A lo hi sy) : NdM A_q lo hi sy := NdM_mv (fun j _ _ => ⟨congrFun (mrr_s e hk 15 rfl) _, congrFun (mrr_s e hk 16 rfl) _, congrFun (mrr_s e hk 23 rfl) _, congrFun (mrr_s e hk 24 rfl) _, congrFun (mrr_s e hk 28 rfl) _, fun _ => congrFun (mrr_s e hk 18 rfl) _⟩) h
theorem NdO_st {A A_q : Nat → Nat → Int} {k n : Nat} {v lo hi sy r : Int} (e : A_q = uA A k n v) (hk : mrr.elem k = false) (h : NdO A lo hi sy r) : NdO A_q lo hi sy r := NdO_mv (fun j _ _ => ⟨congrFun (mrr_s e hk 15 rfl) _, congrFun (mrr_s e hk 16 rfl) _, fun _ => ⟨congrFun (mrr_s e hk 23 rfl) _, congrFun (mrr_s e hk 24 rfl) _⟩, congrFun (mrr_s e hk 28 rfl) _, fun _ _ => congrFun (mrr_s e hk 18 rfl) _⟩) h
theorem u18 {A A_q : Nat → Nat → Int} {n : Nat} {v : Int} (e : A_q = uA A 18 n v) (r : Nat) (hr : r ≠ 18) : A_q r = A r := by
  rw [e]
  exact uA_ne hr
theorem u18_k {A A_q : Nat → Nat → Int} {n m : Nat} {v k : Int} (e : A_q = uA A 18 n v) (hk : A 15 n = k) (k3 : k ≠ 3) (q : A 15 m = 3) : A_q 18 m = A 18 m := by
  rw [e]
  exact uA_ni (fun w => by rw [w, hk] at q; omega)
theorem NdM_18 {A A_q : Nat → Nat → Int} {n : Nat} {v lo hi sy k : Int} (e : A_q = uA A 18 n v) (hk : A 15 n = k) (k3 : k ≠ 3) (h : NdM A lo hi sy) : NdM A_q lo hi sy := NdM_mv (fun j _ _ => ⟨congrFun (u18 e 15 (by decide)) _, congrFun (u18 e 16 (by decide)) _, congrFun (u18 e 23 (by decide)) _, congrFun (u18 e 24 (by decide)) _, congrFun (u18 e 28 (by decide)) _, fun q => u18_k e hk k3 q⟩) h
theorem NdM_sx {A A_q : Nat → Nat → Int} {n v lo hi sy : Int} (e : A_q = uA A 18 n.toNat v) (h0 : 0 ≤ n) (hn : n < lo) (h : NdM A lo hi sy) : NdM A_q lo hi sy := NdM_mv (fun j _ _ => ⟨congrFun (u18 e 15 (by decide)) _, congrFun (u18 e 16 (by decide)) _, congrFun (u18 e 23 (by decide)) _, congrFun (u18 e 24 (by decide)) _, congrFun (u18 e 28 (by decide)) _, fun _ => by rw [e]; exact uA_ni (by omega)⟩) h
theorem NdO_2 {A A_q : Nat → Nat → Int} {k : Nat} {v lo hi sy r : Int} (e : A_q = uA A k r.toNat v) (hk : [18, 23, 24].elem k = true) (h0 : 0 ≤ lo) (h1 : 0 ≤ r) (h : NdO A lo hi sy r) : NdO A_q lo hi sy r := by
  have hk : k = 18 ∨ k = 23 ∨ k = 24 := by
    have := List.elem_iff.mp hk
    simpa using this
  refine NdO_mv (fun j a b => ?_) h
  rw [e]
  have ne : ∀ r' : Nat, r' ≠ k → uA A k r.toNat v r' j.toNat = A r' j.toNat := fun r' q => congrFun (uA_ne q) _
  have nj : j ≠ r → ∀ r' : Nat, uA A k r.toNat v r' j.toNat = A r' j.toNat := fun q r' => if_neg (fun w => by have := w.2; omega)
  exact ⟨ne 15 (by omega), ne 16 (by omega), fun q => ⟨nj q 23, nj q 24⟩, ne 28 (by omega), fun q _ => nj q 18⟩
theorem NdM_w {A : Nat → Nat → Int} {a b s lo hi sy : Int} (h : NdM A a b s) (h1 : a ≤ lo) (h2 : hi ≤ b) (h3 : sy ≤ s) : NdM A lo hi sy := fun j x y => by
  have z := h j (by omega) (by omega)
  exact ⟨Int.le_trans h3 z.1, z.2⟩
theorem NdO_w {A : Nat → Nat → Int} {a b s lo hi sy r : Int} (h : NdO A a b s r) (h1 : a ≤ lo) (h2 : hi ≤ b) (h3 : sy ≤ s) : NdO A lo hi sy r := fun j x y => by
  have z := h j (by omega) (by omega)
  exact ⟨Int.le_trans h3 z.1, z.2⟩
theorem NdM_0 {A : Nat → Nat → Int} {lo hi sy : Int} (h : hi ≤ lo) : NdM A lo hi sy := fun j x y => by omega
theorem NdM_app {A : Nat → Nat → Int} {a b c d s1 s2 sy : Int} (h : NdM A a b s1) (g : NdM A c d s2) (h1 : c ≤ b) (h2 : sy ≤ s1) (h3 : sy ≤ s2) : NdM A a d sy := fun j x y => by
  by_cases q : j < b
  · have z := h j x q
    exact ⟨Int.le_trans h2 z.1, z.2⟩
  · have z := g j (by omega) y
    exact ⟨Int.le_trans h3 z.1, z.2⟩
theorem NdO_app {A : Nat → Nat → Int} {a b c d s1 s2 sy r : Int} (h : NdO A a b s1 r) (g : NdO A c d s2 r) (h1 : c ≤ b) (h2 : sy ≤ s1) (h3 : sy ≤ s2) : NdO A a d sy r := fun j x y => by
  by_cases q : j < b
  · have z := h j x q
    exact ⟨Int.le_trans h2 z.1, z.2⟩
  · have z := g j (by omega) y
    exact ⟨Int.le_trans h3 z.1, z.2⟩
theorem NdO_m {A : Nat → Nat → Int} {lo hi sy r : Int} (h : NdM A lo hi sy) : NdO A lo hi sy r := fun j x y => ⟨(h j x y).1, fun _ => (h j x y).2.1, (h j x y).2.2.1, fun _ => (h j x y).2.2.2⟩
theorem NdO_r {A : Nat → Nat → Int} {lo lo_q hi sy r : Int} (h1 : lo ≤ lo_q) (h2 : r < lo_q) (h : NdO A lo hi sy r) : NdM A lo_q hi sy := fun j x y => ⟨(h j (by omega) y).1, (h j (by omega) y).2.1 (by omega), (h j (by omega) y).2.2.1, (h j (by omega) y).2.2.2 (by omega)⟩
theorem NdM_k {A : Nat → Nat → Int} {lo hi sy r k : Int} (h : NdO A lo hi sy r) (e : A 15 r.toNat = k) (k1 : k ≠ 28 ∧ k ≠ 29) (k2 : k ≠ 3) : NdM A lo hi sy := fun j x y => by
  obtain ⟨z1, z2, z3, z4⟩ := h j x y
  refine ⟨z1, fun q => ?_, z3, fun q => ?_⟩
  · by_cases w : j = r
    · rw [w, e] at q
      omega
    · exact z2 w q
  · by_cases w : j = r
    · rw [w, e] at q
      omega
    · exact z4 w q
theorem wP_k20 {A : Nat → Nat → Int} {sb pb : Int} {k : Nat} {V : Nat → Prop} {c lo hi s0 s1 : Int} (h : wP A sb pb k V c lo hi s0 s1) : 20 ≤ A 15 c.toNat := by
  cases k with
  | zero => exact h.elim
  | succ k =>
    unfold wP at h
    have h := h.2.2.2.2.2.2.2
    unfold wSt at h
    rcases h with h | h | h | h | h | h | h | h | h | h | h | h
    all_goals (have := h.1; omega)
theorem NdM_o {A : Nat → Nat → Int} {lo hi sy r u v : Int} (h : NdO A lo hi sy r) (e1 : A 23 r.toNat = u) (e2 : A 24 r.toNat = v) (hs : u + v ≤ sy) (hk : A 15 r.toNat ≠ 3) : NdM A lo hi sy := fun j x y => by
  obtain ⟨z1, z2, z3, z4⟩ := h j x y
  refine ⟨z1, fun q => ?_, z3, fun q => ?_⟩
  · by_cases w : j = r
    · rw [w] at z1 ⊢
      rw [e1, e2]
      omega
    · exact z2 w q
  · by_cases w : j = r
    · rw [w] at q
      exact absurd q hk
    · exact z4 w q
set_option maxRecDepth 20000 in
set_option maxHeartbeats 4000000 in
theorem c_node_v {X : jX} {dd : Nat} {c0 c1 : jC} {G : Nat → Int} {A : Nat → Nat → Int} {T : jH} {kind a b c e : Int} {nd sy ln li : Int} (hd : 1 ≤ dd) (hW : Wk G A) (e_nd : G 31 = nd) (e_sy : G 19 = sy) (e_ln : G 9 = ln) (e_li : G 3 = li) (h_kind : (-2147483648 : Int) ≤ kind ∧ kind ≤ 2147483647) (h_a : (-2147483648 : Int) ≤ a ∧ a ≤ 2147483647) (h_b : (-2147483648 : Int) ≤ b ∧ b ≤ 2147483647) (h_c : (-2147483648 : Int) ≤ c ∧ c ≤ 2147483647) (h_e : (-2147483648 : Int) ≤ e ∧ e ≤ 2147483647) (p_0 : nd ≤ 6998) (p_1 : 0 ≤ kind ∧ kind ≤ 34) : wk X dd 278 [.ref 66, .int (i32 kind), .int (i32 a), .int (i32 b), .int (i32 c), .int (i32 e)] (rV c0 c1 G A T) (fun o V_q => ∃ (G_q : Nat → Int) (A_q : Nat → Nat → Int) (nd2 : Int) (mk2 : Int) (nl2 : Int), V_q = rV c0 c1 G_q A_q T ∧ o = .inl (some (.int (i32 (nd)))) ∧ Wk G_q A_q ∧ Fr [31] [15, 16, 17, 18, 19, 20, 21, 22, 24, 28] G A G_q A_q ∧ Pf nd A A_q ∧ G_q 31 = nd2 ∧ A_q 28 (nd).toNat = mk2 ∧ A_q 16 (nd).toNat = nl2 ∧ (nd2 = nd + 1) ∧ (mk2 = sy) ∧ (ND A_q (nd) (kind) (a) (b) (c) (e) (0) (0)) ∧ (((ln < li) ∧ (0 ≤ nl2)) ∨ ((li ≤ ln)))) := by
  obtain ⟨d, rfl⟩ : ∃ d, dd = d + 1 := ⟨dd - 1, by omega⟩
  refine wk_of (e := jm278) rfl (Nat.le_of_ble_eq_true rfl) ?_
  show wj X d jm278 (0, [(0, .ref 66), (1, .int (i32 (kind))), (2, .int (i32 (a))), (3, .int (i32 (b))), (4, .int (i32 (c))), (5, .int (i32 (e)))], [], rV c0 c1 G A T) _
  have hF0 : Fr [31] [15, 16, 17, 18, 19, 20, 21, 22, 24, 28] G A G A := Fr_rf
  have hP0 : Pf nd A A := Pf_rf
  have b_nd : (0 : Int) ≤ nd ∧ nd ≤ 6999 := e_nd ▸ hW.1 31
  have b_sy : (0 : Int) ≤ sy ∧ sy ≤ 202 := e_sy ▸ hW.1 19
  have b_ln : (0 : Int) ≤ ln ∧ ln ≤ 3000 := e_ln ▸ hW.1 9
  have b_li : (0 : Int) ≤ li ∧ li ≤ 3000 := e_li ▸ hW.1 3
  refine jx_ld (pc_q := 1) (l_q := [(0, .ref 66), (1, .int (i32 (kind))), (2, .int (i32 (a))), (3, .int (i32 (b))), (4, .int (i32 (c))), (5, .int (i32 (e)))]) (st_q := [.ref 66]) rfl (jl_aloadn rfl) ?_
  refine jr_get (pc_q := 4) (i := 31) (v := .int (i32 (nd))) rfl rfl (by decide) (rFv_eq (by decide) (show G 31 = nd from (e_nd))) rfl ?_
  refine jx_ld (pc_q := 6) (l_q := jSto1 [(0, .ref 66), (1, .int (i32 (kind))), (2, .int (i32 (a))), (3, .int (i32 (b))), (4, .int (i32 (c))), (5, .int (i32 (e)))] 6 (.int (i32 (nd)))) (st_q := []) rfl rfl ?_
  obtain ⟨L1, eL1⟩ : ∃ q, q = jSto1 [(0, .ref 66), (1, .int (i32 (kind))), (2, .int (i32 (a))), (3, .int (i32 (b))), (4, .int (i32 (c))), (5, .int (i32 (e)))] 6 (.int (i32 (nd))) := ⟨_, rfl⟩
  rw [← eL1]
  have gL1_0 : jGet L1 0 = some (.ref 66) := eL1 ▸ jg_ne (by decide) (rfl : jGet [(0, .ref 66), (1, .int (i32 (kind))), (2, .int (i32 (a))), (3, .int (i32 (b))), (4, .int (i32 (c))), (5, .int (i32 (e)))] 0 = some (.ref 66)) rfl
  have gL1_1 : jGet L1 1 = some (.int (i32 (kind))) := eL1 ▸ jg_ne (by decide) (rfl : jGet [(0, .ref 66), (1, .int (i32 (kind))), (2, .int (i32 (a))), (3, .int (i32 (b))), (4, .int (i32 (c))), (5, .int (i32 (e)))] 1 = some (.int (i32 (kind)))) rfl
  have gL1_2 : jGet L1 2 = some (.int (i32 (a))) := eL1 ▸ jg_ne (by decide) (rfl : jGet [(0, .ref 66), (1, .int (i32 (kind))), (2, .int (i32 (a))), (3, .int (i32 (b))), (4, .int (i32 (c))), (5, .int (i32 (e)))] 2 = some (.int (i32 (a)))) rfl
  have gL1_3 : jGet L1 3 = some (.int (i32 (b))) := eL1 ▸ jg_ne (by decide) (rfl : jGet [(0, .ref 66), (1, .int (i32 (kind))), (2, .int (i32 (a))), (3, .int (i32 (b))), (4, .int (i32 (c))), (5, .int (i32 (e)))] 3 = some (.int (i32 (b)))) rfl
  have gL1_4 : jGet L1 4 = some (.int (i32 (c))) := eL1 ▸ jg_ne (by decide) (rfl : jGet [(0, .ref 66), (1, .int (i32 (kind))), (2, .int (i32 (a))), (3, .int (i32 (b))), (4, .int (i32 (c))), (5, .int (i32 (e)))] 4 = some (.int (i32 (c)))) rfl
  have gL1_5 : jGet L1 5 = some (.int (i32 (e))) := eL1 ▸ jg_ne (by decide) (rfl : jGet [(0, .ref 66), (1, .int (i32 (kind))), (2, .int (i32 (a))), (3, .int (i32 (b))), (4, .int (i32 (c))), (5, .int (i32 (e)))] 5 = some (.int (i32 (e)))) rfl
  have gL1_6 : jGet L1 6 = some (.int (i32 (nd))) := eL1 ▸ jg_eq
  refine jx_ld (pc_q := 7) (l_q := L1) (st_q := [.ref 66]) rfl (jl_aloadn gL1_0) ?_
  refine jr_get (pc_q := 10) (i := 32) (v := .ref 82) rfl rfl (by decide) rfl rfl ?_
  refine jx_ld (pc_q := 12) (l_q := L1) (st_q := [.int (i32 (nd)), .ref 82]) rfl (jl_iload gL1_6) ?_
  refine jx_ld (pc_q := 13) (l_q := L1) (st_q := [.int (i32 (kind)), .int (i32 (nd)), .ref 82]) rfl (jl_iloadn gL1_1) ?_
  refine jr_st (pc_q := 14) (i := 15) (m := 7000) (z := nd) (y := kind) rfl (by decide) rfl (by decide) (by omega) (by omega) rfl ?_
  have hW3 : Wk G (uA A 15 (nd).toNat (kind)) := Wk_a hW (show (0 : Int) ≤ kind by omega) (show kind ≤ (34 : Int) by omega)
  have hF4 := Fr_a (z := kind) (k := 15) (n := (nd).toNat) hF0 (by decide)
  obtain ⟨A2, eA2⟩ : ∃ q, q = uA A 15 (nd).toNat (kind) := ⟨_, rfl⟩
  rw [← eA2]
  rw [← eA2] at hW3 hF4
  have q5 : A2 15 (nd).toNat = kind := by rw [eA2]; exact uA_eq
  have hP6 : Pf nd A A2 := eA2 ▸ Pf_a hP0 (z := nd) (by omega) (by omega)
  refine jx_ld (pc_q := 15) (l_q := L1) (st_q := [.ref 66]) rfl (jl_aloadn gL1_0) ?_
  refine jr_get (pc_q := 18) (i := 33) (v := .ref 83) rfl rfl (by decide) rfl rfl ?_
  refine jx_ld (pc_q := 20) (l_q := L1) (st_q := [.int (i32 (nd)), .ref 83]) rfl (jl_iload gL1_6) ?_
  refine jx_ld (pc_q := 21) (l_q := L1) (st_q := [.ref 66, .int (i32 (nd)), .ref 83]) rfl (jl_aloadn gL1_0) ?_
  refine jr_get (pc_q := 24) (i := 9) (v := .int (i32 (ln))) rfl rfl (by decide) (rFv_eq (by decide) (show G 9 = ln from (e_ln))) rfl ?_
  refine jx_ld (pc_q := 25) (l_q := L1) (st_q := [.ref 66, .int (i32 (ln)), .int (i32 (nd)), .ref 83]) rfl (jl_aloadn gL1_0) ?_
  refine jr_get (pc_q := 28) (i := 3) (v := .int (i32 (li))) rfl rfl (by decide) (rFv_eq (by decide) (show G 3 = li from (e_li))) rfl ?_
  refine jx_icmp_ge (pc_q := 31) (tg := 43) rfl rfl rfl (Int.le_trans (by decide : (-2147483648 : Int) ≤ 0) b_ln.1) (Int.le_trans b_ln.2 (by decide : (3000 : Int) ≤ 2147483647)) (Int.le_trans (by decide : (-2147483648 : Int) ≤ 0) b_li.1) (Int.le_trans b_li.2 (by decide : (3000 : Int) ≤ 2147483647)) (fun h7 => ?_) (fun h7 => ?_)
  · have _q := h7
    refine jx_ar (pc_q := 44) (st_q := [.int (i32 (-1)), .int (i32 (nd)), .ref 83]) rfl rfl rfl rfl ?_
    refine jr_st (pc_q := 45) (i := 16) (m := 7000) (z := nd) (y := -1) rfl (by decide) rfl (by decide) (by omega) (by omega) rfl ?_
    have hW9 : Wk G (uA A2 16 (nd).toNat (-1)) := Wk_a hW3 (show (-1 : Int) ≤ -1 by omega) (show -1 ≤ (3000 : Int) by omega)
    have hF10 := Fr_a (z := -1) (k := 16) (n := (nd).toNat) hF4 (by decide)
    obtain ⟨A8, eA8⟩ : ∃ q, q = uA A2 16 (nd).toNat (-1) := ⟨_, rfl⟩
    rw [← eA8]
    rw [← eA8] at hW9 hF10
    have q11 : A8 16 (nd).toNat = -1 := by rw [eA8]; exact uA_eq
    have hP12 : Pf nd A A8 := eA8 ▸ Pf_a hP6 (z := nd) (by omega) (by omega)
    refine jx_ld (pc_q := 46) (l_q := L1) (st_q := [.ref 66]) rfl (jl_aloadn gL1_0) ?_
    refine jr_get (pc_q := 49) (i := 34) (v := .ref 84) rfl rfl (by decide) rfl rfl ?_
    refine jx_ld (pc_q := 51) (l_q := L1) (st_q := [.int (i32 (nd)), .ref 84]) rfl (jl_iload gL1_6) ?_
    refine jx_ld (pc_q := 52) (l_q := L1) (st_q := [.int (i32 (a)), .int (i32 (nd)), .ref 84]) rfl (jl_iloadn gL1_2) ?_
    refine jr_st (pc_q := 53) (i := 17) (m := 7000) (z := nd) (y := a) rfl (by decide) rfl (by decide) (by omega) (by omega) rfl ?_
    have hW14 : Wk G (uA A8 17 (nd).toNat (a)) := Wk_a hW9 (show (-2147483648 : Int) ≤ a by omega) (show a ≤ (2147483647 : Int) by omega)
    have hF15 := Fr_a (z := a) (k := 17) (n := (nd).toNat) hF10 (by decide)
    obtain ⟨A13, eA13⟩ : ∃ q, q = uA A8 17 (nd).toNat (a) := ⟨_, rfl⟩
    rw [← eA13]
    rw [← eA13] at hW14 hF15
    have q16 : A13 17 (nd).toNat = a := by rw [eA13]; exact uA_eq
    have hP17 : Pf nd A A13 := eA13 ▸ Pf_a hP12 (z := nd) (by omega) (by omega)
    refine jx_ld (pc_q := 54) (l_q := L1) (st_q := [.ref 66]) rfl (jl_aloadn gL1_0) ?_
    refine jr_get (pc_q := 57) (i := 35) (v := .ref 85) rfl rfl (by decide) rfl rfl ?_
    refine jx_ld (pc_q := 59) (l_q := L1) (st_q := [.int (i32 (nd)), .ref 85]) rfl (jl_iload gL1_6) ?_
    refine jx_ld (pc_q := 60) (l_q := L1) (st_q := [.int (i32 (b)), .int (i32 (nd)), .ref 85]) rfl (jl_iloadn gL1_3) ?_
    refine jr_st (pc_q := 61) (i := 18) (m := 7000) (z := nd) (y := b) rfl (by decide) rfl (by decide) (by omega) (by omega) rfl ?_
    have hW19 : Wk G (uA A13 18 (nd).toNat (b)) := Wk_a hW14 (show (-2147483648 : Int) ≤ b by omega) (show b ≤ (2147483647 : Int) by omega)
    have hF20 := Fr_a (z := b) (k := 18) (n := (nd).toNat) hF15 (by decide)
    obtain ⟨A18, eA18⟩ : ∃ q, q = uA A13 18 (nd).toNat (b) := ⟨_, rfl⟩
    rw [← eA18]
    rw [← eA18] at hW19 hF20
    have q21 : A18 18 (nd).toNat = b := by rw [eA18]; exact uA_eq
    have hP22 : Pf nd A A18 := eA18 ▸ Pf_a hP17 (z := nd) (by omega) (by omega)
    refine jx_ld (pc_q := 62) (l_q := L1) (st_q := [.ref 66]) rfl (jl_aloadn gL1_0) ?_
    refine jr_get (pc_q := 65) (i := 36) (v := .ref 86) rfl rfl (by decide) rfl rfl ?_
    refine jx_ld (pc_q := 67) (l_q := L1) (st_q := [.int (i32 (nd)), .ref 86]) rfl (jl_iload gL1_6) ?_
    refine jx_ld (pc_q := 69) (l_q := L1) (st_q := [.int (i32 (c)), .int (i32 (nd)), .ref 86]) rfl (jl_iload gL1_4) ?_
    refine jr_st (pc_q := 70) (i := 19) (m := 7000) (z := nd) (y := c) rfl (by decide) rfl (by decide) (by omega) (by omega) rfl ?_
    have hW24 : Wk G (uA A18 19 (nd).toNat (c)) := Wk_a hW19 (show (-2147483648 : Int) ≤ c by omega) (show c ≤ (2147483647 : Int) by omega)
    have hF25 := Fr_a (z := c) (k := 19) (n := (nd).toNat) hF20 (by decide)
    obtain ⟨A23, eA23⟩ : ∃ q, q = uA A18 19 (nd).toNat (c) := ⟨_, rfl⟩
    rw [← eA23]
    rw [← eA23] at hW24 hF25
    have q26 : A23 19 (nd).toNat = c := by rw [eA23]; exact uA_eq
    have hP27 : Pf nd A A23 := eA23 ▸ Pf_a hP22 (z := nd) (by omega) (by omega)
    refine jx_ld (pc_q := 71) (l_q := L1) (st_q := [.ref 66]) rfl (jl_aloadn gL1_0) ?_
    refine jr_get (pc_q := 74) (i := 37) (v := .ref 87) rfl rfl (by decide) rfl rfl ?_
    refine jx_ld (pc_q := 76) (l_q := L1) (st_q := [.int (i32 (nd)), .ref 87]) rfl (jl_iload gL1_6) ?_
    refine jx_ld (pc_q := 78) (l_q := L1) (st_q := [.int (i32 (e)), .int (i32 (nd)), .ref 87]) rfl (jl_iload gL1_5) ?_
    refine jr_st (pc_q := 79) (i := 20) (m := 7000) (z := nd) (y := e) rfl (by decide) rfl (by decide) (by omega) (by omega) rfl ?_
    have hW29 : Wk G (uA A23 20 (nd).toNat (e)) := Wk_a hW24 (show (-2147483648 : Int) ≤ e by omega) (show e ≤ (2147483647 : Int) by omega)
    have hF30 := Fr_a (z := e) (k := 20) (n := (nd).toNat) hF25 (by decide)
    obtain ⟨A28, eA28⟩ : ∃ q, q = uA A23 20 (nd).toNat (e) := ⟨_, rfl⟩
    rw [← eA28]
    rw [← eA28] at hW29 hF30
    have q31 : A28 20 (nd).toNat = e := by rw [eA28]; exact uA_eq
    have hP32 : Pf nd A A28 := eA28 ▸ Pf_a hP27 (z := nd) (by omega) (by omega)
    refine jx_ld (pc_q := 80) (l_q := L1) (st_q := [.ref 66]) rfl (jl_aloadn gL1_0) ?_
    refine jr_get (pc_q := 83) (i := 38) (v := .ref 88) rfl rfl (by decide) rfl rfl ?_
    refine jx_ld (pc_q := 85) (l_q := L1) (st_q := [.int (i32 (nd)), .ref 88]) rfl (jl_iload gL1_6) ?_
    refine jx_ar (pc_q := 86) (st_q := [.int (i32 (0)), .int (i32 (nd)), .ref 88]) rfl rfl rfl rfl ?_
    refine jr_st (pc_q := 87) (i := 21) (m := 7000) (z := nd) (y := 0) rfl (by decide) rfl (by decide) (by omega) (by omega) rfl ?_
    have hW34 : Wk G (uA A28 21 (nd).toNat (0)) := Wk_a hW29 (show (-2147483648 : Int) ≤ 0 by omega) (show 0 ≤ (2147483647 : Int) by omega)
    have hF35 := Fr_a (z := 0) (k := 21) (n := (nd).toNat) hF30 (by decide)
    obtain ⟨A33, eA33⟩ : ∃ q, q = uA A28 21 (nd).toNat (0) := ⟨_, rfl⟩
    rw [← eA33]
    rw [← eA33] at hW34 hF35
    have q36 : A33 21 (nd).toNat = 0 := by rw [eA33]; exact uA_eq
    have hP37 : Pf nd A A33 := eA33 ▸ Pf_a hP32 (z := nd) (by omega) (by omega)
    refine jx_ld (pc_q := 88) (l_q := L1) (st_q := [.ref 66]) rfl (jl_aloadn gL1_0) ?_
    refine jr_get (pc_q := 91) (i := 39) (v := .ref 89) rfl rfl (by decide) rfl rfl ?_
    refine jx_ld (pc_q := 93) (l_q := L1) (st_q := [.int (i32 (nd)), .ref 89]) rfl (jl_iload gL1_6) ?_
    refine jx_ar (pc_q := 94) (st_q := [.int (i32 (0)), .int (i32 (nd)), .ref 89]) rfl rfl rfl rfl ?_
    refine jr_st (pc_q := 95) (i := 22) (m := 7000) (z := nd) (y := 0) rfl (by decide) rfl (by decide) (by omega) (by omega) rfl ?_
    have hW39 : Wk G (uA A33 22 (nd).toNat (0)) := Wk_a hW34 (show (-2147483648 : Int) ≤ 0 by omega) (show 0 ≤ (2147483647 : Int) by omega)
    have hF40 := Fr_a (z := 0) (k := 22) (n := (nd).toNat) hF35 (by decide)
    obtain ⟨A38, eA38⟩ : ∃ q, q = uA A33 22 (nd).toNat (0) := ⟨_, rfl⟩
    rw [← eA38]
    rw [← eA38] at hW39 hF40
    have q41 : A38 22 (nd).toNat = 0 := by rw [eA38]; exact uA_eq
    have hP42 : Pf nd A A38 := eA38 ▸ Pf_a hP37 (z := nd) (by omega) (by omega)
    refine jx_ld (pc_q := 96) (l_q := L1) (st_q := [.ref 66]) rfl (jl_aloadn gL1_0) ?_
    refine jr_get (pc_q := 99) (i := 41) (v := .ref 91) rfl rfl (by decide) rfl rfl ?_
    refine jx_ld (pc_q := 101) (l_q := L1) (st_q := [.int (i32 (nd)), .ref 91]) rfl (jl_iload gL1_6) ?_
    refine jx_ar (pc_q := 102) (st_q := [.int (i32 (0)), .int (i32 (nd)), .ref 91]) rfl rfl rfl rfl ?_
    refine jr_st (pc_q := 103) (i := 24) (m := 7000) (z := nd) (y := 0) rfl (by decide) rfl (by decide) (by omega) (by omega) rfl ?_
    have hW44 : Wk G (uA A38 24 (nd).toNat (0)) := Wk_a hW39 (show (-2147483648 : Int) ≤ 0 by omega) (show 0 ≤ (2147483647 : Int) by omega)
    have hF45 := Fr_a (z := 0) (k := 24) (n := (nd).toNat) hF40 (by decide)
    obtain ⟨A43, eA43⟩ : ∃ q, q = uA A38 24 (nd).toNat (0) := ⟨_, rfl⟩
    rw [← eA43]
    rw [← eA43] at hW44 hF45
    have q46 : A43 24 (nd).toNat = 0 := by rw [eA43]; exact uA_eq
    have hP47 : Pf nd A A43 := eA43 ▸ Pf_a hP42 (z := nd) (by omega) (by omega)
    refine jx_ld (pc_q := 104) (l_q := L1) (st_q := [.ref 66]) rfl (jl_aloadn gL1_0) ?_
    refine jr_get (pc_q := 107) (i := 45) (v := .ref 95) rfl rfl (by decide) rfl rfl ?_
    refine jx_ld (pc_q := 109) (l_q := L1) (st_q := [.int (i32 (nd)), .ref 95]) rfl (jl_iload gL1_6) ?_
    refine jx_ld (pc_q := 110) (l_q := L1) (st_q := [.ref 66, .int (i32 (nd)), .ref 95]) rfl (jl_aloadn gL1_0) ?_
    refine jr_get (pc_q := 113) (i := 19) (v := .int (i32 (sy))) rfl rfl (by decide) (rFv_eq (by decide) (show G 19 = sy from (e_sy))) rfl ?_
    refine jr_st (pc_q := 114) (i := 28) (m := 7000) (z := nd) (y := sy) rfl (by decide) rfl (by decide) (by omega) (by omega) rfl ?_
    have hW49 : Wk G (uA A43 28 (nd).toNat (sy)) := Wk_a hW44 (show (-2147483648 : Int) ≤ sy by omega) (show sy ≤ (2147483647 : Int) by omega)
    have hF50 := Fr_a (z := sy) (k := 28) (n := (nd).toNat) hF45 (by decide)
    obtain ⟨A48, eA48⟩ : ∃ q, q = uA A43 28 (nd).toNat (sy) := ⟨_, rfl⟩
    rw [← eA48]
    rw [← eA48] at hW49 hF50
    have q51 : A48 28 (nd).toNat = sy := by rw [eA48]; exact uA_eq
    have hP52 : Pf nd A A48 := eA48 ▸ Pf_a hP47 (z := nd) (by omega) (by omega)
    refine jx_ld (pc_q := 115) (l_q := L1) (st_q := [.ref 66]) rfl (jl_aloadn gL1_0) ?_
    refine jx_ar (pc_q := 116) (st_q := [.ref 66, .ref 66]) rfl rfl rfl rfl ?_
    refine jr_get (pc_q := 119) (i := 31) (v := .int (i32 (nd))) rfl rfl (by decide) (rFv_eq (by decide) (show G 31 = nd from (e_nd))) rfl ?_
    refine jx_ar (pc_q := 120) (st_q := [.int (i32 (1)), .int (i32 (nd)), .ref 66]) rfl rfl rfl rfl ?_
    refine jx_add (pc_q := 121) rfl rfl ?_
    refine jr_put (pc_q := 124) (i := 31) (z := (nd + 1)) rfl rfl (by decide) rfl rfl rfl rfl rfl rfl ?_
    have hW53 : Wk (uG G 31 ((nd + 1))) A48 := Wk_g hW49 (show (0 : Int) ≤ (nd + 1) by omega) (show (nd + 1) ≤ (6999 : Int) by omega)
    have hF54 := Fr_g (z := (nd + 1)) (i := 31) hF50 (by decide)
    refine jx_ld (pc_q := 126) (l_q := L1) (st_q := [.int (i32 (nd))]) rfl (jl_iload gL1_6) ?_
    refine jx_rt (v := some (.int (i32 (nd)))) rfl rfl rfl rfl rfl rfl ?_
    exact ⟨_, _, (nd + 1), sy, -1, rfl, rfl, hW53, hF54, hP52, rfl, (q51), (congrFun (((congrFun eA48 16).trans (uA_ne (by decide))).trans (((congrFun eA43 16).trans (uA_ne (by decide))).trans (((congrFun eA38 16).trans (uA_ne (by decide))).trans (((congrFun eA33 16).trans (uA_ne (by decide))).trans (((congrFun eA28 16).trans (uA_ne (by decide))).trans (((congrFun eA23 16).trans (uA_ne (by decide))).trans (((congrFun eA18 16).trans (uA_ne (by decide))).trans ((congrFun eA13 16).trans (uA_ne (by decide)))))))))) _).trans (q11), by omega, by omega, ⟨(show A48 15 (nd).toNat = kind from (congrFun (((congrFun eA48 15).trans (uA_ne (by decide))).trans (((congrFun eA43 15).trans (uA_ne (by decide))).trans (((congrFun eA38 15).trans (uA_ne (by decide))).trans (((congrFun eA33 15).trans (uA_ne (by decide))).trans (((congrFun eA28 15).trans (uA_ne (by decide))).trans (((congrFun eA23 15).trans (uA_ne (by decide))).trans (((congrFun eA18 15).trans (uA_ne (by decide))).trans (((congrFun eA13 15).trans (uA_ne (by decide))).trans ((congrFun eA8 15).trans (uA_ne (by decide))))))))))) _).trans (q5)), (show A48 17 (nd).toNat = a from (congrFun (((congrFun eA48 17).trans (uA_ne (by decide))).trans (((congrFun eA43 17).trans (uA_ne (by decide))).trans (((congrFun eA38 17).trans (uA_ne (by decide))).trans (((congrFun eA33 17).trans (uA_ne (by decide))).trans (((congrFun eA28 17).trans (uA_ne (by decide))).trans (((congrFun eA23 17).trans (uA_ne (by decide))).trans ((congrFun eA18 17).trans (uA_ne (by decide))))))))) _).trans (q16)), (show A48 18 (nd).toNat = b from (congrFun (((congrFun eA48 18).trans (uA_ne (by decide))).trans (((congrFun eA43 18).trans (uA_ne (by decide))).trans (((congrFun eA38 18).trans (uA_ne (by decide))).trans (((congrFun eA33 18).trans (uA_ne (by decide))).trans (((congrFun eA28 18).trans (uA_ne (by decide))).trans ((congrFun eA23 18).trans (uA_ne (by decide)))))))) _).trans (q21)), (show A48 19 (nd).toNat = c from (congrFun (((congrFun eA48 19).trans (uA_ne (by decide))).trans (((congrFun eA43 19).trans (uA_ne (by decide))).trans (((congrFun eA38 19).trans (uA_ne (by decide))).trans (((congrFun eA33 19).trans (uA_ne (by decide))).trans ((congrFun eA28 19).trans (uA_ne (by decide))))))) _).trans (q26)), (show A48 20 (nd).toNat = e from (congrFun (((congrFun eA48 20).trans (uA_ne (by decide))).trans (((congrFun eA43 20).trans (uA_ne (by decide))).trans (((congrFun eA38 20).trans (uA_ne (by decide))).trans ((congrFun eA33 20).trans (uA_ne (by decide)))))) _).trans (q31)), (show A48 21 (nd).toNat = 0 from (congrFun (((congrFun eA48 21).trans (uA_ne (by decide))).trans (((congrFun eA43 21).trans (uA_ne (by decide))).trans ((congrFun eA38 21).trans (uA_ne (by decide))))) _).trans (q36)), (show A48 22 (nd).toNat = 0 from (congrFun (((congrFun eA48 22).trans (uA_ne (by decide))).trans ((congrFun eA43 22).trans (uA_ne (by decide)))) _).trans (q41))⟩, by first | exact Or.inl (⟨by omega, by omega⟩) | exact Or.inr ((by omega))⟩
  · have _q := h7
    refine jx_ld (pc_q := 32) (l_q := L1) (st_q := [.ref 66, .int (i32 (nd)), .ref 83]) rfl (jl_aloadn gL1_0) ?_
    refine jr_get (pc_q := 35) (i := 4) (v := .ref 68) rfl rfl (by decide) rfl rfl ?_
    refine jx_ld (pc_q := 36) (l_q := L1) (st_q := [.ref 66, .ref 68, .int (i32 (nd)), .ref 83]) rfl (jl_aloadn gL1_0) ?_
    refine jr_get (pc_q := 39) (i := 9) (v := .int (i32 (ln))) rfl rfl (by decide) (rFv_eq (by decide) (show G 9 = ln from (e_ln))) rfl ?_
    have b55 : (0 : Int) ≤ A 1 (ln).toNat ∧ A 1 (ln).toNat ≤ 3000 := hW.2 1 _
    refine jr_ldv (pc_q := 40) (i := 1) (m := 3001) (z := ln) (y := A 1 (ln).toNat) rfl (by decide) rfl (by decide) (Int.le_trans (by decide : (0 : Int) ≤ 0) b_ln.1) (Int.lt_of_le_of_lt b_ln.2 (by decide : (3000 : Int) < ((3001 : Nat) : Int))) rfl (show A2 1 (ln).toNat = A 1 (ln).toNat from (congrFun ((congrFun eA2 1).trans (uA_ne (by decide))) _)) ?_
    refine jx_go (tg := 44) rfl rfl ?_
    refine jr_st (pc_q := 45) (i := 16) (m := 7000) (z := nd) (y := A 1 (ln).toNat) rfl (by decide) rfl (by decide) (by omega) (by omega) rfl ?_
    have hW57 : Wk G (uA A2 16 (nd).toNat (A 1 (ln).toNat)) := Wk_a hW3 (show (-1 : Int) ≤ A 1 (ln).toNat by omega) (show A 1 (ln).toNat ≤ (3000 : Int) by omega)
    have hF58 := Fr_a (z := A 1 (ln).toNat) (k := 16) (n := (nd).toNat) hF4 (by decide)
    obtain ⟨A56, eA56⟩ : ∃ q, q = uA A2 16 (nd).toNat (A 1 (ln).toNat) := ⟨_, rfl⟩
    rw [← eA56]
    rw [← eA56] at hW57 hF58
    have q59 : A56 16 (nd).toNat = A 1 (ln).toNat := by rw [eA56]; exact uA_eq
    have hP60 : Pf nd A A56 := eA56 ▸ Pf_a hP6 (z := nd) (by omega) (by omega)
    refine jx_ld (pc_q := 46) (l_q := L1) (st_q := [.ref 66]) rfl (jl_aloadn gL1_0) ?_
    refine jr_get (pc_q := 49) (i := 34) (v := .ref 84) rfl rfl (by decide) rfl rfl ?_
    refine jx_ld (pc_q := 51) (l_q := L1) (st_q := [.int (i32 (nd)), .ref 84]) rfl (jl_iload gL1_6) ?_
    refine jx_ld (pc_q := 52) (l_q := L1) (st_q := [.int (i32 (a)), .int (i32 (nd)), .ref 84]) rfl (jl_iloadn gL1_2) ?_
    refine jr_st (pc_q := 53) (i := 17) (m := 7000) (z := nd) (y := a) rfl (by decide) rfl (by decide) (by omega) (by omega) rfl ?_
    have hW62 : Wk G (uA A56 17 (nd).toNat (a)) := Wk_a hW57 (show (-2147483648 : Int) ≤ a by omega) (show a ≤ (2147483647 : Int) by omega)
    have hF63 := Fr_a (z := a) (k := 17) (n := (nd).toNat) hF58 (by decide)
    obtain ⟨A61, eA61⟩ : ∃ q, q = uA A56 17 (nd).toNat (a) := ⟨_, rfl⟩
    rw [← eA61]
    rw [← eA61] at hW62 hF63
    have q64 : A61 17 (nd).toNat = a := by rw [eA61]; exact uA_eq
    have hP65 : Pf nd A A61 := eA61 ▸ Pf_a hP60 (z := nd) (by omega) (by omega)
    refine jx_ld (pc_q := 54) (l_q := L1) (st_q := [.ref 66]) rfl (jl_aloadn gL1_0) ?_
    refine jr_get (pc_q := 57) (i := 35) (v := .ref 85) rfl rfl (by decide) rfl rfl ?_
    refine jx_ld (pc_q := 59) (l_q := L1) (st_q := [.int (i32 (nd)), .ref 85]) rfl (jl_iload gL1_6) ?_
    refine jx_ld (pc_q := 60) (l_q := L1) (st_q := [.int (i32 (b)), .int (i32 (nd)), .ref 85]) rfl (jl_iloadn gL1_3) ?_
    refine jr_st (pc_q := 61) (i := 18) (m := 7000) (z := nd) (y := b) rfl (by decide) rfl (by decide) (by omega) (by omega) rfl ?_
    have hW67 : Wk G (uA A61 18 (nd).toNat (b)) := Wk_a hW62 (show (-2147483648 : Int) ≤ b by omega) (show b ≤ (2147483647 : Int) by omega)
    have hF68 := Fr_a (z := b) (k := 18) (n := (nd).toNat) hF63 (by decide)
    obtain ⟨A66, eA66⟩ : ∃ q, q = uA A61 18 (nd).toNat (b) := ⟨_, rfl⟩
    rw [← eA66]
    rw [← eA66] at hW67 hF68
    have q69 : A66 18 (nd).toNat = b := by rw [eA66]; exact uA_eq
    have hP70 : Pf nd A A66 := eA66 ▸ Pf_a hP65 (z := nd) (by omega) (by omega)
    refine jx_ld (pc_q := 62) (l_q := L1) (st_q := [.ref 66]) rfl (jl_aloadn gL1_0) ?_
    refine jr_get (pc_q := 65) (i := 36) (v := .ref 86) rfl rfl (by decide) rfl rfl ?_
    refine jx_ld (pc_q := 67) (l_q := L1) (st_q := [.int (i32 (nd)), .ref 86]) rfl (jl_iload gL1_6) ?_
    refine jx_ld (pc_q := 69) (l_q := L1) (st_q := [.int (i32 (c)), .int (i32 (nd)), .ref 86]) rfl (jl_iload gL1_4) ?_
    refine jr_st (pc_q := 70) (i := 19) (m := 7000) (z := nd) (y := c) rfl (by decide) rfl (by decide) (by omega) (by omega) rfl ?_
    have hW72 : Wk G (uA A66 19 (nd).toNat (c)) := Wk_a hW67 (show (-2147483648 : Int) ≤ c by omega) (show c ≤ (2147483647 : Int) by omega)
    have hF73 := Fr_a (z := c) (k := 19) (n := (nd).toNat) hF68 (by decide)
    obtain ⟨A71, eA71⟩ : ∃ q, q = uA A66 19 (nd).toNat (c) := ⟨_, rfl⟩
    rw [← eA71]
    rw [← eA71] at hW72 hF73
    have q74 : A71 19 (nd).toNat = c := by rw [eA71]; exact uA_eq
    have hP75 : Pf nd A A71 := eA71 ▸ Pf_a hP70 (z := nd) (by omega) (by omega)
    refine jx_ld (pc_q := 71) (l_q := L1) (st_q := [.ref 66]) rfl (jl_aloadn gL1_0) ?_
    refine jr_get (pc_q := 74) (i := 37) (v := .ref 87) rfl rfl (by decide) rfl rfl ?_
    refine jx_ld (pc_q := 76) (l_q := L1) (st_q := [.int (i32 (nd)), .ref 87]) rfl (jl_iload gL1_6) ?_
    refine jx_ld (pc_q := 78) (l_q := L1) (st_q := [.int (i32 (e)), .int (i32 (nd)), .ref 87]) rfl (jl_iload gL1_5) ?_
    refine jr_st (pc_q := 79) (i := 20) (m := 7000) (z := nd) (y := e) rfl (by decide) rfl (by decide) (by omega) (by omega) rfl ?_
    have hW77 : Wk G (uA A71 20 (nd).toNat (e)) := Wk_a hW72 (show (-2147483648 : Int) ≤ e by omega) (show e ≤ (2147483647 : Int) by omega)
    have hF78 := Fr_a (z := e) (k := 20) (n := (nd).toNat) hF73 (by decide)
    obtain ⟨A76, eA76⟩ : ∃ q, q = uA A71 20 (nd).toNat (e) := ⟨_, rfl⟩
    rw [← eA76]
    rw [← eA76] at hW77 hF78
    have q79 : A76 20 (nd).toNat = e := by rw [eA76]; exact uA_eq
    have hP80 : Pf nd A A76 := eA76 ▸ Pf_a hP75 (z := nd) (by omega) (by omega)
    refine jx_ld (pc_q := 80) (l_q := L1) (st_q := [.ref 66]) rfl (jl_aloadn gL1_0) ?_
    refine jr_get (pc_q := 83) (i := 38) (v := .ref 88) rfl rfl (by decide) rfl rfl ?_
    refine jx_ld (pc_q := 85) (l_q := L1) (st_q := [.int (i32 (nd)), .ref 88]) rfl (jl_iload gL1_6) ?_
    refine jx_ar (pc_q := 86) (st_q := [.int (i32 (0)), .int (i32 (nd)), .ref 88]) rfl rfl rfl rfl ?_
    refine jr_st (pc_q := 87) (i := 21) (m := 7000) (z := nd) (y := 0) rfl (by decide) rfl (by decide) (by omega) (by omega) rfl ?_
    have hW82 : Wk G (uA A76 21 (nd).toNat (0)) := Wk_a hW77 (show (-2147483648 : Int) ≤ 0 by omega) (show 0 ≤ (2147483647 : Int) by omega)
    have hF83 := Fr_a (z := 0) (k := 21) (n := (nd).toNat) hF78 (by decide)
    obtain ⟨A81, eA81⟩ : ∃ q, q = uA A76 21 (nd).toNat (0) := ⟨_, rfl⟩
    rw [← eA81]
    rw [← eA81] at hW82 hF83
    have q84 : A81 21 (nd).toNat = 0 := by rw [eA81]; exact uA_eq
    have hP85 : Pf nd A A81 := eA81 ▸ Pf_a hP80 (z := nd) (by omega) (by omega)
    refine jx_ld (pc_q := 88) (l_q := L1) (st_q := [.ref 66]) rfl (jl_aloadn gL1_0) ?_
    refine jr_get (pc_q := 91) (i := 39) (v := .ref 89) rfl rfl (by decide) rfl rfl ?_
    refine jx_ld (pc_q := 93) (l_q := L1) (st_q := [.int (i32 (nd)), .ref 89]) rfl (jl_iload gL1_6) ?_
    refine jx_ar (pc_q := 94) (st_q := [.int (i32 (0)), .int (i32 (nd)), .ref 89]) rfl rfl rfl rfl ?_
    refine jr_st (pc_q := 95) (i := 22) (m := 7000) (z := nd) (y := 0) rfl (by decide) rfl (by decide) (by omega) (by omega) rfl ?_
    have hW87 : Wk G (uA A81 22 (nd).toNat (0)) := Wk_a hW82 (show (-2147483648 : Int) ≤ 0 by omega) (show 0 ≤ (2147483647 : Int) by omega)
    have hF88 := Fr_a (z := 0) (k := 22) (n := (nd).toNat) hF83 (by decide)
    obtain ⟨A86, eA86⟩ : ∃ q, q = uA A81 22 (nd).toNat (0) := ⟨_, rfl⟩
    rw [← eA86]
    rw [← eA86] at hW87 hF88
    have q89 : A86 22 (nd).toNat = 0 := by rw [eA86]; exact uA_eq
    have hP90 : Pf nd A A86 := eA86 ▸ Pf_a hP85 (z := nd) (by omega) (by omega)
    refine jx_ld (pc_q := 96) (l_q := L1) (st_q := [.ref 66]) rfl (jl_aloadn gL1_0) ?_
    refine jr_get (pc_q := 99) (i := 41) (v := .ref 91) rfl rfl (by decide) rfl rfl ?_
    refine jx_ld (pc_q := 101) (l_q := L1) (st_q := [.int (i32 (nd)), .ref 91]) rfl (jl_iload gL1_6) ?_
    refine jx_ar (pc_q := 102) (st_q := [.int (i32 (0)), .int (i32 (nd)), .ref 91]) rfl rfl rfl rfl ?_
    refine jr_st (pc_q := 103) (i := 24) (m := 7000) (z := nd) (y := 0) rfl (by decide) rfl (by decide) (by omega) (by omega) rfl ?_
    have hW92 : Wk G (uA A86 24 (nd).toNat (0)) := Wk_a hW87 (show (-2147483648 : Int) ≤ 0 by omega) (show 0 ≤ (2147483647 : Int) by omega)
    have hF93 := Fr_a (z := 0) (k := 24) (n := (nd).toNat) hF88 (by decide)
    obtain ⟨A91, eA91⟩ : ∃ q, q = uA A86 24 (nd).toNat (0) := ⟨_, rfl⟩
    rw [← eA91]
    rw [← eA91] at hW92 hF93
    have q94 : A91 24 (nd).toNat = 0 := by rw [eA91]; exact uA_eq
    have hP95 : Pf nd A A91 := eA91 ▸ Pf_a hP90 (z := nd) (by omega) (by omega)
    refine jx_ld (pc_q := 104) (l_q := L1) (st_q := [.ref 66]) rfl (jl_aloadn gL1_0) ?_
    refine jr_get (pc_q := 107) (i := 45) (v := .ref 95) rfl rfl (by decide) rfl rfl ?_
    refine jx_ld (pc_q := 109) (l_q := L1) (st_q := [.int (i32 (nd)), .ref 95]) rfl (jl_iload gL1_6) ?_
    refine jx_ld (pc_q := 110) (l_q := L1) (st_q := [.ref 66, .int (i32 (nd)), .ref 95]) rfl (jl_aloadn gL1_0) ?_
    refine jr_get (pc_q := 113) (i := 19) (v := .int (i32 (sy))) rfl rfl (by decide) (rFv_eq (by decide) (show G 19 = sy from (e_sy))) rfl ?_
    refine jr_st (pc_q := 114) (i := 28) (m := 7000) (z := nd) (y := sy) rfl (by decide) rfl (by decide) (by omega) (by omega) rfl ?_
    have hW97 : Wk G (uA A91 28 (nd).toNat (sy)) := Wk_a hW92 (show (-2147483648 : Int) ≤ sy by omega) (show sy ≤ (2147483647 : Int) by omega)
    have hF98 := Fr_a (z := sy) (k := 28) (n := (nd).toNat) hF93 (by decide)
    obtain ⟨A96, eA96⟩ : ∃ q, q = uA A91 28 (nd).toNat (sy) := ⟨_, rfl⟩
    rw [← eA96]
    rw [← eA96] at hW97 hF98
    have q99 : A96 28 (nd).toNat = sy := by rw [eA96]; exact uA_eq
    have hP100 : Pf nd A A96 := eA96 ▸ Pf_a hP95 (z := nd) (by omega) (by omega)
    refine jx_ld (pc_q := 115) (l_q := L1) (st_q := [.ref 66]) rfl (jl_aloadn gL1_0) ?_
    refine jx_ar (pc_q := 116) (st_q := [.ref 66, .ref 66]) rfl rfl rfl rfl ?_
    refine jr_get (pc_q := 119) (i := 31) (v := .int (i32 (nd))) rfl rfl (by decide) (rFv_eq (by decide) (show G 31 = nd from (e_nd))) rfl ?_
    refine jx_ar (pc_q := 120) (st_q := [.int (i32 (1)), .int (i32 (nd)), .ref 66]) rfl rfl rfl rfl ?_
    refine jx_add (pc_q := 121) rfl rfl ?_
    refine jr_put (pc_q := 124) (i := 31) (z := (nd + 1)) rfl rfl (by decide) rfl rfl rfl rfl rfl rfl ?_
    have hW101 : Wk (uG G 31 ((nd + 1))) A96 := Wk_g hW97 (show (0 : Int) ≤ (nd + 1) by omega) (show (nd + 1) ≤ (6999 : Int) by omega)
    have hF102 := Fr_g (z := (nd + 1)) (i := 31) hF98 (by decide)
    refine jx_ld (pc_q := 126) (l_q := L1) (st_q := [.int (i32 (nd))]) rfl (jl_iload gL1_6) ?_
    refine jx_rt (v := some (.int (i32 (nd)))) rfl rfl rfl rfl rfl rfl ?_
    exact ⟨_, _, (nd + 1), sy, A 1 (ln).toNat, rfl, rfl, hW101, hF102, hP100, rfl, (q99), (congrFun (((congrFun eA96 16).trans (uA_ne (by decide))).trans (((congrFun eA91 16).trans (uA_ne (by decide))).trans (((congrFun eA86 16).trans (uA_ne (by decide))).trans (((congrFun eA81 16).trans (uA_ne (by decide))).trans (((congrFun eA76 16).trans (uA_ne (by decide))).trans (((congrFun eA71 16).trans (uA_ne (by decide))).trans (((congrFun eA66 16).trans (uA_ne (by decide))).trans ((congrFun eA61 16).trans (uA_ne (by decide)))))))))) _).trans (q59), by omega, by omega, ⟨(show A96 15 (nd).toNat = kind from (congrFun (((congrFun eA96 15).trans (uA_ne (by decide))).trans (((congrFun eA91 15).trans (uA_ne (by decide))).trans (((congrFun eA86 15).trans (uA_ne (by decide))).trans (((congrFun eA81 15).trans (uA_ne (by decide))).trans (((congrFun eA76 15).trans (uA_ne (by decide))).trans (((congrFun eA71 15).trans (uA_ne (by decide))).trans (((congrFun eA66 15).trans (uA_ne (by decide))).trans (((congrFun eA61 15).trans (uA_ne (by decide))).trans ((congrFun eA56 15).trans (uA_ne (by decide))))))))))) _).trans (q5)), (show A96 17 (nd).toNat = a from (congrFun (((congrFun eA96 17).trans (uA_ne (by decide))).trans (((congrFun eA91 17).trans (uA_ne (by decide))).trans (((congrFun eA86 17).trans (uA_ne (by decide))).trans (((congrFun eA81 17).trans (uA_ne (by decide))).trans (((congrFun eA76 17).trans (uA_ne (by decide))).trans (((congrFun eA71 17).trans (uA_ne (by decide))).trans ((congrFun eA66 17).trans (uA_ne (by decide))))))))) _).trans (q64)), (show A96 18 (nd).toNat = b from (congrFun (((congrFun eA96 18).trans (uA_ne (by decide))).trans (((congrFun eA91 18).trans (uA_ne (by decide))).trans (((congrFun eA86 18).trans (uA_ne (by decide))).trans (((congrFun eA81 18).trans (uA_ne (by decide))).trans (((congrFun eA76 18).trans (uA_ne (by decide))).trans ((congrFun eA71 18).trans (uA_ne (by decide)))))))) _).trans (q69)), (show A96 19 (nd).toNat = c from (congrFun (((congrFun eA96 19).trans (uA_ne (by decide))).trans (((congrFun eA91 19).trans (uA_ne (by decide))).trans (((congrFun eA86 19).trans (uA_ne (by decide))).trans (((congrFun eA81 19).trans (uA_ne (by decide))).trans ((congrFun eA76 19).trans (uA_ne (by decide))))))) _).trans (q74)), (show A96 20 (nd).toNat = e from (congrFun (((congrFun eA96 20).trans (uA_ne (by decide))).trans (((congrFun eA91 20).trans (uA_ne (by decide))).trans (((congrFun eA86 20).trans (uA_ne (by decide))).trans ((congrFun eA81 20).trans (uA_ne (by decide)))))) _).trans (q79)), (show A96 21 (nd).toNat = 0 from (congrFun (((congrFun eA96 21).trans (uA_ne (by decide))).trans (((congrFun eA91 21).trans (uA_ne (by decide))).trans ((congrFun eA86 21).trans (uA_ne (by decide))))) _).trans (q84)), (show A96 22 (nd).toNat = 0 from (congrFun (((congrFun eA96 22).trans (uA_ne (by decide))).trans ((congrFun eA91 22).trans (uA_ne (by decide)))) _).trans (q89))⟩, by first | exact Or.inl (⟨by omega, by omega⟩) | exact Or.inr ((by omega))⟩
theorem c_node_e {X : jX} {dd : Nat} {c0 c1 : jC} {G : Nat → Int} {A : Nat → Nat → Int} {T : jH} {kind a b c e : Int} {nd ec sy fk : Int} (hd : 1 ≤ dd) (hW : Wk G A) (e_nd : G 31 = nd) (e_ec : ecn A (G 31) = ec) (e_sy : G 19 = sy) (e_fk : G 16 = fk) (h_kind : (-2147483648 : Int) ≤ kind ∧ kind ≤ 2147483647) (h_a : (-2147483648 : Int) ≤ a ∧ a ≤ 2147483647) (h_b : (-2147483648 : Int) ≤ b ∧ b ≤ 2147483647) (h_c : (-2147483648 : Int) ≤ c ∧ c ≤ 2147483647) (h_e : (-2147483648 : Int) ≤ e ∧ e ≤ 2147483647) (p_0 : nd ≤ 6998) (p_1 : 0 ≤ kind ∧ kind ≤ 34) (p_2 : kind = 3) (p_3 : b + 1 = nd ∨ 1 ≤ fk) : wk X dd 278 [.ref 66, .int (i32 kind), .int (i32 a), .int (i32 b), .int (i32 c), .int (i32 e)] (rV c0 c1 G A T) (fun o V_q => ∃ (G_q : Nat → Int) (A_q : Nat → Nat → Int) (nd2 : Int) (ec2 : Int), V_q = rV c0 c1 G_q A_q T ∧ o = .inl (some (.int (i32 (nd)))) ∧ Wk G_q A_q ∧ Fr [31] [15, 16, 17, 18, 19, 20, 21, 22, 24, 28] G A G_q A_q ∧ Pf nd A A_q ∧ G_q 31 = nd2 ∧ ecn A_q (G_q 31) = ec2 ∧ (nd2 = nd + 1) ∧ (ec2 = ec + 1) ∧ (ND A_q (nd) (kind) (a) (b) (c) (e) (0) (0)) ∧ (fk = 0 → NdM A_q (nd) (nd + 1) (sy)) ∧ True) := by
  have hn := hW.1 31
  rw [e_nd] at hn
  have hn0 : (0 : Int) ≤ nd := hn.1
  refine wk_mono (fun o V_q h => ?_) (c_node_v hd hW e_nd e_sy rfl rfl h_kind h_a h_b h_c h_e p_0 p_1)
  obtain ⟨G_q, A_q, nd2, mk2, nl2, h1, h2, h3, h4, h5, h6, h6b, h6c, h7, h7b, h8, hal⟩ := h
  have z := ecn_n hn0 h5 h8.1
  have e_ec' : ecn A nd = ec := by rw [← e_nd]; exact e_ec
  rw [e_ec', if_pos (by omega)] at z
  have hm : fk = 0 → NdM A_q nd (nd + 1) sy := fun hf j a b => by
    have ej : j = nd := by omega
    rw [ej]
    rw [h6b, h6c, h8.1]
    rw [h8.2.2.1]
    exact ⟨by omega, fun q => by omega, fun q => by rcases hal with ⟨hl1, hl2⟩ | hl1 <;> omega, fun q => by omega⟩
  exact ⟨G_q, A_q, nd2, _, h1, h2, h3, h4, h5, h6, rfl, h7, by rw [h6, h7, z], h8, hm, trivial⟩
theorem c_node_o {X : jX} {dd : Nat} {c0 c1 : jC} {G : Nat → Int} {A : Nat → Nat → Int} {T : jH} {kind a b c e : Int} {nd ec sy : Int} (hd : 1 ≤ dd) (hW : Wk G A) (e_nd : G 31 = nd) (e_ec : ecn A (G 31) = ec) (e_sy : G 19 = sy) (h_kind : (-2147483648 : Int) ≤ kind ∧ kind ≤ 2147483647) (h_a : (-2147483648 : Int) ≤ a ∧ a ≤ 2147483647) (h_b : (-2147483648 : Int) ≤ b ∧ b ≤ 2147483647) (h_c : (-2147483648 : Int) ≤ c ∧ c ≤ 2147483647) (h_e : (-2147483648 : Int) ≤ e ∧ e ≤ 2147483647) (p_0 : nd ≤ 6998) (p_1 : 0 ≤ kind ∧ kind ≤ 34) (p_2 : kind ≤ 2 ∨ (4 ≤ kind ∧ kind ≤ 22) ∨ (26 ≤ kind ∧ kind ≤ 27) ∨ (30 ≤ kind ∧ kind ≤ 32) ∨ 34 ≤ kind) : wk X dd 278 [.ref 66, .int (i32 kind), .int (i32 a), .int (i32 b), .int (i32 c), .int (i32 e)] (rV c0 c1 G A T) (fun o V_q => ∃ (G_q : Nat → Int) (A_q : Nat → Nat → Int) (nd2 : Int) (ec2 : Int), V_q = rV c0 c1 G_q A_q T ∧ o = .inl (some (.int (i32 (nd)))) ∧ Wk G_q A_q ∧ Fr [31] [15, 16, 17, 18, 19, 20, 21, 22, 24, 28] G A G_q A_q ∧ Pf nd A A_q ∧ G_q 31 = nd2 ∧ ecn A_q (G_q 31) = ec2 ∧ (nd2 = nd + 1) ∧ (ec2 = ec) ∧ (ND A_q (nd) (kind) (a) (b) (c) (e) (0) (0)) ∧ (NdM A_q (nd) (nd + 1) (sy)) ∧ True) := by
  have hn := hW.1 31
  rw [e_nd] at hn
  have hn0 : (0 : Int) ≤ nd := hn.1
  refine wk_mono (fun o V_q h => ?_) (c_node_v hd hW e_nd e_sy rfl rfl h_kind h_a h_b h_c h_e p_0 p_1)
  obtain ⟨G_q, A_q, nd2, mk2, nl2, h1, h2, h3, h4, h5, h6, h6b, h6c, h7, h7b, h8, hal⟩ := h
  have z := ecn_n hn0 h5 h8.1
  have e_ec' : ecn A nd = ec := by rw [← e_nd]; exact e_ec
  rw [e_ec', if_neg (by omega)] at z
  have hm : NdM A_q nd (nd + 1) sy := fun j a b => by
    have ej : j = nd := by omega
    rw [ej]
    rw [h6b, h6c, h8.1]
    rw [h8.2.2.1]
    exact ⟨by omega, fun q => by omega, fun q => by rcases hal with ⟨hl1, hl2⟩ | hl1 <;> omega, fun q => by omega⟩
  exact ⟨G_q, A_q, nd2, _, h1, h2, h3, h4, h5, h6, rfl, h7, by rw [h6, h7, z]; omega, h8, hm, trivial⟩
theorem c_node_l {X : jX} {dd : Nat} {c0 c1 : jC} {G : Nat → Int} {A : Nat → Nat → Int} {T : jH} {kind a b c e : Int} {nd ec sy ln li : Int} (hd : 1 ≤ dd) (hW : Wk G A) (e_nd : G 31 = nd) (e_ec : ecn A (G 31) = ec) (e_sy : G 19 = sy) (e_ln : G 9 = ln) (e_li : G 3 = li) (h_kind : (-2147483648 : Int) ≤ kind ∧ kind ≤ 2147483647) (h_a : (-2147483648 : Int) ≤ a ∧ a ≤ 2147483647) (h_b : (-2147483648 : Int) ≤ b ∧ b ≤ 2147483647) (h_c : (-2147483648 : Int) ≤ c ∧ c ≤ 2147483647) (h_e : (-2147483648 : Int) ≤ e ∧ e ≤ 2147483647) (p_0 : nd ≤ 6998) (p_1 : 0 ≤ kind ∧ kind ≤ 34) (p_2 : (23 ≤ kind ∧ kind ≤ 25) ∨ kind = 33) (p_3 : ln < li) : wk X dd 278 [.ref 66, .int (i32 kind), .int (i32 a), .int (i32 b), .int (i32 c), .int (i32 e)] (rV c0 c1 G A T) (fun o V_q => ∃ (G_q : Nat → Int) (A_q : Nat → Nat → Int) (nd2 : Int) (ec2 : Int), V_q = rV c0 c1 G_q A_q T ∧ o = .inl (some (.int (i32 (nd)))) ∧ Wk G_q A_q ∧ Fr [31] [15, 16, 17, 18, 19, 20, 21, 22, 24, 28] G A G_q A_q ∧ Pf nd A A_q ∧ G_q 31 = nd2 ∧ ecn A_q (G_q 31) = ec2 ∧ (nd2 = nd + 1) ∧ (ec2 = ec) ∧ (ND A_q (nd) (kind) (a) (b) (c) (e) (0) (0)) ∧ (NdM A_q (nd) (nd + 1) (sy)) ∧ True) := by
  have hn := hW.1 31
  rw [e_nd] at hn
  have hn0 : (0 : Int) ≤ nd := hn.1
  refine wk_mono (fun o V_q h => ?_) (c_node_v hd hW e_nd e_sy e_ln e_li h_kind h_a h_b h_c h_e p_0 p_1)
  obtain ⟨G_q, A_q, nd2, mk2, nl2, h1, h2, h3, h4, h5, h6, h6b, h6c, h7, h7b, h8, hal⟩ := h
  have z := ecn_n hn0 h5 h8.1
  have e_ec' : ecn A nd = ec := by rw [← e_nd]; exact e_ec
  rw [e_ec', if_neg (by omega)] at z
  have hm : NdM A_q nd (nd + 1) sy := fun j a b => by
    have ej : j = nd := by omega
    rw [ej]
    rw [h6b, h6c, h8.1]
    rw [h8.2.2.1]
    exact ⟨by omega, fun q => by omega, fun q => by rcases hal with ⟨hl1, hl2⟩ | hl1 <;> omega, fun q => by omega⟩
  exact ⟨G_q, A_q, nd2, _, h1, h2, h3, h4, h5, h6, rfl, h7, by rw [h6, h7, z]; omega, h8, hm, trivial⟩
theorem c_node_p {X : jX} {dd : Nat} {c0 c1 : jC} {G : Nat → Int} {A : Nat → Nat → Int} {T : jH} {kind a b c e : Int} {nd ec sy ln li : Int} (hd : 1 ≤ dd) (hW : Wk G A) (e_nd : G 31 = nd) (e_ec : ecn A (G 31) = ec) (e_sy : G 19 = sy) (e_ln : G 9 = ln) (e_li : G 3 = li) (h_kind : (-2147483648 : Int) ≤ kind ∧ kind ≤ 2147483647) (h_a : (-2147483648 : Int) ≤ a ∧ a ≤ 2147483647) (h_b : (-2147483648 : Int) ≤ b ∧ b ≤ 2147483647) (h_c : (-2147483648 : Int) ≤ c ∧ c ≤ 2147483647) (h_e : (-2147483648 : Int) ≤ e ∧ e ≤ 2147483647) (p_0 : nd ≤ 6998) (p_1 : 0 ≤ kind ∧ kind ≤ 34) (p_2 : kind = 28 ∨ kind = 29) (p_3 : ln < li) : wk X dd 278 [.ref 66, .int (i32 kind), .int (i32 a), .int (i32 b), .int (i32 c), .int (i32 e)] (rV c0 c1 G A T) (fun o V_q => ∃ (G_q : Nat → Int) (A_q : Nat → Nat → Int) (nd2 : Int) (ec2 : Int), V_q = rV c0 c1 G_q A_q T ∧ o = .inl (some (.int (i32 (nd)))) ∧ Wk G_q A_q ∧ Fr [31] [15, 16, 17, 18, 19, 20, 21, 22, 24, 28] G A G_q A_q ∧ Pf nd A A_q ∧ G_q 31 = nd2 ∧ ecn A_q (G_q 31) = ec2 ∧ (nd2 = nd + 1) ∧ (ec2 = ec) ∧ (ND A_q (nd) (kind) (a) (b) (c) (e) (0) (0)) ∧ (NdO A_q (nd) (nd + 1) (sy) (nd)) ∧ True) := by
  have hn := hW.1 31
  rw [e_nd] at hn
  have hn0 : (0 : Int) ≤ nd := hn.1
  refine wk_mono (fun o V_q h => ?_) (c_node_v hd hW e_nd e_sy e_ln e_li h_kind h_a h_b h_c h_e p_0 p_1)
  obtain ⟨G_q, A_q, nd2, mk2, nl2, h1, h2, h3, h4, h5, h6, h6b, h6c, h7, h7b, h8, hal⟩ := h
  have z := ecn_n hn0 h5 h8.1
  have e_ec' : ecn A nd = ec := by rw [← e_nd]; exact e_ec
  rw [e_ec', if_neg (by omega)] at z
  have hm : NdO A_q nd (nd + 1) sy nd := fun j a b => by
    have ej : j = nd := by omega
    rw [ej]
    rw [h6b, h6c, h8.1]
    rw [h8.2.2.1]
    exact ⟨by omega, fun q => absurd rfl q, fun q => by rcases hal with ⟨hl1, hl2⟩ | hl1 <;> omega, fun q => absurd rfl q⟩
  exact ⟨G_q, A_q, nd2, _, h1, h2, h3, h4, h5, h6, rfl, h7, by rw [h6, h7, z]; omega, h8, hm, trivial⟩
