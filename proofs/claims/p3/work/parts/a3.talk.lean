/-- while one runs, a process that becomes ready or is woken changes only memory and rows -/
theorem mk_o {A A_q : Nat → Nat → Int} {p d : Int} (h : mkR A A_q p d) (hr : A 66 p.toNat ≠ -1) {k : Nat} (hk : k ≠ 71 ∧ k ≠ 72) : A_q k = A k := by
  rcases h with h | h
  · rw [h.2]
    unfold adM
    rw [uA_ne hk.2, uA_ne hk.1]
  · exact absurd h.1 hr
theorem wk_o {A A_q : Nat → Nat → Int} {p d : Int} (h : wkR A A_q p d) (hr : A 66 p.toNat ≠ -1) {k : Nat} (hk : k ≠ 59 ∧ k ≠ 71 ∧ k ≠ 72) : A_q k = A k := by
  rcases h with h | h
  · rw [h.2]
    exact stM_ne hk.1
  · exact (mk_o h.2 (by rw [stM_ne (by decide)]; exact hr) hk.2).trans (stM_ne hk.1)
/-- OUT -/
def ouR (A A_q : Nat → Nat → Int) (om p a v : Int) : Prop :=
  ((a = 12) ∧ (A_q = A)) ∨
  ((a = 12) ∧ (A_q = uA A 79 om.toNat v)) ∨
  (∃ is b r3 b_q r2 : Int, ∃ A1 A2 : Nat → Nat → Int, (a < 0 ∨ 14 ≤ a) ∧ (is = ldM A p a) ∧ (is ≠ -1) ∧ (b = is / 2) ∧ (r3 = ldM A p (b - 3)) ∧ (r3 = 0) ∧ (b_q = is / 2) ∧ (r2 = ldM A p (b_q - 2)) ∧ (A1 = stM A p r2 v) ∧ (A2 = stM A1 p a (-1)) ∧ (mkR A2 A_q p is)) ∨
  (∃ is rw rn : Int, ∃ A1 A2 A3 A4 A5 A6 A7 : Nat → Nat → Int, (0 ≤ a ∧ a ≤ 11) ∧ (is = ldM A p a) ∧ (A 64 p.toNat = rw) ∧ (A 66 p.toNat = rn) ∧ (A1 = uA A 80 a.toNat 1) ∧ (A2 = uA A1 81 a.toNat v) ∧ (A3 = uA A2 82 a.toNat 0) ∧ (A4 = uA A3 85 a.toNat 1) ∧ (A5 = stM A4 p (rw - 2) v) ∧ (A6 = stM A5 p (rw - 3) 0) ∧ (A7 = stM A6 p a rn) ∧ (A_q = waitM A7 p)) ∨
  (∃ is rw rn : Int, ∃ A1 A2 A3 : Nat → Nat → Int, (a < 0 ∨ 13 ≤ a) ∧ (is = ldM A p a) ∧ (is = -1 ∨ a = 13) ∧ (A 64 p.toNat = rw) ∧ (A 66 p.toNat = rn) ∧ (A1 = stM A p (rw - 2) v) ∧ (A2 = stM A1 p (rw - 3) 0) ∧ (A3 = stM A2 p a rn) ∧ (A_q = waitM A3 p)) ∨
  (∃ is b r3 rw rn : Int, ∃ A1 A2 A3 A4 : Nat → Nat → Int, (a < 0 ∨ 14 ≤ a) ∧ (is = ldM A p a) ∧ (is ≠ -1) ∧ (b = is / 2) ∧ (r3 = ldM A p (b - 3)) ∧ (r3 ≠ 0) ∧ (A 64 p.toNat = rw) ∧ (A 66 p.toNat = rn) ∧ (A1 = stM A p (rw - 2) v) ∧ (A2 = stM A1 p (rw - 3) 0) ∧ (A3 = stM A2 p a rn) ∧ (wkR A3 A4 p is) ∧ (A_q = waitM A4 p))
theorem ouR_scr1 {A A_q : Nat → Nat → Int} {om p a v : Int}  (h : a = 12) (e : A_q = A) : ouR A A_q om p a v := .inl ⟨h, e⟩
theorem ouR_scr2 {A A_q : Nat → Nat → Int} {om p a v : Int}  (h : a = 12) (e : A_q = uA A 79 om.toNat v) : ouR A A_q om p a v := .inr (.inl ⟨h, e⟩)
theorem ouR_giv {A A_q : Nat → Nat → Int} {om p a v : Int} (is b r3 b_q r2 : Int) (A1 A2 : Nat → Nat → Int) (h : a < 0 ∨ 14 ≤ a) (l : is = ldM A p a) (n : is ≠ -1) (hb : b = is / 2) (l3 : r3 = ldM A p (b - 3)) (z : r3 = 0) (hb' : b_q = is / 2) (l2 : r2 = ldM A p (b_q - 2)) (s1 : A1 = stM A p r2 v) (s2 : A2 = stM A1 p a (-1)) (m : mkR A2 A_q p is) : ouR A A_q om p a v := .inr (.inr (.inl ⟨is, b, r3, b_q, r2, A1, A2, h, l, n, hb, l3, z, hb', l2, s1, s2, m⟩))
theorem ouR_lnk {A A_q : Nat → Nat → Int} {om p a v : Int} (is rw rn : Int) (A1 A2 A3 A4 A5 A6 A7 : Nat → Nat → Int) (h : 0 ≤ a ∧ a ≤ 11) (l : is = ldM A p a) (hw : A 64 p.toNat = rw) (hr : A 66 p.toNat = rn) (e1 : A1 = uA A 80 a.toNat 1) (e2 : A2 = uA A1 81 a.toNat v) (e3 : A3 = uA A2 82 a.toNat 0) (e4 : A4 = uA A3 85 a.toNat 1) (s1 : A5 = stM A4 p (rw - 2) v) (s2 : A6 = stM A5 p (rw - 3) 0) (s3 : A7 = stM A6 p a rn) (e : A_q = waitM A7 p) : ouR A A_q om p a v := .inr (.inr (.inr (.inl ⟨is, rw, rn, A1, A2, A3, A4, A5, A6, A7, h, l, hw, hr, e1, e2, e3, e4, s1, s2, s3, e⟩)))
theorem ouR_wai {A A_q : Nat → Nat → Int} {om p a v : Int} (is rw rn : Int) (A1 A2 A3 : Nat → Nat → Int) (h : a < 0 ∨ 13 ≤ a) (l : is = ldM A p a) (n : is = -1 ∨ a = 13) (hw : A 64 p.toNat = rw) (hr : A 66 p.toNat = rn) (s1 : A1 = stM A p (rw - 2) v) (s2 : A2 = stM A1 p (rw - 3) 0) (s3 : A3 = stM A2 p a rn) (e : A_q = waitM A3 p) : ouR A A_q om p a v := .inr (.inr (.inr (.inr (.inl ⟨is, rw, rn, A1, A2, A3, h, l, n, hw, hr, s1, s2, s3, e⟩))))
theorem ouR_wak {A A_q : Nat → Nat → Int} {om p a v : Int} (is b r3 rw rn : Int) (A1 A2 A3 A4 : Nat → Nat → Int) (h : a < 0 ∨ 14 ≤ a) (l : is = ldM A p a) (n : is ≠ -1) (hb : b = is / 2) (l3 : r3 = ldM A p (b - 3)) (z : r3 ≠ 0) (hw : A 64 p.toNat = rw) (hr : A 66 p.toNat = rn) (s1 : A1 = stM A p (rw - 2) v) (s2 : A2 = stM A1 p (rw - 3) 0) (s3 : A3 = stM A2 p a rn) (k : wkR A3 A4 p is) (e : A_q = waitM A4 p) : ouR A A_q om p a v := .inr (.inr (.inr (.inr (.inr (⟨is, b, r3, rw, rn, A1, A2, A3, A4, h, l, n, hb, l3, z, hw, hr, s1, s2, s3, k, e⟩)))))
/-- IN -/
def inR (A A_q : Nat → Nat → Int) (it im p a t : Int) : Prop :=
  (∃ v : Int, (a = 13) ∧ (it < im) ∧ (v = A 78 it.toNat) ∧ (A_q = stM A p t v)) ∨
  (∃ v : Int, ∃ A1 A2 : Nat → Nat → Int, (0 ≤ a ∧ a ≤ 11) ∧ (A 83 a.toNat = 4) ∧ (v = A 81 a.toNat) ∧ (A1 = stM A p t v) ∧ (A2 = uA A1 83 a.toNat 0) ∧ (A_q = uA A2 84 a.toNat 1)) ∨
  (∃ is b r2 : Int, ∃ A1 A2 : Nat → Nat → Int, (a < 0 ∨ 14 ≤ a) ∧ (is = ldM A p a) ∧ (is ≠ -1) ∧ (b = is / 2) ∧ (r2 = ldM A p (b - 2)) ∧ (A1 = stM A p t r2) ∧ (A2 = stM A1 p a (-1)) ∧ (mkR A2 A_q p is)) ∨
  (∃ is rw rn : Int, ∃ A1 A2 A3 : Nat → Nat → Int, (is = ldM A p a) ∧ ((0 ≤ a ∧ a ≤ 13 ∧ ¬ hcP A it im a) ∨ ((a < 0 ∨ 14 ≤ a) ∧ is = -1)) ∧ (A 64 p.toNat = rw) ∧ (A 66 p.toNat = rn) ∧ (A1 = stM A p (rw - 2) t) ∧ (A2 = stM A1 p (rw - 3) 0) ∧ (A3 = stM A2 p a rn) ∧ (A_q = waitM A3 p))
theorem inR_key {A A_q : Nat → Nat → Int} {it im p a t : Int} (v : Int) (h : a = 13) (hc : it < im) (l : v = A 78 it.toNat) (e : A_q = stM A p t v) : inR A A_q it im p a t := .inl ⟨v, h, hc, l, e⟩
theorem inR_lnk {A A_q : Nat → Nat → Int} {it im p a t : Int} (v : Int) (A1 A2 : Nat → Nat → Int) (h : 0 ≤ a ∧ a ≤ 11) (hc : A 83 a.toNat = 4) (l : v = A 81 a.toNat) (s1 : A1 = stM A p t v) (e1 : A2 = uA A1 83 a.toNat 0) (e : A_q = uA A2 84 a.toNat 1) : inR A A_q it im p a t := .inr (.inl ⟨v, A1, A2, h, hc, l, s1, e1, e⟩)
theorem inR_tak {A A_q : Nat → Nat → Int} {it im p a t : Int} (is b r2 : Int) (A1 A2 : Nat → Nat → Int) (h : a < 0 ∨ 14 ≤ a) (l : is = ldM A p a) (n : is ≠ -1) (hb : b = is / 2) (l2 : r2 = ldM A p (b - 2)) (s1 : A1 = stM A p t r2) (s2 : A2 = stM A1 p a (-1)) (m : mkR A2 A_q p is) : inR A A_q it im p a t := .inr (.inr (.inl ⟨is, b, r2, A1, A2, h, l, n, hb, l2, s1, s2, m⟩))
theorem inR_wai {A A_q : Nat → Nat → Int} {it im p a t : Int} (is rw rn : Int) (A1 A2 A3 : Nat → Nat → Int) (l : is = ldM A p a) (h : (0 ≤ a ∧ a ≤ 13 ∧ ¬ hcP A it im a) ∨ ((a < 0 ∨ 14 ≤ a) ∧ is = -1)) (hw : A 64 p.toNat = rw) (hr : A 66 p.toNat = rn) (s1 : A1 = stM A p (rw - 2) t) (s2 : A2 = stM A1 p (rw - 3) 0) (s3 : A3 = stM A2 p a rn) (e : A_q = waitM A3 p) : inR A A_q it im p a t := .inr (.inr (.inr (⟨is, rw, rn, A1, A2, A3, l, h, hw, hr, s1, s2, s3, e⟩)))

set_option maxRecDepth 20000 in
set_option maxHeartbeats 4000000 in
theorem c_out {X : jX} {dd : Nat} {c0 c1 : jC} {G : Nat → Int} {A : Nat → Nat → Int} {T : jH} {p a v : Int} {m0 m1 rw rn om : Int} (hd : 6 ≤ dd) (hW : Wk G A) (e_m0 : A 72 ((2 * p)).toNat = m0) (e_m1 : A 72 (((2 * p) + 1)).toNat = m1) (e_rw : A 64 (p).toNat = rw) (e_rn : A 66 (p).toNat = rn) (e_om : G 113 = om) (h_p : (-2147483648 : Int) ≤ p ∧ p ≤ 2147483647) (h_a : (-2147483648 : Int) ≤ a ∧ a ≤ 2147483647) (h_v : (-2147483648 : Int) ≤ v ∧ v ≤ 2147483647) (p_0 : 0 ≤ p) (p_1 : p ≤ 5) (p_2 : 0 ≤ m0) (p_3 : m0 ≤ 1099) (p_4 : 0 ≤ m1) (p_5 : m1 ≤ 1099) (p_6 : -1000000 ≤ rw) (p_7 : rw ≤ 1000000) (p_8 : 0 ≤ rn ∨ rn ≤ -2) (p_9 : 0 ≤ om) (p_10 : om ≤ 2000000000) : wk X dd 391 [.ref 66, .int (i32 p), .int (i32 a), .int (i32 v)] (rV c0 c1 G A T) (fun o V_q => ∃ (G_q : Nat → Int) (A_q : Nat → Nat → Int) (om2 : Int), V_q = rV c0 c1 G_q A_q T ∧ o = .inl none ∧ Wk G_q A_q ∧ Fr [113] [59, 60, 61, 62, 63, 64, 65, 66, 70, 71, 72, 73, 79, 80, 81, 82, 85] G A G_q A_q ∧ G_q 113 = om2 ∧ (om ≤ om2) ∧ (om2 ≤ om + 1) ∧ (ouR A A_q (om) (p) (a) (v)) ∧ True) := by
  obtain ⟨d, rfl⟩ : ∃ d, dd = d + 1 := ⟨dd - 1, by omega⟩
  refine wk_of (e := jm391) rfl (Nat.le_of_ble_eq_true rfl) ?_
  show wj X d jm391 (0, [(0, .ref 66), (1, .int (i32 (p))), (2, .int (i32 (a))), (3, .int (i32 (v)))], [], rV c0 c1 G A T) _
  have hF0 : Fr [113] [59, 60, 61, 62, 63, 64, 65, 66, 70, 71, 72, 73, 79, 80, 81, 82, 85] G A G A := Fr_rf
  have b_m0 : (-2147483648 : Int) ≤ m0 ∧ m0 ≤ 2147483647 := e_m0 ▸ hW.2 72 _
  have b_m1 : (-2147483648 : Int) ≤ m1 ∧ m1 ≤ 2147483647 := e_m1 ▸ hW.2 72 _
  have b_rw : (-2147483648 : Int) ≤ rw ∧ rw ≤ 2147483647 := e_rw ▸ hW.2 64 _
  have b_rn : (-2147483648 : Int) ≤ rn ∧ rn ≤ 2147483647 := e_rn ▸ hW.2 66 _
  have b_om : (-2147483648 : Int) ≤ om ∧ om ≤ 2147483647 := e_om ▸ hW.1 113
  refine jx_ld (pc_q := 1) (l_q := [(0, .ref 66), (1, .int (i32 (p))), (2, .int (i32 (a))), (3, .int (i32 (v)))]) (st_q := [.int (i32 (a))]) rfl (jl_iloadn rfl) ?_
  refine jx_ar (pc_q := 3) (st_q := [.int (i32 (12)), .int (i32 (a))]) rfl rfl rfl rfl ?_
  refine jx_icmp_ne (pc_q := 6) (tg := 37) rfl rfl rfl (Int.le_trans (by decide : (-2147483648 : Int) ≤ -2147483648) h_a.1) (Int.le_trans h_a.2 (by decide : (2147483647 : Int) ≤ 2147483647)) (by decide) (by decide) (fun h1 => ?_) (fun h1 => ?_)
  · have _q := h1
    refine jx_ld (pc_q := 38) (l_q := [(0, .ref 66), (1, .int (i32 (p))), (2, .int (i32 (a))), (3, .int (i32 (v)))]) (st_q := [.ref 66]) rfl (jl_aloadn rfl) ?_
    refine jx_ld (pc_q := 39) (l_q := [(0, .ref 66), (1, .int (i32 (p))), (2, .int (i32 (a))), (3, .int (i32 (v)))]) (st_q := [.int (i32 (p)), .ref 66]) rfl (jl_iloadn rfl) ?_
    refine jx_ld (pc_q := 40) (l_q := [(0, .ref 66), (1, .int (i32 (p))), (2, .int (i32 (a))), (3, .int (i32 (v)))]) (st_q := [.int (i32 (a)), .int (i32 (p)), .ref 66]) rfl (jl_iloadn rfl) ?_
    refine jx_vr (pc_q := 43) (as := [.int (i32 (p)), .int (i32 (a))]) (st := []) rfl rfl rfl rfl ⟨rfl, rfl, Nat.le_of_ble_eq_true rfl⟩ rfl rfl (c_load (dd := d) (hd := by omega) (hW := hW) (p := p) (a := a)   (h_p := ⟨(Int.le_trans (by decide : (-2147483648 : Int) ≤ -2147483648) h_p.1), (Int.le_trans h_p.2 (by decide : (2147483647 : Int) ≤ 2147483647))⟩) (h_a := ⟨(Int.le_trans (by decide : (-2147483648 : Int) ≤ -2147483648) h_a.1), (Int.le_trans h_a.2 (by decide : (2147483647 : Int) ≤ 2147483647))⟩)  (p_0 := by omega) (p_1 := by omega)) (fun o V_q hq => ?_)
    obtain ⟨r2, rfl, rfl, b3, p4, -⟩ := hq
    refine .inr ⟨_, rfl, ?_⟩
    refine jx_ld (pc_q := 45) (l_q := jSto1 [(0, .ref 66), (1, .int (i32 (p))), (2, .int (i32 (a))), (3, .int (i32 (v)))] 4 (.int (i32 (r2)))) (st_q := []) rfl rfl ?_
    obtain ⟨L6, eL6⟩ : ∃ q, q = jSto1 [(0, .ref 66), (1, .int (i32 (p))), (2, .int (i32 (a))), (3, .int (i32 (v)))] 4 (.int (i32 (r2))) := ⟨_, rfl⟩
    rw [← eL6]
    have gL6_0 : jGet L6 0 = some (.ref 66) := eL6 ▸ jg_ne (by decide) (rfl : jGet [(0, .ref 66), (1, .int (i32 (p))), (2, .int (i32 (a))), (3, .int (i32 (v)))] 0 = some (.ref 66)) rfl
    have gL6_1 : jGet L6 1 = some (.int (i32 (p))) := eL6 ▸ jg_ne (by decide) (rfl : jGet [(0, .ref 66), (1, .int (i32 (p))), (2, .int (i32 (a))), (3, .int (i32 (v)))] 1 = some (.int (i32 (p)))) rfl
    have gL6_2 : jGet L6 2 = some (.int (i32 (a))) := eL6 ▸ jg_ne (by decide) (rfl : jGet [(0, .ref 66), (1, .int (i32 (p))), (2, .int (i32 (a))), (3, .int (i32 (v)))] 2 = some (.int (i32 (a)))) rfl
    have gL6_3 : jGet L6 3 = some (.int (i32 (v))) := eL6 ▸ jg_ne (by decide) (rfl : jGet [(0, .ref 66), (1, .int (i32 (p))), (2, .int (i32 (a))), (3, .int (i32 (v)))] 3 = some (.int (i32 (v)))) rfl
    have gL6_4 : jGet L6 4 = some (.int (i32 (r2))) := eL6 ▸ jg_eq
    refine jx_ld (pc_q := 46) (l_q := L6) (st_q := [.ref 66]) rfl (jl_aloadn gL6_0) ?_
    refine jx_ld (pc_q := 47) (l_q := L6) (st_q := [.int (i32 (a)), .ref 66]) rfl (jl_iloadn gL6_2) ?_
    refine jx_vr (pc_q := 50) (as := [.int (i32 (a))]) (st := []) rfl rfl rfl rfl ⟨rfl, rfl, Nat.le_of_ble_eq_true rfl⟩ rfl rfl (c_isLinkIn (dd := d) (hd := by omega) (hW := hW) (a := a)   (h_a := ⟨(Int.le_trans (by decide : (-2147483648 : Int) ≤ -2147483648) h_a.1), (Int.le_trans h_a.2 (by decide : (2147483647 : Int) ≤ 2147483647))⟩)  ) (fun o V_q hq => ?_)
    obtain ⟨r7, rfl, rfl, b8, q9⟩ := hq
    refine .inr ⟨_, rfl, ?_⟩
    rcases q9 with ⟨rfl, a10, a11⟩ | ⟨rfl, a12⟩
    · have _q : True := trivial
      refine jx_if_eq (pc_q := 53) (tg := 81) rfl rfl rfl (by decide) (by decide) (fun h13 => ?_) (fun h13 => ?_)
      · have _q := h13
        exact absurd h13 (by omega)
      · have _q := h13
        refine jx_ld (pc_q := 54) (l_q := L6) (st_q := [.ref 66]) rfl (jl_aloadn gL6_0) ?_
        refine jr_get (pc_q := 57) (i := 114) (v := .ref 147) rfl rfl (by decide) rfl rfl ?_
        refine jx_ld (pc_q := 58) (l_q := L6) (st_q := [.int (i32 (a)), .ref 147]) rfl (jl_iloadn gL6_2) ?_
        refine jx_ar (pc_q := 59) (st_q := [.int (i32 (1)), .int (i32 (a)), .ref 147]) rfl rfl rfl rfl ?_
        refine jr_sb (pc_q := 60) (i := 80) (m := 12) (z := a) (y := 1) rfl (by decide) rfl (by decide) (by omega) (by omega) (by omega) rfl ?_
        have hW15 : Wk G (uA A 80 (a).toNat (1)) := Wk_a hW (show (0 : Int) ≤ 1 by omega) (show 1 ≤ (1 : Int) by omega)
        have hF16 := Fr_a (z := 1) (k := 80) (n := (a).toNat) hF0 (by decide)
        obtain ⟨A14, eA14⟩ : ∃ q, q = uA A 80 (a).toNat (1) := ⟨_, rfl⟩
        rw [← eA14]
        rw [← eA14] at hW15 hF16
        have q17 : A14 80 (a).toNat = 1 := by rw [eA14]; exact uA_eq
        refine jx_ld (pc_q := 61) (l_q := L6) (st_q := [.ref 66]) rfl (jl_aloadn gL6_0) ?_
        refine jr_get (pc_q := 64) (i := 115) (v := .ref 148) rfl rfl (by decide) rfl rfl ?_
        refine jx_ld (pc_q := 65) (l_q := L6) (st_q := [.int (i32 (a)), .ref 148]) rfl (jl_iloadn gL6_2) ?_
        refine jx_ld (pc_q := 66) (l_q := L6) (st_q := [.int (i32 (v)), .int (i32 (a)), .ref 148]) rfl (jl_iloadn gL6_3) ?_
        refine jr_st (pc_q := 67) (i := 81) (m := 12) (z := a) (y := v) rfl (by decide) rfl (by decide) (by omega) (by omega) rfl ?_
        have hW19 : Wk G (uA A14 81 (a).toNat (v)) := Wk_a hW15 (show (-2147483648 : Int) ≤ v by omega) (show v ≤ (2147483647 : Int) by omega)
        have hF20 := Fr_a (z := v) (k := 81) (n := (a).toNat) hF16 (by decide)
        obtain ⟨A18, eA18⟩ : ∃ q, q = uA A14 81 (a).toNat (v) := ⟨_, rfl⟩
        rw [← eA18]
        rw [← eA18] at hW19 hF20
        have q21 : A18 81 (a).toNat = v := by rw [eA18]; exact uA_eq
        refine jx_ld (pc_q := 68) (l_q := L6) (st_q := [.ref 66]) rfl (jl_aloadn gL6_0) ?_
        refine jr_get (pc_q := 71) (i := 116) (v := .ref 149) rfl rfl (by decide) rfl rfl ?_
        refine jx_ld (pc_q := 72) (l_q := L6) (st_q := [.int (i32 (a)), .ref 149]) rfl (jl_iloadn gL6_2) ?_
        refine jx_ar (pc_q := 73) (st_q := [.int (i32 (0)), .int (i32 (a)), .ref 149]) rfl rfl rfl rfl ?_
        refine jr_st (pc_q := 74) (i := 82) (m := 12) (z := a) (y := 0) rfl (by decide) rfl (by decide) (by omega) (by omega) rfl ?_
        have hW23 : Wk G (uA A18 82 (a).toNat (0)) := Wk_a hW19 (show (-2147483648 : Int) ≤ 0 by omega) (show 0 ≤ (2147483647 : Int) by omega)
        have hF24 := Fr_a (z := 0) (k := 82) (n := (a).toNat) hF20 (by decide)
        obtain ⟨A22, eA22⟩ : ∃ q, q = uA A18 82 (a).toNat (0) := ⟨_, rfl⟩
        rw [← eA22]
        rw [← eA22] at hW23 hF24
        have q25 : A22 82 (a).toNat = 0 := by rw [eA22]; exact uA_eq
        refine jx_ld (pc_q := 75) (l_q := L6) (st_q := [.ref 66]) rfl (jl_aloadn gL6_0) ?_
        refine jr_get (pc_q := 78) (i := 119) (v := .ref 152) rfl rfl (by decide) rfl rfl ?_
        refine jx_ld (pc_q := 79) (l_q := L6) (st_q := [.int (i32 (a)), .ref 152]) rfl (jl_iloadn gL6_2) ?_
        refine jx_ar (pc_q := 80) (st_q := [.int (i32 (1)), .int (i32 (a)), .ref 152]) rfl rfl rfl rfl ?_
        refine jr_sb (pc_q := 81) (i := 85) (m := 12) (z := a) (y := 1) rfl (by decide) rfl (by decide) (by omega) (by omega) (by omega) rfl ?_
        have hW27 : Wk G (uA A22 85 (a).toNat (1)) := Wk_a hW23 (show (0 : Int) ≤ 1 by omega) (show 1 ≤ (1 : Int) by omega)
        have hF28 := Fr_a (z := 1) (k := 85) (n := (a).toNat) hF24 (by decide)
        obtain ⟨A26, eA26⟩ : ∃ q, q = uA A22 85 (a).toNat (1) := ⟨_, rfl⟩
        rw [← eA26]
        rw [← eA26] at hW27 hF28
        have q29 : A26 85 (a).toNat = 1 := by rw [eA26]; exact uA_eq
        refine jx_ld (pc_q := 83) (l_q := L6) (st_q := [.int (i32 (r2))]) rfl (jl_iload gL6_4) ?_
        refine jx_ar (pc_q := 84) (st_q := [.int (i32 (-1)), .int (i32 (r2))]) rfl rfl rfl rfl ?_
        refine jx_icmp_eq (pc_q := 87) (tg := 141) rfl rfl rfl (Int.le_trans (by decide : (-2147483648 : Int) ≤ -2147483648) b3.1) (Int.le_trans b3.2 (by decide : (2147483647 : Int) ≤ 2147483647)) (by decide) (by decide) (fun h30 => ?_) (fun h30 => ?_)
        · have _q := h30
          refine jx_ld (pc_q := 142) (l_q := L6) (st_q := [.ref 66]) rfl (jl_aloadn gL6_0) ?_
          refine jx_ld (pc_q := 143) (l_q := L6) (st_q := [.int (i32 (p)), .ref 66]) rfl (jl_iloadn gL6_1) ?_
          refine jx_ld (pc_q := 144) (l_q := L6) (st_q := [.ref 66, .int (i32 (p)), .ref 66]) rfl (jl_aloadn gL6_0) ?_
          refine jr_get (pc_q := 147) (i := 95) (v := .ref 131) rfl rfl (by decide) rfl rfl ?_
          refine jx_ld (pc_q := 148) (l_q := L6) (st_q := [.int (i32 (p)), .ref 131, .int (i32 (p)), .ref 66]) rfl (jl_iloadn gL6_1) ?_
          refine jr_ldv (pc_q := 149) (i := 64) (m := 6) (z := p) (y := rw) rfl (by decide) rfl (by decide) (by omega) (by omega) rfl (show A26 64 (p).toNat = rw from (congrFun (((congrFun eA26 64).trans (uA_ne (by decide))).trans (((congrFun eA22 64).trans (uA_ne (by decide))).trans (((congrFun eA18 64).trans (uA_ne (by decide))).trans ((congrFun eA14 64).trans (uA_ne (by decide)))))) _).trans (e_rw)) ?_
          refine jx_ar (pc_q := 150) (st_q := [.int (i32 (2)), .int (i32 (rw)), .int (i32 (p)), .ref 66]) rfl rfl rfl rfl ?_
          refine jx_sub (pc_q := 151) rfl rfl ?_
          refine jx_ld (pc_q := 152) (l_q := L6) (st_q := [.int (i32 (v)), .int (i32 ((rw - 2))), .int (i32 (p)), .ref 66]) rfl (jl_iloadn gL6_3) ?_
          refine jx_vr (pc_q := 155) (as := [.int (i32 (p)), .int (i32 ((rw - 2))), .int (i32 (v))]) (st := []) rfl rfl rfl rfl ⟨rfl, rfl, Nat.le_of_ble_eq_true rfl⟩ rfl rfl (c_store (dd := d) (hd := by omega) (hW := hW27) (p := p) (a := (rw - 2)) (v := v)   (h_p := ⟨(Int.le_trans (by decide : (-2147483648 : Int) ≤ -2147483648) h_p.1), (Int.le_trans h_p.2 (by decide : (2147483647 : Int) ≤ 2147483647))⟩) (h_a := ⟨(by omega), (by omega)⟩) (h_v := ⟨(Int.le_trans (by decide : (-2147483648 : Int) ≤ -2147483648) h_v.1), (Int.le_trans h_v.2 (by decide : (2147483647 : Int) ≤ 2147483647))⟩)  (p_0 := by omega) (p_1 := by omega)) (fun o V_q hq => ?_)
          obtain ⟨G31, A32, rfl, rfl, hW33, hF34, p35, -⟩ := hq
          have hF37 := Fr_tr hF28 hF34 (Fr_sub (by decide)) (Fr_sub (by decide))
          refine .inl ⟨rfl, ?_⟩
          refine jx_ld (pc_q := 156) (l_q := L6) (st_q := [.ref 66]) rfl (jl_aloadn gL6_0) ?_
          refine jx_ld (pc_q := 157) (l_q := L6) (st_q := [.int (i32 (p)), .ref 66]) rfl (jl_iloadn gL6_1) ?_
          refine jx_ld (pc_q := 158) (l_q := L6) (st_q := [.ref 66, .int (i32 (p)), .ref 66]) rfl (jl_aloadn gL6_0) ?_
          refine jr_get (pc_q := 161) (i := 95) (v := .ref 131) rfl rfl (by decide) rfl rfl ?_
          refine jx_ld (pc_q := 162) (l_q := L6) (st_q := [.int (i32 (p)), .ref 131, .int (i32 (p)), .ref 66]) rfl (jl_iloadn gL6_1) ?_
          refine jr_ldv (pc_q := 163) (i := 64) (m := 6) (z := p) (y := rw) rfl (by decide) rfl (by decide) (by omega) (by omega) rfl (show A32 64 (p).toNat = rw from (congrFun ((hF34.2 64 rfl).trans (((congrFun eA26 64).trans (uA_ne (by decide))).trans (((congrFun eA22 64).trans (uA_ne (by decide))).trans (((congrFun eA18 64).trans (uA_ne (by decide))).trans ((congrFun eA14 64).trans (uA_ne (by decide))))))) _).trans (e_rw)) ?_
          refine jx_ar (pc_q := 164) (st_q := [.int (i32 (3)), .int (i32 (rw)), .int (i32 (p)), .ref 66]) rfl rfl rfl rfl ?_
          refine jx_sub (pc_q := 165) rfl rfl ?_
          refine jx_ar (pc_q := 166) (st_q := [.int (i32 (0)), .int (i32 ((rw - 3))), .int (i32 (p)), .ref 66]) rfl rfl rfl rfl ?_
          refine jx_vr (pc_q := 169) (as := [.int (i32 (p)), .int (i32 ((rw - 3))), .int (i32 (0))]) (st := []) rfl rfl rfl rfl ⟨rfl, rfl, Nat.le_of_ble_eq_true rfl⟩ rfl rfl (c_store (dd := d) (hd := by omega) (hW := hW33) (p := p) (a := (rw - 3)) (v := 0)   (h_p := ⟨(Int.le_trans (by decide : (-2147483648 : Int) ≤ -2147483648) h_p.1), (Int.le_trans h_p.2 (by decide : (2147483647 : Int) ≤ 2147483647))⟩) (h_a := ⟨(by omega), (by omega)⟩) (h_v := ⟨(by decide), (by decide)⟩)  (p_0 := by omega) (p_1 := by omega)) (fun o V_q hq => ?_)
          obtain ⟨G38, A39, rfl, rfl, hW40, hF41, p42, -⟩ := hq
          have hF44 := Fr_tr hF37 hF41 (Fr_sub (by decide)) (Fr_sub (by decide))
          refine .inl ⟨rfl, ?_⟩
          refine jx_ld (pc_q := 170) (l_q := L6) (st_q := [.ref 66]) rfl (jl_aloadn gL6_0) ?_
          refine jx_ld (pc_q := 171) (l_q := L6) (st_q := [.int (i32 (p)), .ref 66]) rfl (jl_iloadn gL6_1) ?_
          refine jx_ld (pc_q := 172) (l_q := L6) (st_q := [.int (i32 (a)), .int (i32 (p)), .ref 66]) rfl (jl_iloadn gL6_2) ?_
          refine jx_ld (pc_q := 173) (l_q := L6) (st_q := [.ref 66, .int (i32 (a)), .int (i32 (p)), .ref 66]) rfl (jl_aloadn gL6_0) ?_
          refine jr_get (pc_q := 176) (i := 97) (v := .ref 133) rfl rfl (by decide) rfl rfl ?_
          refine jx_ld (pc_q := 177) (l_q := L6) (st_q := [.int (i32 (p)), .ref 133, .int (i32 (a)), .int (i32 (p)), .ref 66]) rfl (jl_iloadn gL6_1) ?_
          refine jr_ldv (pc_q := 178) (i := 66) (m := 6) (z := p) (y := rn) rfl (by decide) rfl (by decide) (by omega) (by omega) rfl (show A39 66 (p).toNat = rn from (congrFun ((hF41.2 66 rfl).trans ((hF34.2 66 rfl).trans (((congrFun eA26 66).trans (uA_ne (by decide))).trans (((congrFun eA22 66).trans (uA_ne (by decide))).trans (((congrFun eA18 66).trans (uA_ne (by decide))).trans ((congrFun eA14 66).trans (uA_ne (by decide)))))))) _).trans (e_rn)) ?_
          refine jx_vr (pc_q := 181) (as := [.int (i32 (p)), .int (i32 (a)), .int (i32 (rn))]) (st := []) rfl rfl rfl rfl ⟨rfl, rfl, Nat.le_of_ble_eq_true rfl⟩ rfl rfl (c_store (dd := d) (hd := by omega) (hW := hW40) (p := p) (a := a) (v := rn)   (h_p := ⟨(Int.le_trans (by decide : (-2147483648 : Int) ≤ -2147483648) h_p.1), (Int.le_trans h_p.2 (by decide : (2147483647 : Int) ≤ 2147483647))⟩) (h_a := ⟨(Int.le_trans (by decide : (-2147483648 : Int) ≤ -2147483648) h_a.1), (Int.le_trans h_a.2 (by decide : (2147483647 : Int) ≤ 2147483647))⟩) (h_v := ⟨(Int.le_trans (by decide : (-2147483648 : Int) ≤ -2147483648) b_rn.1), (Int.le_trans b_rn.2 (by decide : (2147483647 : Int) ≤ 2147483647))⟩)  (p_0 := by omega) (p_1 := by omega)) (fun o V_q hq => ?_)
          obtain ⟨G45, A46, rfl, rfl, hW47, hF48, p49, -⟩ := hq
          have hF51 := Fr_tr hF44 hF48 (Fr_sub (by decide)) (Fr_sub (by decide))
          refine .inl ⟨rfl, ?_⟩
          refine jx_ld (pc_q := 183) (l_q := L6) (st_q := [.int (i32 (r2))]) rfl (jl_iload gL6_4) ?_
          refine jx_ar (pc_q := 184) (st_q := [.int (i32 (-1)), .int (i32 (r2))]) rfl rfl rfl rfl ?_
          refine jx_icmp_eq (pc_q := 187) (tg := 202) rfl rfl rfl (Int.le_trans (by decide : (-2147483648 : Int) ≤ -2147483648) b3.1) (Int.le_trans b3.2 (by decide : (2147483647 : Int) ≤ 2147483647)) (by decide) (by decide) (fun h52 => ?_) (fun h52 => ?_)
          · have _q := h52
            have hk53 : A46 64 (p).toNat = rw := (congrFun ((hF48.2 64 rfl).trans ((hF41.2 64 rfl).trans ((hF34.2 64 rfl).trans (((congrFun eA26 64).trans (uA_ne (by decide))).trans (((congrFun eA22 64).trans (uA_ne (by decide))).trans (((congrFun eA18 64).trans (uA_ne (by decide))).trans ((congrFun eA14 64).trans (uA_ne (by decide))))))))) _).trans (e_rw)
            refine jx_ld (pc_q := 203) (l_q := L6) (st_q := [.ref 66]) rfl (jl_aloadn gL6_0) ?_
            refine jx_ld (pc_q := 204) (l_q := L6) (st_q := [.int (i32 (p)), .ref 66]) rfl (jl_iloadn gL6_1) ?_
            refine jx_vr (pc_q := 207) (as := [.int (i32 (p))]) (st := []) rfl rfl rfl rfl ⟨rfl, rfl, Nat.le_of_ble_eq_true rfl⟩ rfl rfl (c_wait0 (dd := d) (hd := by omega) (hW := hW47) (p := p)   (h_p := ⟨(Int.le_trans (by decide : (-2147483648 : Int) ≤ -2147483648) h_p.1), (Int.le_trans h_p.2 (by decide : (2147483647 : Int) ≤ 2147483647))⟩)  (p_0 := by omega) (p_1 := by omega) (p_2 := by omega)) (fun o V_q hq => ?_)
            obtain ⟨G54, A55, rfl, rfl, hW56, hF57, p58, -⟩ := hq
            have hF60 := Fr_tr hF51 hF57 (Fr_sub (by decide)) (Fr_sub (by decide))
            refine .inl ⟨rfl, ?_⟩
            refine jx_rt (v := none) rfl rfl rfl rfl rfl rfl ?_
            exact ⟨_, _, om, rfl, rfl, hW56, hF60, ((hF57.1 113 rfl).trans ((hF48.1 113 rfl).trans ((hF41.1 113 rfl).trans ((hF34.1 113 rfl).trans (e_om))))), by omega, by omega, (by first | exact ouR_lnk _ _ _ _ _ _ _ _ _ _ (by omega) p4 e_rw e_rn eA14 eA18 eA22 eA26 p35 p42 p49 p58 | omega), trivial⟩
          · have _q := h52
            refine jx_ld (pc_q := 188) (l_q := L6) (st_q := [.ref 66]) rfl (jl_aloadn gL6_0) ?_
            refine jx_ld (pc_q := 189) (l_q := L6) (st_q := [.int (i32 (a)), .ref 66]) rfl (jl_iloadn gL6_2) ?_
            refine jx_vr (pc_q := 192) (as := [.int (i32 (a))]) (st := []) rfl rfl rfl rfl ⟨rfl, rfl, Nat.le_of_ble_eq_true rfl⟩ rfl rfl (c_isOutside (dd := d) (hd := by omega) (hW := hW47) (a := a)   (h_a := ⟨(Int.le_trans (by decide : (-2147483648 : Int) ≤ -2147483648) h_a.1), (Int.le_trans h_a.2 (by decide : (2147483647 : Int) ≤ 2147483647))⟩)  ) (fun o V_q hq => ?_)
            obtain ⟨r61, rfl, rfl, b62, q63⟩ := hq
            refine .inr ⟨_, rfl, ?_⟩
            rcases q63 with ⟨rfl, a64, a65⟩ | ⟨rfl, a66⟩
            · have _q : True := trivial
              refine jx_if_ne (pc_q := 195) (tg := 202) rfl rfl rfl (by decide) (by decide) (fun h67 => ?_) (fun h67 => ?_)
              · have _q := h67
                have hk68 : A46 64 (p).toNat = rw := (congrFun ((hF48.2 64 rfl).trans ((hF41.2 64 rfl).trans ((hF34.2 64 rfl).trans (((congrFun eA26 64).trans (uA_ne (by decide))).trans (((congrFun eA22 64).trans (uA_ne (by decide))).trans (((congrFun eA18 64).trans (uA_ne (by decide))).trans ((congrFun eA14 64).trans (uA_ne (by decide))))))))) _).trans (e_rw)
                refine jx_ld (pc_q := 203) (l_q := L6) (st_q := [.ref 66]) rfl (jl_aloadn gL6_0) ?_
                refine jx_ld (pc_q := 204) (l_q := L6) (st_q := [.int (i32 (p)), .ref 66]) rfl (jl_iloadn gL6_1) ?_
                refine jx_vr (pc_q := 207) (as := [.int (i32 (p))]) (st := []) rfl rfl rfl rfl ⟨rfl, rfl, Nat.le_of_ble_eq_true rfl⟩ rfl rfl (c_wait0 (dd := d) (hd := by omega) (hW := hW47) (p := p)   (h_p := ⟨(Int.le_trans (by decide : (-2147483648 : Int) ≤ -2147483648) h_p.1), (Int.le_trans h_p.2 (by decide : (2147483647 : Int) ≤ 2147483647))⟩)  (p_0 := by omega) (p_1 := by omega) (p_2 := by omega)) (fun o V_q hq => ?_)
                obtain ⟨G69, A70, rfl, rfl, hW71, hF72, p73, -⟩ := hq
                have hF75 := Fr_tr hF51 hF72 (Fr_sub (by decide)) (Fr_sub (by decide))
                refine .inl ⟨rfl, ?_⟩
                refine jx_rt (v := none) rfl rfl rfl rfl rfl rfl ?_
                exact ⟨_, _, om, rfl, rfl, hW71, hF75, ((hF72.1 113 rfl).trans ((hF48.1 113 rfl).trans ((hF41.1 113 rfl).trans ((hF34.1 113 rfl).trans (e_om))))), by omega, by omega, (by first | exact ouR_lnk _ _ _ _ _ _ _ _ _ _ (by omega) p4 e_rw e_rn eA14 eA18 eA22 eA26 p35 p42 p49 p73 | omega), trivial⟩
              · have _q := h67
                exact absurd h67 (by omega)
            · have _q : True := trivial
              refine jx_if_ne (pc_q := 195) (tg := 202) rfl rfl rfl (by decide) (by decide) (fun h76 => ?_) (fun h76 => ?_)
              · have _q := h76
                exact absurd h76 (by omega)
              · have _q := h76
                have hk77 : A46 64 (p).toNat = rw := (congrFun ((hF48.2 64 rfl).trans ((hF41.2 64 rfl).trans ((hF34.2 64 rfl).trans (((congrFun eA26 64).trans (uA_ne (by decide))).trans (((congrFun eA22 64).trans (uA_ne (by decide))).trans (((congrFun eA18 64).trans (uA_ne (by decide))).trans ((congrFun eA14 64).trans (uA_ne (by decide))))))))) _).trans (e_rw); have hk78 : A46 66 (p).toNat = rn := (congrFun ((hF48.2 66 rfl).trans ((hF41.2 66 rfl).trans ((hF34.2 66 rfl).trans (((congrFun eA26 66).trans (uA_ne (by decide))).trans (((congrFun eA22 66).trans (uA_ne (by decide))).trans (((congrFun eA18 66).trans (uA_ne (by decide))).trans ((congrFun eA14 66).trans (uA_ne (by decide))))))))) _).trans (e_rn)
                refine jx_ld (pc_q := 196) (l_q := L6) (st_q := [.ref 66]) rfl (jl_aloadn gL6_0) ?_
                refine jx_ld (pc_q := 197) (l_q := L6) (st_q := [.int (i32 (p)), .ref 66]) rfl (jl_iloadn gL6_1) ?_
                refine jx_ld (pc_q := 199) (l_q := L6) (st_q := [.int (i32 (r2)), .int (i32 (p)), .ref 66]) rfl (jl_iload gL6_4) ?_
                refine jx_vr (pc_q := 202) (as := [.int (i32 (p)), .int (i32 (r2))]) (st := []) rfl rfl rfl rfl ⟨rfl, rfl, Nat.le_of_ble_eq_true rfl⟩ rfl rfl (c_wake (dd := d) (hd := by omega) (hW := hW47) (p := p) (d2 := r2) (m0 := m0) (e_m0 := show A46 72 ((2 * p)).toNat = m0 from (congrFun ((hF48.2 72 rfl).trans ((hF41.2 72 rfl).trans ((hF34.2 72 rfl).trans (((congrFun eA26 72).trans (uA_ne (by decide))).trans (((congrFun eA22 72).trans (uA_ne (by decide))).trans (((congrFun eA18 72).trans (uA_ne (by decide))).trans ((congrFun eA14 72).trans (uA_ne (by decide))))))))) _).trans (e_m0)) (m1 := m1) (e_m1 := show A46 72 (((2 * p) + 1)).toNat = m1 from (congrFun ((hF48.2 72 rfl).trans ((hF41.2 72 rfl).trans ((hF34.2 72 rfl).trans (((congrFun eA26 72).trans (uA_ne (by decide))).trans (((congrFun eA22 72).trans (uA_ne (by decide))).trans (((congrFun eA18 72).trans (uA_ne (by decide))).trans ((congrFun eA14 72).trans (uA_ne (by decide))))))))) _).trans (e_m1))  (h_p := ⟨(Int.le_trans (by decide : (-2147483648 : Int) ≤ -2147483648) h_p.1), (Int.le_trans h_p.2 (by decide : (2147483647 : Int) ≤ 2147483647))⟩) (h_d2 := ⟨(Int.le_trans (by decide : (-2147483648 : Int) ≤ -2147483648) b3.1), (Int.le_trans b3.2 (by decide : (2147483647 : Int) ≤ 2147483647))⟩)  (p_0 := by omega) (p_1 := by omega) (p_2 := by omega) (p_3 := by omega) (p_4 := by omega) (p_5 := by omega)) (fun o V_q hq => ?_)
                obtain ⟨G79, A80, rfl, rfl, hW81, hF82, p83, -⟩ := hq
                have hF85 := Fr_tr hF51 hF82 (Fr_sub (by decide)) (Fr_sub (by decide))
                refine .inl ⟨rfl, ?_⟩
                have hk86 : A80 64 (p).toNat = rw := (congrFun (wk_o p83 (by rw [hk78]; omega) ⟨by decide, by decide, by decide⟩) _).trans hk77
                refine jx_ld (pc_q := 203) (l_q := L6) (st_q := [.ref 66]) rfl (jl_aloadn gL6_0) ?_
                refine jx_ld (pc_q := 204) (l_q := L6) (st_q := [.int (i32 (p)), .ref 66]) rfl (jl_iloadn gL6_1) ?_
                refine jx_vr (pc_q := 207) (as := [.int (i32 (p))]) (st := []) rfl rfl rfl rfl ⟨rfl, rfl, Nat.le_of_ble_eq_true rfl⟩ rfl rfl (c_wait0 (dd := d) (hd := by omega) (hW := hW81) (p := p)   (h_p := ⟨(Int.le_trans (by decide : (-2147483648 : Int) ≤ -2147483648) h_p.1), (Int.le_trans h_p.2 (by decide : (2147483647 : Int) ≤ 2147483647))⟩)  (p_0 := by omega) (p_1 := by omega) (p_2 := by omega)) (fun o V_q hq => ?_)
                obtain ⟨G87, A88, rfl, rfl, hW89, hF90, p91, -⟩ := hq
                have hF93 := Fr_tr hF85 hF90 (Fr_sub (by decide)) (Fr_sub (by decide))
                refine .inl ⟨rfl, ?_⟩
                refine jx_rt (v := none) rfl rfl rfl rfl rfl rfl ?_
                exact ⟨_, _, om, rfl, rfl, hW89, hF93, ((hF90.1 113 rfl).trans ((hF82.1 113 rfl).trans ((hF48.1 113 rfl).trans ((hF41.1 113 rfl).trans ((hF34.1 113 rfl).trans (e_om)))))), by omega, by omega, (by omega), trivial⟩
        · have _q := h30
          refine jx_ld (pc_q := 88) (l_q := L6) (st_q := [.ref 66]) rfl (jl_aloadn gL6_0) ?_
          refine jx_ld (pc_q := 89) (l_q := L6) (st_q := [.int (i32 (a)), .ref 66]) rfl (jl_iloadn gL6_2) ?_
          refine jx_vr (pc_q := 92) (as := [.int (i32 (a))]) (st := []) rfl rfl rfl rfl ⟨rfl, rfl, Nat.le_of_ble_eq_true rfl⟩ rfl rfl (c_isOutside (dd := d) (hd := by omega) (hW := hW27) (a := a)   (h_a := ⟨(Int.le_trans (by decide : (-2147483648 : Int) ≤ -2147483648) h_a.1), (Int.le_trans h_a.2 (by decide : (2147483647 : Int) ≤ 2147483647))⟩)  ) (fun o V_q hq => ?_)
          obtain ⟨r94, rfl, rfl, b95, q96⟩ := hq
          refine .inr ⟨_, rfl, ?_⟩
          rcases q96 with ⟨rfl, a97, a98⟩ | ⟨rfl, a99⟩
          · have _q : True := trivial
            refine jx_if_ne (pc_q := 95) (tg := 141) rfl rfl rfl (by decide) (by decide) (fun h100 => ?_) (fun h100 => ?_)
            · have _q := h100
              refine jx_ld (pc_q := 142) (l_q := L6) (st_q := [.ref 66]) rfl (jl_aloadn gL6_0) ?_
              refine jx_ld (pc_q := 143) (l_q := L6) (st_q := [.int (i32 (p)), .ref 66]) rfl (jl_iloadn gL6_1) ?_
              refine jx_ld (pc_q := 144) (l_q := L6) (st_q := [.ref 66, .int (i32 (p)), .ref 66]) rfl (jl_aloadn gL6_0) ?_
              refine jr_get (pc_q := 147) (i := 95) (v := .ref 131) rfl rfl (by decide) rfl rfl ?_
              refine jx_ld (pc_q := 148) (l_q := L6) (st_q := [.int (i32 (p)), .ref 131, .int (i32 (p)), .ref 66]) rfl (jl_iloadn gL6_1) ?_
              refine jr_ldv (pc_q := 149) (i := 64) (m := 6) (z := p) (y := rw) rfl (by decide) rfl (by decide) (by omega) (by omega) rfl (show A26 64 (p).toNat = rw from (congrFun (((congrFun eA26 64).trans (uA_ne (by decide))).trans (((congrFun eA22 64).trans (uA_ne (by decide))).trans (((congrFun eA18 64).trans (uA_ne (by decide))).trans ((congrFun eA14 64).trans (uA_ne (by decide)))))) _).trans (e_rw)) ?_
              refine jx_ar (pc_q := 150) (st_q := [.int (i32 (2)), .int (i32 (rw)), .int (i32 (p)), .ref 66]) rfl rfl rfl rfl ?_
              refine jx_sub (pc_q := 151) rfl rfl ?_
              refine jx_ld (pc_q := 152) (l_q := L6) (st_q := [.int (i32 (v)), .int (i32 ((rw - 2))), .int (i32 (p)), .ref 66]) rfl (jl_iloadn gL6_3) ?_
              refine jx_vr (pc_q := 155) (as := [.int (i32 (p)), .int (i32 ((rw - 2))), .int (i32 (v))]) (st := []) rfl rfl rfl rfl ⟨rfl, rfl, Nat.le_of_ble_eq_true rfl⟩ rfl rfl (c_store (dd := d) (hd := by omega) (hW := hW27) (p := p) (a := (rw - 2)) (v := v)   (h_p := ⟨(Int.le_trans (by decide : (-2147483648 : Int) ≤ -2147483648) h_p.1), (Int.le_trans h_p.2 (by decide : (2147483647 : Int) ≤ 2147483647))⟩) (h_a := ⟨(by omega), (by omega)⟩) (h_v := ⟨(Int.le_trans (by decide : (-2147483648 : Int) ≤ -2147483648) h_v.1), (Int.le_trans h_v.2 (by decide : (2147483647 : Int) ≤ 2147483647))⟩)  (p_0 := by omega) (p_1 := by omega)) (fun o V_q hq => ?_)
              obtain ⟨G101, A102, rfl, rfl, hW103, hF104, p105, -⟩ := hq
              have hF107 := Fr_tr hF28 hF104 (Fr_sub (by decide)) (Fr_sub (by decide))
              refine .inl ⟨rfl, ?_⟩
              refine jx_ld (pc_q := 156) (l_q := L6) (st_q := [.ref 66]) rfl (jl_aloadn gL6_0) ?_
              refine jx_ld (pc_q := 157) (l_q := L6) (st_q := [.int (i32 (p)), .ref 66]) rfl (jl_iloadn gL6_1) ?_
              refine jx_ld (pc_q := 158) (l_q := L6) (st_q := [.ref 66, .int (i32 (p)), .ref 66]) rfl (jl_aloadn gL6_0) ?_
              refine jr_get (pc_q := 161) (i := 95) (v := .ref 131) rfl rfl (by decide) rfl rfl ?_
              refine jx_ld (pc_q := 162) (l_q := L6) (st_q := [.int (i32 (p)), .ref 131, .int (i32 (p)), .ref 66]) rfl (jl_iloadn gL6_1) ?_
              refine jr_ldv (pc_q := 163) (i := 64) (m := 6) (z := p) (y := rw) rfl (by decide) rfl (by decide) (by omega) (by omega) rfl (show A102 64 (p).toNat = rw from (congrFun ((hF104.2 64 rfl).trans (((congrFun eA26 64).trans (uA_ne (by decide))).trans (((congrFun eA22 64).trans (uA_ne (by decide))).trans (((congrFun eA18 64).trans (uA_ne (by decide))).trans ((congrFun eA14 64).trans (uA_ne (by decide))))))) _).trans (e_rw)) ?_
              refine jx_ar (pc_q := 164) (st_q := [.int (i32 (3)), .int (i32 (rw)), .int (i32 (p)), .ref 66]) rfl rfl rfl rfl ?_
              refine jx_sub (pc_q := 165) rfl rfl ?_
              refine jx_ar (pc_q := 166) (st_q := [.int (i32 (0)), .int (i32 ((rw - 3))), .int (i32 (p)), .ref 66]) rfl rfl rfl rfl ?_
              refine jx_vr (pc_q := 169) (as := [.int (i32 (p)), .int (i32 ((rw - 3))), .int (i32 (0))]) (st := []) rfl rfl rfl rfl ⟨rfl, rfl, Nat.le_of_ble_eq_true rfl⟩ rfl rfl (c_store (dd := d) (hd := by omega) (hW := hW103) (p := p) (a := (rw - 3)) (v := 0)   (h_p := ⟨(Int.le_trans (by decide : (-2147483648 : Int) ≤ -2147483648) h_p.1), (Int.le_trans h_p.2 (by decide : (2147483647 : Int) ≤ 2147483647))⟩) (h_a := ⟨(by omega), (by omega)⟩) (h_v := ⟨(by decide), (by decide)⟩)  (p_0 := by omega) (p_1 := by omega)) (fun o V_q hq => ?_)
              obtain ⟨G108, A109, rfl, rfl, hW110, hF111, p112, -⟩ := hq
              have hF114 := Fr_tr hF107 hF111 (Fr_sub (by decide)) (Fr_sub (by decide))
              refine .inl ⟨rfl, ?_⟩
              refine jx_ld (pc_q := 170) (l_q := L6) (st_q := [.ref 66]) rfl (jl_aloadn gL6_0) ?_
              refine jx_ld (pc_q := 171) (l_q := L6) (st_q := [.int (i32 (p)), .ref 66]) rfl (jl_iloadn gL6_1) ?_
              refine jx_ld (pc_q := 172) (l_q := L6) (st_q := [.int (i32 (a)), .int (i32 (p)), .ref 66]) rfl (jl_iloadn gL6_2) ?_
              refine jx_ld (pc_q := 173) (l_q := L6) (st_q := [.ref 66, .int (i32 (a)), .int (i32 (p)), .ref 66]) rfl (jl_aloadn gL6_0) ?_
              refine jr_get (pc_q := 176) (i := 97) (v := .ref 133) rfl rfl (by decide) rfl rfl ?_
              refine jx_ld (pc_q := 177) (l_q := L6) (st_q := [.int (i32 (p)), .ref 133, .int (i32 (a)), .int (i32 (p)), .ref 66]) rfl (jl_iloadn gL6_1) ?_
              refine jr_ldv (pc_q := 178) (i := 66) (m := 6) (z := p) (y := rn) rfl (by decide) rfl (by decide) (by omega) (by omega) rfl (show A109 66 (p).toNat = rn from (congrFun ((hF111.2 66 rfl).trans ((hF104.2 66 rfl).trans (((congrFun eA26 66).trans (uA_ne (by decide))).trans (((congrFun eA22 66).trans (uA_ne (by decide))).trans (((congrFun eA18 66).trans (uA_ne (by decide))).trans ((congrFun eA14 66).trans (uA_ne (by decide)))))))) _).trans (e_rn)) ?_
              refine jx_vr (pc_q := 181) (as := [.int (i32 (p)), .int (i32 (a)), .int (i32 (rn))]) (st := []) rfl rfl rfl rfl ⟨rfl, rfl, Nat.le_of_ble_eq_true rfl⟩ rfl rfl (c_store (dd := d) (hd := by omega) (hW := hW110) (p := p) (a := a) (v := rn)   (h_p := ⟨(Int.le_trans (by decide : (-2147483648 : Int) ≤ -2147483648) h_p.1), (Int.le_trans h_p.2 (by decide : (2147483647 : Int) ≤ 2147483647))⟩) (h_a := ⟨(Int.le_trans (by decide : (-2147483648 : Int) ≤ -2147483648) h_a.1), (Int.le_trans h_a.2 (by decide : (2147483647 : Int) ≤ 2147483647))⟩) (h_v := ⟨(Int.le_trans (by decide : (-2147483648 : Int) ≤ -2147483648) b_rn.1), (Int.le_trans b_rn.2 (by decide : (2147483647 : Int) ≤ 2147483647))⟩)  (p_0 := by omega) (p_1 := by omega)) (fun o V_q hq => ?_)
              obtain ⟨G115, A116, rfl, rfl, hW117, hF118, p119, -⟩ := hq
              have hF121 := Fr_tr hF114 hF118 (Fr_sub (by decide)) (Fr_sub (by decide))
              refine .inl ⟨rfl, ?_⟩
              refine jx_ld (pc_q := 183) (l_q := L6) (st_q := [.int (i32 (r2))]) rfl (jl_iload gL6_4) ?_
              refine jx_ar (pc_q := 184) (st_q := [.int (i32 (-1)), .int (i32 (r2))]) rfl rfl rfl rfl ?_
              refine jx_icmp_eq (pc_q := 187) (tg := 202) rfl rfl rfl (Int.le_trans (by decide : (-2147483648 : Int) ≤ -2147483648) b3.1) (Int.le_trans b3.2 (by decide : (2147483647 : Int) ≤ 2147483647)) (by decide) (by decide) (fun h122 => ?_) (fun h122 => ?_)
              · have _q := h122
                have hk123 : A116 64 (p).toNat = rw := (congrFun ((hF118.2 64 rfl).trans ((hF111.2 64 rfl).trans ((hF104.2 64 rfl).trans (((congrFun eA26 64).trans (uA_ne (by decide))).trans (((congrFun eA22 64).trans (uA_ne (by decide))).trans (((congrFun eA18 64).trans (uA_ne (by decide))).trans ((congrFun eA14 64).trans (uA_ne (by decide))))))))) _).trans (e_rw)
                refine jx_ld (pc_q := 203) (l_q := L6) (st_q := [.ref 66]) rfl (jl_aloadn gL6_0) ?_
                refine jx_ld (pc_q := 204) (l_q := L6) (st_q := [.int (i32 (p)), .ref 66]) rfl (jl_iloadn gL6_1) ?_
                refine jx_vr (pc_q := 207) (as := [.int (i32 (p))]) (st := []) rfl rfl rfl rfl ⟨rfl, rfl, Nat.le_of_ble_eq_true rfl⟩ rfl rfl (c_wait0 (dd := d) (hd := by omega) (hW := hW117) (p := p)   (h_p := ⟨(Int.le_trans (by decide : (-2147483648 : Int) ≤ -2147483648) h_p.1), (Int.le_trans h_p.2 (by decide : (2147483647 : Int) ≤ 2147483647))⟩)  (p_0 := by omega) (p_1 := by omega) (p_2 := by omega)) (fun o V_q hq => ?_)
                obtain ⟨G124, A125, rfl, rfl, hW126, hF127, p128, -⟩ := hq
                have hF130 := Fr_tr hF121 hF127 (Fr_sub (by decide)) (Fr_sub (by decide))
                refine .inl ⟨rfl, ?_⟩
                refine jx_rt (v := none) rfl rfl rfl rfl rfl rfl ?_
                exact ⟨_, _, om, rfl, rfl, hW126, hF130, ((hF127.1 113 rfl).trans ((hF118.1 113 rfl).trans ((hF111.1 113 rfl).trans ((hF104.1 113 rfl).trans (e_om))))), by omega, by omega, (by first | exact ouR_lnk _ _ _ _ _ _ _ _ _ _ (by omega) p4 e_rw e_rn eA14 eA18 eA22 eA26 p105 p112 p119 p128 | omega), trivial⟩
              · have _q := h122
                refine jx_ld (pc_q := 188) (l_q := L6) (st_q := [.ref 66]) rfl (jl_aloadn gL6_0) ?_
                refine jx_ld (pc_q := 189) (l_q := L6) (st_q := [.int (i32 (a)), .ref 66]) rfl (jl_iloadn gL6_2) ?_
                refine jx_vr (pc_q := 192) (as := [.int (i32 (a))]) (st := []) rfl rfl rfl rfl ⟨rfl, rfl, Nat.le_of_ble_eq_true rfl⟩ rfl rfl (c_isOutside (dd := d) (hd := by omega) (hW := hW117) (a := a)   (h_a := ⟨(Int.le_trans (by decide : (-2147483648 : Int) ≤ -2147483648) h_a.1), (Int.le_trans h_a.2 (by decide : (2147483647 : Int) ≤ 2147483647))⟩)  ) (fun o V_q hq => ?_)
                obtain ⟨r131, rfl, rfl, b132, q133⟩ := hq
                refine .inr ⟨_, rfl, ?_⟩
                rcases q133 with ⟨rfl, a134, a135⟩ | ⟨rfl, a136⟩
                · have _q : True := trivial
                  refine jx_if_ne (pc_q := 195) (tg := 202) rfl rfl rfl (by decide) (by decide) (fun h137 => ?_) (fun h137 => ?_)
                  · have _q := h137
                    have hk138 : A116 64 (p).toNat = rw := (congrFun ((hF118.2 64 rfl).trans ((hF111.2 64 rfl).trans ((hF104.2 64 rfl).trans (((congrFun eA26 64).trans (uA_ne (by decide))).trans (((congrFun eA22 64).trans (uA_ne (by decide))).trans (((congrFun eA18 64).trans (uA_ne (by decide))).trans ((congrFun eA14 64).trans (uA_ne (by decide))))))))) _).trans (e_rw)
                    refine jx_ld (pc_q := 203) (l_q := L6) (st_q := [.ref 66]) rfl (jl_aloadn gL6_0) ?_
                    refine jx_ld (pc_q := 204) (l_q := L6) (st_q := [.int (i32 (p)), .ref 66]) rfl (jl_iloadn gL6_1) ?_
                    refine jx_vr (pc_q := 207) (as := [.int (i32 (p))]) (st := []) rfl rfl rfl rfl ⟨rfl, rfl, Nat.le_of_ble_eq_true rfl⟩ rfl rfl (c_wait0 (dd := d) (hd := by omega) (hW := hW117) (p := p)   (h_p := ⟨(Int.le_trans (by decide : (-2147483648 : Int) ≤ -2147483648) h_p.1), (Int.le_trans h_p.2 (by decide : (2147483647 : Int) ≤ 2147483647))⟩)  (p_0 := by omega) (p_1 := by omega) (p_2 := by omega)) (fun o V_q hq => ?_)
                    obtain ⟨G139, A140, rfl, rfl, hW141, hF142, p143, -⟩ := hq
                    have hF145 := Fr_tr hF121 hF142 (Fr_sub (by decide)) (Fr_sub (by decide))
                    refine .inl ⟨rfl, ?_⟩
                    refine jx_rt (v := none) rfl rfl rfl rfl rfl rfl ?_
                    exact ⟨_, _, om, rfl, rfl, hW141, hF145, ((hF142.1 113 rfl).trans ((hF118.1 113 rfl).trans ((hF111.1 113 rfl).trans ((hF104.1 113 rfl).trans (e_om))))), by omega, by omega, (by first | exact ouR_lnk _ _ _ _ _ _ _ _ _ _ (by omega) p4 e_rw e_rn eA14 eA18 eA22 eA26 p105 p112 p119 p143 | omega), trivial⟩
                  · have _q := h137
                    exact absurd h137 (by omega)
                · have _q : True := trivial
                  refine jx_if_ne (pc_q := 195) (tg := 202) rfl rfl rfl (by decide) (by decide) (fun h146 => ?_) (fun h146 => ?_)
                  · have _q := h146
                    exact absurd h146 (by omega)
                  · have _q := h146
                    have hk147 : A116 64 (p).toNat = rw := (congrFun ((hF118.2 64 rfl).trans ((hF111.2 64 rfl).trans ((hF104.2 64 rfl).trans (((congrFun eA26 64).trans (uA_ne (by decide))).trans (((congrFun eA22 64).trans (uA_ne (by decide))).trans (((congrFun eA18 64).trans (uA_ne (by decide))).trans ((congrFun eA14 64).trans (uA_ne (by decide))))))))) _).trans (e_rw); have hk148 : A116 66 (p).toNat = rn := (congrFun ((hF118.2 66 rfl).trans ((hF111.2 66 rfl).trans ((hF104.2 66 rfl).trans (((congrFun eA26 66).trans (uA_ne (by decide))).trans (((congrFun eA22 66).trans (uA_ne (by decide))).trans (((congrFun eA18 66).trans (uA_ne (by decide))).trans ((congrFun eA14 66).trans (uA_ne (by decide))))))))) _).trans (e_rn)
                    refine jx_ld (pc_q := 196) (l_q := L6) (st_q := [.ref 66]) rfl (jl_aloadn gL6_0) ?_
                    refine jx_ld (pc_q := 197) (l_q := L6) (st_q := [.int (i32 (p)), .ref 66]) rfl (jl_iloadn gL6_1) ?_
                    refine jx_ld (pc_q := 199) (l_q := L6) (st_q := [.int (i32 (r2)), .int (i32 (p)), .ref 66]) rfl (jl_iload gL6_4) ?_
                    refine jx_vr (pc_q := 202) (as := [.int (i32 (p)), .int (i32 (r2))]) (st := []) rfl rfl rfl rfl ⟨rfl, rfl, Nat.le_of_ble_eq_true rfl⟩ rfl rfl (c_wake (dd := d) (hd := by omega) (hW := hW117) (p := p) (d2 := r2) (m0 := m0) (e_m0 := show A116 72 ((2 * p)).toNat = m0 from (congrFun ((hF118.2 72 rfl).trans ((hF111.2 72 rfl).trans ((hF104.2 72 rfl).trans (((congrFun eA26 72).trans (uA_ne (by decide))).trans (((congrFun eA22 72).trans (uA_ne (by decide))).trans (((congrFun eA18 72).trans (uA_ne (by decide))).trans ((congrFun eA14 72).trans (uA_ne (by decide))))))))) _).trans (e_m0)) (m1 := m1) (e_m1 := show A116 72 (((2 * p) + 1)).toNat = m1 from (congrFun ((hF118.2 72 rfl).trans ((hF111.2 72 rfl).trans ((hF104.2 72 rfl).trans (((congrFun eA26 72).trans (uA_ne (by decide))).trans (((congrFun eA22 72).trans (uA_ne (by decide))).trans (((congrFun eA18 72).trans (uA_ne (by decide))).trans ((congrFun eA14 72).trans (uA_ne (by decide))))))))) _).trans (e_m1))  (h_p := ⟨(Int.le_trans (by decide : (-2147483648 : Int) ≤ -2147483648) h_p.1), (Int.le_trans h_p.2 (by decide : (2147483647 : Int) ≤ 2147483647))⟩) (h_d2 := ⟨(Int.le_trans (by decide : (-2147483648 : Int) ≤ -2147483648) b3.1), (Int.le_trans b3.2 (by decide : (2147483647 : Int) ≤ 2147483647))⟩)  (p_0 := by omega) (p_1 := by omega) (p_2 := by omega) (p_3 := by omega) (p_4 := by omega) (p_5 := by omega)) (fun o V_q hq => ?_)
                    obtain ⟨G149, A150, rfl, rfl, hW151, hF152, p153, -⟩ := hq
                    have hF155 := Fr_tr hF121 hF152 (Fr_sub (by decide)) (Fr_sub (by decide))
                    refine .inl ⟨rfl, ?_⟩
                    have hk156 : A150 64 (p).toNat = rw := (congrFun (wk_o p153 (by rw [hk148]; omega) ⟨by decide, by decide, by decide⟩) _).trans hk147
                    refine jx_ld (pc_q := 203) (l_q := L6) (st_q := [.ref 66]) rfl (jl_aloadn gL6_0) ?_
                    refine jx_ld (pc_q := 204) (l_q := L6) (st_q := [.int (i32 (p)), .ref 66]) rfl (jl_iloadn gL6_1) ?_
                    refine jx_vr (pc_q := 207) (as := [.int (i32 (p))]) (st := []) rfl rfl rfl rfl ⟨rfl, rfl, Nat.le_of_ble_eq_true rfl⟩ rfl rfl (c_wait0 (dd := d) (hd := by omega) (hW := hW151) (p := p)   (h_p := ⟨(Int.le_trans (by decide : (-2147483648 : Int) ≤ -2147483648) h_p.1), (Int.le_trans h_p.2 (by decide : (2147483647 : Int) ≤ 2147483647))⟩)  (p_0 := by omega) (p_1 := by omega) (p_2 := by omega)) (fun o V_q hq => ?_)
                    obtain ⟨G157, A158, rfl, rfl, hW159, hF160, p161, -⟩ := hq
                    have hF163 := Fr_tr hF155 hF160 (Fr_sub (by decide)) (Fr_sub (by decide))
                    refine .inl ⟨rfl, ?_⟩
                    refine jx_rt (v := none) rfl rfl rfl rfl rfl rfl ?_
                    exact ⟨_, _, om, rfl, rfl, hW159, hF163, ((hF160.1 113 rfl).trans ((hF152.1 113 rfl).trans ((hF118.1 113 rfl).trans ((hF111.1 113 rfl).trans ((hF104.1 113 rfl).trans (e_om)))))), by omega, by omega, (by omega), trivial⟩
            · have _q := h100
              exact absurd h100 (by omega)
          · have _q : True := trivial
            refine jx_if_ne (pc_q := 95) (tg := 141) rfl rfl rfl (by decide) (by decide) (fun h164 => ?_) (fun h164 => ?_)
            · have _q := h164
              exact absurd h164 (by omega)
            · have _q := h164
              refine jx_ld (pc_q := 96) (l_q := L6) (st_q := [.ref 66]) rfl (jl_aloadn gL6_0) ?_
              refine jx_ld (pc_q := 97) (l_q := L6) (st_q := [.int (i32 (p)), .ref 66]) rfl (jl_iloadn gL6_1) ?_
              refine jx_ld (pc_q := 99) (l_q := L6) (st_q := [.int (i32 (r2)), .int (i32 (p)), .ref 66]) rfl (jl_iload gL6_4) ?_
              refine jx_ar (pc_q := 100) (st_q := [.int (i32 (1)), .int (i32 (r2)), .int (i32 (p)), .ref 66]) rfl rfl rfl rfl ?_
              refine jx_shr (pc_q := 101) rfl rfl ?_
              obtain ⟨b165, eb165⟩ : ∃ z, z = (i32 (r2) >>> (i32 (1) &&& 31)).toInt := ⟨_, rfl⟩
              rw [← eb165]
              have rb165 : (-2147483648 : Int) ≤ b165 ∧ b165 ≤ 2147483647 := eb165 ▸ i32_rg _
              have hb165 := (show b165 = (i32 r2 >>> (i32 1 &&& 31)).toInt from eb165).trans (shr_1 (by omega) (by omega))
              refine jx_ar (pc_q := 102) (st_q := [.int (i32 (3)), .int (i32 (b165)), .int (i32 (p)), .ref 66]) rfl rfl rfl rfl ?_
              refine jx_sub (pc_q := 103) rfl rfl ?_
              refine jx_vr (pc_q := 106) (as := [.int (i32 (p)), .int (i32 ((b165 - 3)))]) (st := []) rfl rfl rfl rfl ⟨rfl, rfl, Nat.le_of_ble_eq_true rfl⟩ rfl rfl (c_load (dd := d) (hd := by omega) (hW := hW27) (p := p) (a := (b165 - 3))   (h_p := ⟨(Int.le_trans (by decide : (-2147483648 : Int) ≤ -2147483648) h_p.1), (Int.le_trans h_p.2 (by decide : (2147483647 : Int) ≤ 2147483647))⟩) (h_a := ⟨(by omega), (by omega)⟩)  (p_0 := by omega) (p_1 := by omega)) (fun o V_q hq => ?_)
              obtain ⟨r166, rfl, rfl, b167, p168, -⟩ := hq
              refine .inr ⟨_, rfl, ?_⟩
              refine jx_if_ne (pc_q := 109) (tg := 141) rfl rfl rfl (Int.le_trans (by decide : (-2147483648 : Int) ≤ -2147483648) b167.1) (Int.le_trans b167.2 (by decide : (2147483647 : Int) ≤ 2147483647)) (fun h170 => ?_) (fun h170 => ?_)
              · have _q := h170
                refine jx_ld (pc_q := 142) (l_q := L6) (st_q := [.ref 66]) rfl (jl_aloadn gL6_0) ?_
                refine jx_ld (pc_q := 143) (l_q := L6) (st_q := [.int (i32 (p)), .ref 66]) rfl (jl_iloadn gL6_1) ?_
                refine jx_ld (pc_q := 144) (l_q := L6) (st_q := [.ref 66, .int (i32 (p)), .ref 66]) rfl (jl_aloadn gL6_0) ?_
                refine jr_get (pc_q := 147) (i := 95) (v := .ref 131) rfl rfl (by decide) rfl rfl ?_
                refine jx_ld (pc_q := 148) (l_q := L6) (st_q := [.int (i32 (p)), .ref 131, .int (i32 (p)), .ref 66]) rfl (jl_iloadn gL6_1) ?_
                refine jr_ldv (pc_q := 149) (i := 64) (m := 6) (z := p) (y := rw) rfl (by decide) rfl (by decide) (by omega) (by omega) rfl (show A26 64 (p).toNat = rw from (congrFun (((congrFun eA26 64).trans (uA_ne (by decide))).trans (((congrFun eA22 64).trans (uA_ne (by decide))).trans (((congrFun eA18 64).trans (uA_ne (by decide))).trans ((congrFun eA14 64).trans (uA_ne (by decide)))))) _).trans (e_rw)) ?_
                refine jx_ar (pc_q := 150) (st_q := [.int (i32 (2)), .int (i32 (rw)), .int (i32 (p)), .ref 66]) rfl rfl rfl rfl ?_
                refine jx_sub (pc_q := 151) rfl rfl ?_
                refine jx_ld (pc_q := 152) (l_q := L6) (st_q := [.int (i32 (v)), .int (i32 ((rw - 2))), .int (i32 (p)), .ref 66]) rfl (jl_iloadn gL6_3) ?_
                refine jx_vr (pc_q := 155) (as := [.int (i32 (p)), .int (i32 ((rw - 2))), .int (i32 (v))]) (st := []) rfl rfl rfl rfl ⟨rfl, rfl, Nat.le_of_ble_eq_true rfl⟩ rfl rfl (c_store (dd := d) (hd := by omega) (hW := hW27) (p := p) (a := (rw - 2)) (v := v)   (h_p := ⟨(Int.le_trans (by decide : (-2147483648 : Int) ≤ -2147483648) h_p.1), (Int.le_trans h_p.2 (by decide : (2147483647 : Int) ≤ 2147483647))⟩) (h_a := ⟨(by omega), (by omega)⟩) (h_v := ⟨(Int.le_trans (by decide : (-2147483648 : Int) ≤ -2147483648) h_v.1), (Int.le_trans h_v.2 (by decide : (2147483647 : Int) ≤ 2147483647))⟩)  (p_0 := by omega) (p_1 := by omega)) (fun o V_q hq => ?_)
                obtain ⟨G171, A172, rfl, rfl, hW173, hF174, p175, -⟩ := hq
                have hF177 := Fr_tr hF28 hF174 (Fr_sub (by decide)) (Fr_sub (by decide))
                refine .inl ⟨rfl, ?_⟩
                refine jx_ld (pc_q := 156) (l_q := L6) (st_q := [.ref 66]) rfl (jl_aloadn gL6_0) ?_
                refine jx_ld (pc_q := 157) (l_q := L6) (st_q := [.int (i32 (p)), .ref 66]) rfl (jl_iloadn gL6_1) ?_
                refine jx_ld (pc_q := 158) (l_q := L6) (st_q := [.ref 66, .int (i32 (p)), .ref 66]) rfl (jl_aloadn gL6_0) ?_
                refine jr_get (pc_q := 161) (i := 95) (v := .ref 131) rfl rfl (by decide) rfl rfl ?_
                refine jx_ld (pc_q := 162) (l_q := L6) (st_q := [.int (i32 (p)), .ref 131, .int (i32 (p)), .ref 66]) rfl (jl_iloadn gL6_1) ?_
                refine jr_ldv (pc_q := 163) (i := 64) (m := 6) (z := p) (y := rw) rfl (by decide) rfl (by decide) (by omega) (by omega) rfl (show A172 64 (p).toNat = rw from (congrFun ((hF174.2 64 rfl).trans (((congrFun eA26 64).trans (uA_ne (by decide))).trans (((congrFun eA22 64).trans (uA_ne (by decide))).trans (((congrFun eA18 64).trans (uA_ne (by decide))).trans ((congrFun eA14 64).trans (uA_ne (by decide))))))) _).trans (e_rw)) ?_
                refine jx_ar (pc_q := 164) (st_q := [.int (i32 (3)), .int (i32 (rw)), .int (i32 (p)), .ref 66]) rfl rfl rfl rfl ?_
                refine jx_sub (pc_q := 165) rfl rfl ?_
                refine jx_ar (pc_q := 166) (st_q := [.int (i32 (0)), .int (i32 ((rw - 3))), .int (i32 (p)), .ref 66]) rfl rfl rfl rfl ?_
                refine jx_vr (pc_q := 169) (as := [.int (i32 (p)), .int (i32 ((rw - 3))), .int (i32 (0))]) (st := []) rfl rfl rfl rfl ⟨rfl, rfl, Nat.le_of_ble_eq_true rfl⟩ rfl rfl (c_store (dd := d) (hd := by omega) (hW := hW173) (p := p) (a := (rw - 3)) (v := 0)   (h_p := ⟨(Int.le_trans (by decide : (-2147483648 : Int) ≤ -2147483648) h_p.1), (Int.le_trans h_p.2 (by decide : (2147483647 : Int) ≤ 2147483647))⟩) (h_a := ⟨(by omega), (by omega)⟩) (h_v := ⟨(by decide), (by decide)⟩)  (p_0 := by omega) (p_1 := by omega)) (fun o V_q hq => ?_)
                obtain ⟨G178, A179, rfl, rfl, hW180, hF181, p182, -⟩ := hq
                have hF184 := Fr_tr hF177 hF181 (Fr_sub (by decide)) (Fr_sub (by decide))
                refine .inl ⟨rfl, ?_⟩
                refine jx_ld (pc_q := 170) (l_q := L6) (st_q := [.ref 66]) rfl (jl_aloadn gL6_0) ?_
                refine jx_ld (pc_q := 171) (l_q := L6) (st_q := [.int (i32 (p)), .ref 66]) rfl (jl_iloadn gL6_1) ?_
                refine jx_ld (pc_q := 172) (l_q := L6) (st_q := [.int (i32 (a)), .int (i32 (p)), .ref 66]) rfl (jl_iloadn gL6_2) ?_
                refine jx_ld (pc_q := 173) (l_q := L6) (st_q := [.ref 66, .int (i32 (a)), .int (i32 (p)), .ref 66]) rfl (jl_aloadn gL6_0) ?_
                refine jr_get (pc_q := 176) (i := 97) (v := .ref 133) rfl rfl (by decide) rfl rfl ?_
                refine jx_ld (pc_q := 177) (l_q := L6) (st_q := [.int (i32 (p)), .ref 133, .int (i32 (a)), .int (i32 (p)), .ref 66]) rfl (jl_iloadn gL6_1) ?_
                refine jr_ldv (pc_q := 178) (i := 66) (m := 6) (z := p) (y := rn) rfl (by decide) rfl (by decide) (by omega) (by omega) rfl (show A179 66 (p).toNat = rn from (congrFun ((hF181.2 66 rfl).trans ((hF174.2 66 rfl).trans (((congrFun eA26 66).trans (uA_ne (by decide))).trans (((congrFun eA22 66).trans (uA_ne (by decide))).trans (((congrFun eA18 66).trans (uA_ne (by decide))).trans ((congrFun eA14 66).trans (uA_ne (by decide)))))))) _).trans (e_rn)) ?_
                refine jx_vr (pc_q := 181) (as := [.int (i32 (p)), .int (i32 (a)), .int (i32 (rn))]) (st := []) rfl rfl rfl rfl ⟨rfl, rfl, Nat.le_of_ble_eq_true rfl⟩ rfl rfl (c_store (dd := d) (hd := by omega) (hW := hW180) (p := p) (a := a) (v := rn)   (h_p := ⟨(Int.le_trans (by decide : (-2147483648 : Int) ≤ -2147483648) h_p.1), (Int.le_trans h_p.2 (by decide : (2147483647 : Int) ≤ 2147483647))⟩) (h_a := ⟨(Int.le_trans (by decide : (-2147483648 : Int) ≤ -2147483648) h_a.1), (Int.le_trans h_a.2 (by decide : (2147483647 : Int) ≤ 2147483647))⟩) (h_v := ⟨(Int.le_trans (by decide : (-2147483648 : Int) ≤ -2147483648) b_rn.1), (Int.le_trans b_rn.2 (by decide : (2147483647 : Int) ≤ 2147483647))⟩)  (p_0 := by omega) (p_1 := by omega)) (fun o V_q hq => ?_)
                obtain ⟨G185, A186, rfl, rfl, hW187, hF188, p189, -⟩ := hq
                have hF191 := Fr_tr hF184 hF188 (Fr_sub (by decide)) (Fr_sub (by decide))
                refine .inl ⟨rfl, ?_⟩
                refine jx_ld (pc_q := 183) (l_q := L6) (st_q := [.int (i32 (r2))]) rfl (jl_iload gL6_4) ?_
                refine jx_ar (pc_q := 184) (st_q := [.int (i32 (-1)), .int (i32 (r2))]) rfl rfl rfl rfl ?_
                refine jx_icmp_eq (pc_q := 187) (tg := 202) rfl rfl rfl (Int.le_trans (by decide : (-2147483648 : Int) ≤ -2147483648) b3.1) (Int.le_trans b3.2 (by decide : (2147483647 : Int) ≤ 2147483647)) (by decide) (by decide) (fun h192 => ?_) (fun h192 => ?_)
                · have _q := h192
                  have hk193 : A186 64 (p).toNat = rw := (congrFun ((hF188.2 64 rfl).trans ((hF181.2 64 rfl).trans ((hF174.2 64 rfl).trans (((congrFun eA26 64).trans (uA_ne (by decide))).trans (((congrFun eA22 64).trans (uA_ne (by decide))).trans (((congrFun eA18 64).trans (uA_ne (by decide))).trans ((congrFun eA14 64).trans (uA_ne (by decide))))))))) _).trans (e_rw)
                  refine jx_ld (pc_q := 203) (l_q := L6) (st_q := [.ref 66]) rfl (jl_aloadn gL6_0) ?_
                  refine jx_ld (pc_q := 204) (l_q := L6) (st_q := [.int (i32 (p)), .ref 66]) rfl (jl_iloadn gL6_1) ?_
                  refine jx_vr (pc_q := 207) (as := [.int (i32 (p))]) (st := []) rfl rfl rfl rfl ⟨rfl, rfl, Nat.le_of_ble_eq_true rfl⟩ rfl rfl (c_wait0 (dd := d) (hd := by omega) (hW := hW187) (p := p)   (h_p := ⟨(Int.le_trans (by decide : (-2147483648 : Int) ≤ -2147483648) h_p.1), (Int.le_trans h_p.2 (by decide : (2147483647 : Int) ≤ 2147483647))⟩)  (p_0 := by omega) (p_1 := by omega) (p_2 := by omega)) (fun o V_q hq => ?_)
                  obtain ⟨G194, A195, rfl, rfl, hW196, hF197, p198, -⟩ := hq
                  have hF200 := Fr_tr hF191 hF197 (Fr_sub (by decide)) (Fr_sub (by decide))
                  refine .inl ⟨rfl, ?_⟩
                  refine jx_rt (v := none) rfl rfl rfl rfl rfl rfl ?_
                  exact ⟨_, _, om, rfl, rfl, hW196, hF200, ((hF197.1 113 rfl).trans ((hF188.1 113 rfl).trans ((hF181.1 113 rfl).trans ((hF174.1 113 rfl).trans (e_om))))), by omega, by omega, (by first | exact ouR_lnk _ _ _ _ _ _ _ _ _ _ (by omega) p4 e_rw e_rn eA14 eA18 eA22 eA26 p175 p182 p189 p198 | omega), trivial⟩
                · have _q := h192
                  refine jx_ld (pc_q := 188) (l_q := L6) (st_q := [.ref 66]) rfl (jl_aloadn gL6_0) ?_
                  refine jx_ld (pc_q := 189) (l_q := L6) (st_q := [.int (i32 (a)), .ref 66]) rfl (jl_iloadn gL6_2) ?_
                  refine jx_vr (pc_q := 192) (as := [.int (i32 (a))]) (st := []) rfl rfl rfl rfl ⟨rfl, rfl, Nat.le_of_ble_eq_true rfl⟩ rfl rfl (c_isOutside (dd := d) (hd := by omega) (hW := hW187) (a := a)   (h_a := ⟨(Int.le_trans (by decide : (-2147483648 : Int) ≤ -2147483648) h_a.1), (Int.le_trans h_a.2 (by decide : (2147483647 : Int) ≤ 2147483647))⟩)  ) (fun o V_q hq => ?_)
                  obtain ⟨r201, rfl, rfl, b202, q203⟩ := hq
                  refine .inr ⟨_, rfl, ?_⟩
                  rcases q203 with ⟨rfl, a204, a205⟩ | ⟨rfl, a206⟩
                  · have _q : True := trivial
                    refine jx_if_ne (pc_q := 195) (tg := 202) rfl rfl rfl (by decide) (by decide) (fun h207 => ?_) (fun h207 => ?_)
                    · have _q := h207
                      have hk208 : A186 64 (p).toNat = rw := (congrFun ((hF188.2 64 rfl).trans ((hF181.2 64 rfl).trans ((hF174.2 64 rfl).trans (((congrFun eA26 64).trans (uA_ne (by decide))).trans (((congrFun eA22 64).trans (uA_ne (by decide))).trans (((congrFun eA18 64).trans (uA_ne (by decide))).trans ((congrFun eA14 64).trans (uA_ne (by decide))))))))) _).trans (e_rw)
                      refine jx_ld (pc_q := 203) (l_q := L6) (st_q := [.ref 66]) rfl (jl_aloadn gL6_0) ?_
                      refine jx_ld (pc_q := 204) (l_q := L6) (st_q := [.int (i32 (p)), .ref 66]) rfl (jl_iloadn gL6_1) ?_
                      refine jx_vr (pc_q := 207) (as := [.int (i32 (p))]) (st := []) rfl rfl rfl rfl ⟨rfl, rfl, Nat.le_of_ble_eq_true rfl⟩ rfl rfl (c_wait0 (dd := d) (hd := by omega) (hW := hW187) (p := p)   (h_p := ⟨(Int.le_trans (by decide : (-2147483648 : Int) ≤ -2147483648) h_p.1), (Int.le_trans h_p.2 (by decide : (2147483647 : Int) ≤ 2147483647))⟩)  (p_0 := by omega) (p_1 := by omega) (p_2 := by omega)) (fun o V_q hq => ?_)
                      obtain ⟨G209, A210, rfl, rfl, hW211, hF212, p213, -⟩ := hq
                      have hF215 := Fr_tr hF191 hF212 (Fr_sub (by decide)) (Fr_sub (by decide))
                      refine .inl ⟨rfl, ?_⟩
                      refine jx_rt (v := none) rfl rfl rfl rfl rfl rfl ?_
                      exact ⟨_, _, om, rfl, rfl, hW211, hF215, ((hF212.1 113 rfl).trans ((hF188.1 113 rfl).trans ((hF181.1 113 rfl).trans ((hF174.1 113 rfl).trans (e_om))))), by omega, by omega, (by first | exact ouR_lnk _ _ _ _ _ _ _ _ _ _ (by omega) p4 e_rw e_rn eA14 eA18 eA22 eA26 p175 p182 p189 p213 | omega), trivial⟩
                    · have _q := h207
                      exact absurd h207 (by omega)
                  · have _q : True := trivial
                    refine jx_if_ne (pc_q := 195) (tg := 202) rfl rfl rfl (by decide) (by decide) (fun h216 => ?_) (fun h216 => ?_)
                    · have _q := h216
                      exact absurd h216 (by omega)
                    · have _q := h216
                      have hk217 : A186 64 (p).toNat = rw := (congrFun ((hF188.2 64 rfl).trans ((hF181.2 64 rfl).trans ((hF174.2 64 rfl).trans (((congrFun eA26 64).trans (uA_ne (by decide))).trans (((congrFun eA22 64).trans (uA_ne (by decide))).trans (((congrFun eA18 64).trans (uA_ne (by decide))).trans ((congrFun eA14 64).trans (uA_ne (by decide))))))))) _).trans (e_rw); have hk218 : A186 66 (p).toNat = rn := (congrFun ((hF188.2 66 rfl).trans ((hF181.2 66 rfl).trans ((hF174.2 66 rfl).trans (((congrFun eA26 66).trans (uA_ne (by decide))).trans (((congrFun eA22 66).trans (uA_ne (by decide))).trans (((congrFun eA18 66).trans (uA_ne (by decide))).trans ((congrFun eA14 66).trans (uA_ne (by decide))))))))) _).trans (e_rn)
                      refine jx_ld (pc_q := 196) (l_q := L6) (st_q := [.ref 66]) rfl (jl_aloadn gL6_0) ?_
                      refine jx_ld (pc_q := 197) (l_q := L6) (st_q := [.int (i32 (p)), .ref 66]) rfl (jl_iloadn gL6_1) ?_
                      refine jx_ld (pc_q := 199) (l_q := L6) (st_q := [.int (i32 (r2)), .int (i32 (p)), .ref 66]) rfl (jl_iload gL6_4) ?_
                      refine jx_vr (pc_q := 202) (as := [.int (i32 (p)), .int (i32 (r2))]) (st := []) rfl rfl rfl rfl ⟨rfl, rfl, Nat.le_of_ble_eq_true rfl⟩ rfl rfl (c_wake (dd := d) (hd := by omega) (hW := hW187) (p := p) (d2 := r2) (m0 := m0) (e_m0 := show A186 72 ((2 * p)).toNat = m0 from (congrFun ((hF188.2 72 rfl).trans ((hF181.2 72 rfl).trans ((hF174.2 72 rfl).trans (((congrFun eA26 72).trans (uA_ne (by decide))).trans (((congrFun eA22 72).trans (uA_ne (by decide))).trans (((congrFun eA18 72).trans (uA_ne (by decide))).trans ((congrFun eA14 72).trans (uA_ne (by decide))))))))) _).trans (e_m0)) (m1 := m1) (e_m1 := show A186 72 (((2 * p) + 1)).toNat = m1 from (congrFun ((hF188.2 72 rfl).trans ((hF181.2 72 rfl).trans ((hF174.2 72 rfl).trans (((congrFun eA26 72).trans (uA_ne (by decide))).trans (((congrFun eA22 72).trans (uA_ne (by decide))).trans (((congrFun eA18 72).trans (uA_ne (by decide))).trans ((congrFun eA14 72).trans (uA_ne (by decide))))))))) _).trans (e_m1))  (h_p := ⟨(Int.le_trans (by decide : (-2147483648 : Int) ≤ -2147483648) h_p.1), (Int.le_trans h_p.2 (by decide : (2147483647 : Int) ≤ 2147483647))⟩) (h_d2 := ⟨(Int.le_trans (by decide : (-2147483648 : Int) ≤ -2147483648) b3.1), (Int.le_trans b3.2 (by decide : (2147483647 : Int) ≤ 2147483647))⟩)  (p_0 := by omega) (p_1 := by omega) (p_2 := by omega) (p_3 := by omega) (p_4 := by omega) (p_5 := by omega)) (fun o V_q hq => ?_)
                      obtain ⟨G219, A220, rfl, rfl, hW221, hF222, p223, -⟩ := hq
                      have hF225 := Fr_tr hF191 hF222 (Fr_sub (by decide)) (Fr_sub (by decide))
                      refine .inl ⟨rfl, ?_⟩
                      have hk226 : A220 64 (p).toNat = rw := (congrFun (wk_o p223 (by rw [hk218]; omega) ⟨by decide, by decide, by decide⟩) _).trans hk217
                      refine jx_ld (pc_q := 203) (l_q := L6) (st_q := [.ref 66]) rfl (jl_aloadn gL6_0) ?_
                      refine jx_ld (pc_q := 204) (l_q := L6) (st_q := [.int (i32 (p)), .ref 66]) rfl (jl_iloadn gL6_1) ?_
                      refine jx_vr (pc_q := 207) (as := [.int (i32 (p))]) (st := []) rfl rfl rfl rfl ⟨rfl, rfl, Nat.le_of_ble_eq_true rfl⟩ rfl rfl (c_wait0 (dd := d) (hd := by omega) (hW := hW221) (p := p)   (h_p := ⟨(Int.le_trans (by decide : (-2147483648 : Int) ≤ -2147483648) h_p.1), (Int.le_trans h_p.2 (by decide : (2147483647 : Int) ≤ 2147483647))⟩)  (p_0 := by omega) (p_1 := by omega) (p_2 := by omega)) (fun o V_q hq => ?_)
                      obtain ⟨G227, A228, rfl, rfl, hW229, hF230, p231, -⟩ := hq
                      have hF233 := Fr_tr hF225 hF230 (Fr_sub (by decide)) (Fr_sub (by decide))
                      refine .inl ⟨rfl, ?_⟩
                      refine jx_rt (v := none) rfl rfl rfl rfl rfl rfl ?_
                      exact ⟨_, _, om, rfl, rfl, hW229, hF233, ((hF230.1 113 rfl).trans ((hF222.1 113 rfl).trans ((hF188.1 113 rfl).trans ((hF181.1 113 rfl).trans ((hF174.1 113 rfl).trans (e_om)))))), by omega, by omega, (by first | exact ouR_wak _ _ _ _ _ _ _ _ _ (by omega) p4 (by omega) hb165 p168 (by omega) e_rw e_rn p175 p182 p189 p223 p231 | omega), trivial⟩
              · have _q := h170
                refine jx_ld (pc_q := 110) (l_q := L6) (st_q := [.ref 66]) rfl (jl_aloadn gL6_0) ?_
                refine jx_ld (pc_q := 111) (l_q := L6) (st_q := [.int (i32 (p)), .ref 66]) rfl (jl_iloadn gL6_1) ?_
                refine jx_ld (pc_q := 112) (l_q := L6) (st_q := [.ref 66, .int (i32 (p)), .ref 66]) rfl (jl_aloadn gL6_0) ?_
                refine jx_ld (pc_q := 113) (l_q := L6) (st_q := [.int (i32 (p)), .ref 66, .int (i32 (p)), .ref 66]) rfl (jl_iloadn gL6_1) ?_
                refine jx_ld (pc_q := 115) (l_q := L6) (st_q := [.int (i32 (r2)), .int (i32 (p)), .ref 66, .int (i32 (p)), .ref 66]) rfl (jl_iload gL6_4) ?_
                refine jx_ar (pc_q := 116) (st_q := [.int (i32 (1)), .int (i32 (r2)), .int (i32 (p)), .ref 66, .int (i32 (p)), .ref 66]) rfl rfl rfl rfl ?_
                refine jx_shr (pc_q := 117) rfl rfl ?_
                obtain ⟨b234, eb234⟩ : ∃ z, z = (i32 (r2) >>> (i32 (1) &&& 31)).toInt := ⟨_, rfl⟩
                rw [← eb234]
                have rb234 : (-2147483648 : Int) ≤ b234 ∧ b234 ≤ 2147483647 := eb234 ▸ i32_rg _
                have hb234 := (show b234 = (i32 r2 >>> (i32 1 &&& 31)).toInt from eb234).trans (shr_1 (by omega) (by omega))
                refine jx_ar (pc_q := 118) (st_q := [.int (i32 (2)), .int (i32 (b234)), .int (i32 (p)), .ref 66, .int (i32 (p)), .ref 66]) rfl rfl rfl rfl ?_
                refine jx_sub (pc_q := 119) rfl rfl ?_
                refine jx_vr (pc_q := 122) (as := [.int (i32 (p)), .int (i32 ((b234 - 2)))]) (st := [.int (i32 (p)), .ref 66]) rfl rfl rfl rfl ⟨rfl, rfl, Nat.le_of_ble_eq_true rfl⟩ rfl rfl (c_load (dd := d) (hd := by omega) (hW := hW27) (p := p) (a := (b234 - 2))   (h_p := ⟨(Int.le_trans (by decide : (-2147483648 : Int) ≤ -2147483648) h_p.1), (Int.le_trans h_p.2 (by decide : (2147483647 : Int) ≤ 2147483647))⟩) (h_a := ⟨(by omega), (by omega)⟩)  (p_0 := by omega) (p_1 := by omega)) (fun o V_q hq => ?_)
                obtain ⟨r235, rfl, rfl, b236, p237, -⟩ := hq
                refine .inr ⟨_, rfl, ?_⟩
                refine jx_ld (pc_q := 123) (l_q := L6) (st_q := [.int (i32 (v)), .int (i32 (r235)), .int (i32 (p)), .ref 66]) rfl (jl_iloadn gL6_3) ?_
                refine jx_vr (pc_q := 126) (as := [.int (i32 (p)), .int (i32 (r235)), .int (i32 (v))]) (st := []) rfl rfl rfl rfl ⟨rfl, rfl, Nat.le_of_ble_eq_true rfl⟩ rfl rfl (c_store (dd := d) (hd := by omega) (hW := hW27) (p := p) (a := r235) (v := v)   (h_p := ⟨(Int.le_trans (by decide : (-2147483648 : Int) ≤ -2147483648) h_p.1), (Int.le_trans h_p.2 (by decide : (2147483647 : Int) ≤ 2147483647))⟩) (h_a := ⟨(Int.le_trans (by decide : (-2147483648 : Int) ≤ -2147483648) b236.1), (Int.le_trans b236.2 (by decide : (2147483647 : Int) ≤ 2147483647))⟩) (h_v := ⟨(Int.le_trans (by decide : (-2147483648 : Int) ≤ -2147483648) h_v.1), (Int.le_trans h_v.2 (by decide : (2147483647 : Int) ≤ 2147483647))⟩)  (p_0 := by omega) (p_1 := by omega)) (fun o V_q hq => ?_)
                obtain ⟨G239, A240, rfl, rfl, hW241, hF242, p243, -⟩ := hq
                have hF245 := Fr_tr hF28 hF242 (Fr_sub (by decide)) (Fr_sub (by decide))
                refine .inl ⟨rfl, ?_⟩
                refine jx_ld (pc_q := 127) (l_q := L6) (st_q := [.ref 66]) rfl (jl_aloadn gL6_0) ?_
                refine jx_ld (pc_q := 128) (l_q := L6) (st_q := [.int (i32 (p)), .ref 66]) rfl (jl_iloadn gL6_1) ?_
                refine jx_ld (pc_q := 129) (l_q := L6) (st_q := [.int (i32 (a)), .int (i32 (p)), .ref 66]) rfl (jl_iloadn gL6_2) ?_
                refine jx_ar (pc_q := 130) (st_q := [.int (i32 (-1)), .int (i32 (a)), .int (i32 (p)), .ref 66]) rfl rfl rfl rfl ?_
                refine jx_vr (pc_q := 133) (as := [.int (i32 (p)), .int (i32 (a)), .int (i32 (-1))]) (st := []) rfl rfl rfl rfl ⟨rfl, rfl, Nat.le_of_ble_eq_true rfl⟩ rfl rfl (c_store (dd := d) (hd := by omega) (hW := hW241) (p := p) (a := a) (v := -1)   (h_p := ⟨(Int.le_trans (by decide : (-2147483648 : Int) ≤ -2147483648) h_p.1), (Int.le_trans h_p.2 (by decide : (2147483647 : Int) ≤ 2147483647))⟩) (h_a := ⟨(Int.le_trans (by decide : (-2147483648 : Int) ≤ -2147483648) h_a.1), (Int.le_trans h_a.2 (by decide : (2147483647 : Int) ≤ 2147483647))⟩) (h_v := ⟨(by decide), (by decide)⟩)  (p_0 := by omega) (p_1 := by omega)) (fun o V_q hq => ?_)
                obtain ⟨G246, A247, rfl, rfl, hW248, hF249, p250, -⟩ := hq
                have hF252 := Fr_tr hF245 hF249 (Fr_sub (by decide)) (Fr_sub (by decide))
                refine .inl ⟨rfl, ?_⟩
                refine jx_ld (pc_q := 134) (l_q := L6) (st_q := [.ref 66]) rfl (jl_aloadn gL6_0) ?_
                refine jx_ld (pc_q := 135) (l_q := L6) (st_q := [.int (i32 (p)), .ref 66]) rfl (jl_iloadn gL6_1) ?_
                refine jx_ld (pc_q := 137) (l_q := L6) (st_q := [.int (i32 (r2)), .int (i32 (p)), .ref 66]) rfl (jl_iload gL6_4) ?_
                refine jx_vr (pc_q := 140) (as := [.int (i32 (p)), .int (i32 (r2))]) (st := []) rfl rfl rfl rfl ⟨rfl, rfl, Nat.le_of_ble_eq_true rfl⟩ rfl rfl (c_makeReady (dd := d) (hd := by omega) (hW := hW248) (p := p) (d2 := r2) (m0 := m0) (e_m0 := show A247 72 ((2 * p)).toNat = m0 from (congrFun ((hF249.2 72 rfl).trans ((hF242.2 72 rfl).trans (((congrFun eA26 72).trans (uA_ne (by decide))).trans (((congrFun eA22 72).trans (uA_ne (by decide))).trans (((congrFun eA18 72).trans (uA_ne (by decide))).trans ((congrFun eA14 72).trans (uA_ne (by decide)))))))) _).trans (e_m0)) (m1 := m1) (e_m1 := show A247 72 (((2 * p) + 1)).toNat = m1 from (congrFun ((hF249.2 72 rfl).trans ((hF242.2 72 rfl).trans (((congrFun eA26 72).trans (uA_ne (by decide))).trans (((congrFun eA22 72).trans (uA_ne (by decide))).trans (((congrFun eA18 72).trans (uA_ne (by decide))).trans ((congrFun eA14 72).trans (uA_ne (by decide)))))))) _).trans (e_m1))  (h_p := ⟨(Int.le_trans (by decide : (-2147483648 : Int) ≤ -2147483648) h_p.1), (Int.le_trans h_p.2 (by decide : (2147483647 : Int) ≤ 2147483647))⟩) (h_d2 := ⟨(Int.le_trans (by decide : (-2147483648 : Int) ≤ -2147483648) b3.1), (Int.le_trans b3.2 (by decide : (2147483647 : Int) ≤ 2147483647))⟩)  (p_0 := by omega) (p_1 := by omega) (p_2 := by omega) (p_3 := by omega) (p_4 := by omega) (p_5 := by omega)) (fun o V_q hq => ?_)
                obtain ⟨G253, A254, rfl, rfl, hW255, hF256, p257, -⟩ := hq
                have hF259 := Fr_tr hF252 hF256 (Fr_sub (by decide)) (Fr_sub (by decide))
                refine .inl ⟨rfl, ?_⟩
                refine jx_rt (v := none) rfl rfl rfl rfl rfl rfl ?_
                exact ⟨_, _, om, rfl, rfl, hW255, hF259, ((hF256.1 113 rfl).trans ((hF249.1 113 rfl).trans ((hF242.1 113 rfl).trans (e_om)))), by omega, by omega, (by first | exact ouR_giv _ _ _ _ _ _ _ (by omega) p4 (by omega) hb165 p168 (by omega) hb234 p237 p243 p250 p257 | omega), trivial⟩
    · have _q : True := trivial
      refine jx_if_eq (pc_q := 53) (tg := 81) rfl rfl rfl (by decide) (by decide) (fun h260 => ?_) (fun h260 => ?_)
      · have _q := h260
        refine jx_ld (pc_q := 83) (l_q := L6) (st_q := [.int (i32 (r2))]) rfl (jl_iload gL6_4) ?_
        refine jx_ar (pc_q := 84) (st_q := [.int (i32 (-1)), .int (i32 (r2))]) rfl rfl rfl rfl ?_
        refine jx_icmp_eq (pc_q := 87) (tg := 141) rfl rfl rfl (Int.le_trans (by decide : (-2147483648 : Int) ≤ -2147483648) b3.1) (Int.le_trans b3.2 (by decide : (2147483647 : Int) ≤ 2147483647)) (by decide) (by decide) (fun h261 => ?_) (fun h261 => ?_)
        · have _q := h261
          refine jx_ld (pc_q := 142) (l_q := L6) (st_q := [.ref 66]) rfl (jl_aloadn gL6_0) ?_
          refine jx_ld (pc_q := 143) (l_q := L6) (st_q := [.int (i32 (p)), .ref 66]) rfl (jl_iloadn gL6_1) ?_
          refine jx_ld (pc_q := 144) (l_q := L6) (st_q := [.ref 66, .int (i32 (p)), .ref 66]) rfl (jl_aloadn gL6_0) ?_
          refine jr_get (pc_q := 147) (i := 95) (v := .ref 131) rfl rfl (by decide) rfl rfl ?_
          refine jx_ld (pc_q := 148) (l_q := L6) (st_q := [.int (i32 (p)), .ref 131, .int (i32 (p)), .ref 66]) rfl (jl_iloadn gL6_1) ?_
          refine jr_ldv (pc_q := 149) (i := 64) (m := 6) (z := p) (y := rw) rfl (by decide) rfl (by decide) (by omega) (by omega) rfl (show A 64 (p).toNat = rw from (e_rw)) ?_
          refine jx_ar (pc_q := 150) (st_q := [.int (i32 (2)), .int (i32 (rw)), .int (i32 (p)), .ref 66]) rfl rfl rfl rfl ?_
          refine jx_sub (pc_q := 151) rfl rfl ?_
          refine jx_ld (pc_q := 152) (l_q := L6) (st_q := [.int (i32 (v)), .int (i32 ((rw - 2))), .int (i32 (p)), .ref 66]) rfl (jl_iloadn gL6_3) ?_
          refine jx_vr (pc_q := 155) (as := [.int (i32 (p)), .int (i32 ((rw - 2))), .int (i32 (v))]) (st := []) rfl rfl rfl rfl ⟨rfl, rfl, Nat.le_of_ble_eq_true rfl⟩ rfl rfl (c_store (dd := d) (hd := by omega) (hW := hW) (p := p) (a := (rw - 2)) (v := v)   (h_p := ⟨(Int.le_trans (by decide : (-2147483648 : Int) ≤ -2147483648) h_p.1), (Int.le_trans h_p.2 (by decide : (2147483647 : Int) ≤ 2147483647))⟩) (h_a := ⟨(by omega), (by omega)⟩) (h_v := ⟨(Int.le_trans (by decide : (-2147483648 : Int) ≤ -2147483648) h_v.1), (Int.le_trans h_v.2 (by decide : (2147483647 : Int) ≤ 2147483647))⟩)  (p_0 := by omega) (p_1 := by omega)) (fun o V_q hq => ?_)
          obtain ⟨G262, A263, rfl, rfl, hW264, hF265, p266, -⟩ := hq
          have hF268 := Fr_tr hF0 hF265 (Fr_sub (by decide)) (Fr_sub (by decide))
          refine .inl ⟨rfl, ?_⟩
          refine jx_ld (pc_q := 156) (l_q := L6) (st_q := [.ref 66]) rfl (jl_aloadn gL6_0) ?_
          refine jx_ld (pc_q := 157) (l_q := L6) (st_q := [.int (i32 (p)), .ref 66]) rfl (jl_iloadn gL6_1) ?_
          refine jx_ld (pc_q := 158) (l_q := L6) (st_q := [.ref 66, .int (i32 (p)), .ref 66]) rfl (jl_aloadn gL6_0) ?_
          refine jr_get (pc_q := 161) (i := 95) (v := .ref 131) rfl rfl (by decide) rfl rfl ?_
          refine jx_ld (pc_q := 162) (l_q := L6) (st_q := [.int (i32 (p)), .ref 131, .int (i32 (p)), .ref 66]) rfl (jl_iloadn gL6_1) ?_
          refine jr_ldv (pc_q := 163) (i := 64) (m := 6) (z := p) (y := rw) rfl (by decide) rfl (by decide) (by omega) (by omega) rfl (show A263 64 (p).toNat = rw from (congrFun (hF265.2 64 rfl) _).trans (e_rw)) ?_
          refine jx_ar (pc_q := 164) (st_q := [.int (i32 (3)), .int (i32 (rw)), .int (i32 (p)), .ref 66]) rfl rfl rfl rfl ?_
          refine jx_sub (pc_q := 165) rfl rfl ?_
          refine jx_ar (pc_q := 166) (st_q := [.int (i32 (0)), .int (i32 ((rw - 3))), .int (i32 (p)), .ref 66]) rfl rfl rfl rfl ?_
          refine jx_vr (pc_q := 169) (as := [.int (i32 (p)), .int (i32 ((rw - 3))), .int (i32 (0))]) (st := []) rfl rfl rfl rfl ⟨rfl, rfl, Nat.le_of_ble_eq_true rfl⟩ rfl rfl (c_store (dd := d) (hd := by omega) (hW := hW264) (p := p) (a := (rw - 3)) (v := 0)   (h_p := ⟨(Int.le_trans (by decide : (-2147483648 : Int) ≤ -2147483648) h_p.1), (Int.le_trans h_p.2 (by decide : (2147483647 : Int) ≤ 2147483647))⟩) (h_a := ⟨(by omega), (by omega)⟩) (h_v := ⟨(by decide), (by decide)⟩)  (p_0 := by omega) (p_1 := by omega)) (fun o V_q hq => ?_)
          obtain ⟨G269, A270, rfl, rfl, hW271, hF272, p273, -⟩ := hq
          have hF275 := Fr_tr hF268 hF272 (Fr_sub (by decide)) (Fr_sub (by decide))
          refine .inl ⟨rfl, ?_⟩
          refine jx_ld (pc_q := 170) (l_q := L6) (st_q := [.ref 66]) rfl (jl_aloadn gL6_0) ?_
          refine jx_ld (pc_q := 171) (l_q := L6) (st_q := [.int (i32 (p)), .ref 66]) rfl (jl_iloadn gL6_1) ?_
          refine jx_ld (pc_q := 172) (l_q := L6) (st_q := [.int (i32 (a)), .int (i32 (p)), .ref 66]) rfl (jl_iloadn gL6_2) ?_
          refine jx_ld (pc_q := 173) (l_q := L6) (st_q := [.ref 66, .int (i32 (a)), .int (i32 (p)), .ref 66]) rfl (jl_aloadn gL6_0) ?_
          refine jr_get (pc_q := 176) (i := 97) (v := .ref 133) rfl rfl (by decide) rfl rfl ?_
          refine jx_ld (pc_q := 177) (l_q := L6) (st_q := [.int (i32 (p)), .ref 133, .int (i32 (a)), .int (i32 (p)), .ref 66]) rfl (jl_iloadn gL6_1) ?_
          refine jr_ldv (pc_q := 178) (i := 66) (m := 6) (z := p) (y := rn) rfl (by decide) rfl (by decide) (by omega) (by omega) rfl (show A270 66 (p).toNat = rn from (congrFun ((hF272.2 66 rfl).trans (hF265.2 66 rfl)) _).trans (e_rn)) ?_
          refine jx_vr (pc_q := 181) (as := [.int (i32 (p)), .int (i32 (a)), .int (i32 (rn))]) (st := []) rfl rfl rfl rfl ⟨rfl, rfl, Nat.le_of_ble_eq_true rfl⟩ rfl rfl (c_store (dd := d) (hd := by omega) (hW := hW271) (p := p) (a := a) (v := rn)   (h_p := ⟨(Int.le_trans (by decide : (-2147483648 : Int) ≤ -2147483648) h_p.1), (Int.le_trans h_p.2 (by decide : (2147483647 : Int) ≤ 2147483647))⟩) (h_a := ⟨(Int.le_trans (by decide : (-2147483648 : Int) ≤ -2147483648) h_a.1), (Int.le_trans h_a.2 (by decide : (2147483647 : Int) ≤ 2147483647))⟩) (h_v := ⟨(Int.le_trans (by decide : (-2147483648 : Int) ≤ -2147483648) b_rn.1), (Int.le_trans b_rn.2 (by decide : (2147483647 : Int) ≤ 2147483647))⟩)  (p_0 := by omega) (p_1 := by omega)) (fun o V_q hq => ?_)
          obtain ⟨G276, A277, rfl, rfl, hW278, hF279, p280, -⟩ := hq
          have hF282 := Fr_tr hF275 hF279 (Fr_sub (by decide)) (Fr_sub (by decide))
          refine .inl ⟨rfl, ?_⟩
          refine jx_ld (pc_q := 183) (l_q := L6) (st_q := [.int (i32 (r2))]) rfl (jl_iload gL6_4) ?_
          refine jx_ar (pc_q := 184) (st_q := [.int (i32 (-1)), .int (i32 (r2))]) rfl rfl rfl rfl ?_
          refine jx_icmp_eq (pc_q := 187) (tg := 202) rfl rfl rfl (Int.le_trans (by decide : (-2147483648 : Int) ≤ -2147483648) b3.1) (Int.le_trans b3.2 (by decide : (2147483647 : Int) ≤ 2147483647)) (by decide) (by decide) (fun h283 => ?_) (fun h283 => ?_)
          · have _q := h283
            have hk284 : A277 64 (p).toNat = rw := (congrFun ((hF279.2 64 rfl).trans ((hF272.2 64 rfl).trans (hF265.2 64 rfl))) _).trans (e_rw)
            refine jx_ld (pc_q := 203) (l_q := L6) (st_q := [.ref 66]) rfl (jl_aloadn gL6_0) ?_
            refine jx_ld (pc_q := 204) (l_q := L6) (st_q := [.int (i32 (p)), .ref 66]) rfl (jl_iloadn gL6_1) ?_
            refine jx_vr (pc_q := 207) (as := [.int (i32 (p))]) (st := []) rfl rfl rfl rfl ⟨rfl, rfl, Nat.le_of_ble_eq_true rfl⟩ rfl rfl (c_wait0 (dd := d) (hd := by omega) (hW := hW278) (p := p)   (h_p := ⟨(Int.le_trans (by decide : (-2147483648 : Int) ≤ -2147483648) h_p.1), (Int.le_trans h_p.2 (by decide : (2147483647 : Int) ≤ 2147483647))⟩)  (p_0 := by omega) (p_1 := by omega) (p_2 := by omega)) (fun o V_q hq => ?_)
            obtain ⟨G285, A286, rfl, rfl, hW287, hF288, p289, -⟩ := hq
            have hF291 := Fr_tr hF282 hF288 (Fr_sub (by decide)) (Fr_sub (by decide))
            refine .inl ⟨rfl, ?_⟩
            refine jx_rt (v := none) rfl rfl rfl rfl rfl rfl ?_
            exact ⟨_, _, om, rfl, rfl, hW287, hF291, ((hF288.1 113 rfl).trans ((hF279.1 113 rfl).trans ((hF272.1 113 rfl).trans ((hF265.1 113 rfl).trans (e_om))))), by omega, by omega, (by first | exact ouR_wai _ _ _ _ _ _ (by omega) p4 (by omega) e_rw e_rn p266 p273 p280 p289 | omega), trivial⟩
          · have _q := h283
            refine jx_ld (pc_q := 188) (l_q := L6) (st_q := [.ref 66]) rfl (jl_aloadn gL6_0) ?_
            refine jx_ld (pc_q := 189) (l_q := L6) (st_q := [.int (i32 (a)), .ref 66]) rfl (jl_iloadn gL6_2) ?_
            refine jx_vr (pc_q := 192) (as := [.int (i32 (a))]) (st := []) rfl rfl rfl rfl ⟨rfl, rfl, Nat.le_of_ble_eq_true rfl⟩ rfl rfl (c_isOutside (dd := d) (hd := by omega) (hW := hW278) (a := a)   (h_a := ⟨(Int.le_trans (by decide : (-2147483648 : Int) ≤ -2147483648) h_a.1), (Int.le_trans h_a.2 (by decide : (2147483647 : Int) ≤ 2147483647))⟩)  ) (fun o V_q hq => ?_)
            obtain ⟨r292, rfl, rfl, b293, q294⟩ := hq
            refine .inr ⟨_, rfl, ?_⟩
            rcases q294 with ⟨rfl, a295, a296⟩ | ⟨rfl, a297⟩
            · have _q : True := trivial
              refine jx_if_ne (pc_q := 195) (tg := 202) rfl rfl rfl (by decide) (by decide) (fun h298 => ?_) (fun h298 => ?_)
              · have _q := h298
                have hk299 : A277 64 (p).toNat = rw := (congrFun ((hF279.2 64 rfl).trans ((hF272.2 64 rfl).trans (hF265.2 64 rfl))) _).trans (e_rw)
                refine jx_ld (pc_q := 203) (l_q := L6) (st_q := [.ref 66]) rfl (jl_aloadn gL6_0) ?_
                refine jx_ld (pc_q := 204) (l_q := L6) (st_q := [.int (i32 (p)), .ref 66]) rfl (jl_iloadn gL6_1) ?_
                refine jx_vr (pc_q := 207) (as := [.int (i32 (p))]) (st := []) rfl rfl rfl rfl ⟨rfl, rfl, Nat.le_of_ble_eq_true rfl⟩ rfl rfl (c_wait0 (dd := d) (hd := by omega) (hW := hW278) (p := p)   (h_p := ⟨(Int.le_trans (by decide : (-2147483648 : Int) ≤ -2147483648) h_p.1), (Int.le_trans h_p.2 (by decide : (2147483647 : Int) ≤ 2147483647))⟩)  (p_0 := by omega) (p_1 := by omega) (p_2 := by omega)) (fun o V_q hq => ?_)
                obtain ⟨G300, A301, rfl, rfl, hW302, hF303, p304, -⟩ := hq
                have hF306 := Fr_tr hF282 hF303 (Fr_sub (by decide)) (Fr_sub (by decide))
                refine .inl ⟨rfl, ?_⟩
                refine jx_rt (v := none) rfl rfl rfl rfl rfl rfl ?_
                exact ⟨_, _, om, rfl, rfl, hW302, hF306, ((hF303.1 113 rfl).trans ((hF279.1 113 rfl).trans ((hF272.1 113 rfl).trans ((hF265.1 113 rfl).trans (e_om))))), by omega, by omega, (by first | exact ouR_wai _ _ _ _ _ _ (by omega) p4 (by omega) e_rw e_rn p266 p273 p280 p304 | omega), trivial⟩
              · have _q := h298
                exact absurd h298 (by omega)
            · have _q : True := trivial
              refine jx_if_ne (pc_q := 195) (tg := 202) rfl rfl rfl (by decide) (by decide) (fun h307 => ?_) (fun h307 => ?_)
              · have _q := h307
                exact absurd h307 (by omega)
              · have _q := h307
                have hk308 : A277 64 (p).toNat = rw := (congrFun ((hF279.2 64 rfl).trans ((hF272.2 64 rfl).trans (hF265.2 64 rfl))) _).trans (e_rw); have hk309 : A277 66 (p).toNat = rn := (congrFun ((hF279.2 66 rfl).trans ((hF272.2 66 rfl).trans (hF265.2 66 rfl))) _).trans (e_rn)
                refine jx_ld (pc_q := 196) (l_q := L6) (st_q := [.ref 66]) rfl (jl_aloadn gL6_0) ?_
                refine jx_ld (pc_q := 197) (l_q := L6) (st_q := [.int (i32 (p)), .ref 66]) rfl (jl_iloadn gL6_1) ?_
                refine jx_ld (pc_q := 199) (l_q := L6) (st_q := [.int (i32 (r2)), .int (i32 (p)), .ref 66]) rfl (jl_iload gL6_4) ?_
                refine jx_vr (pc_q := 202) (as := [.int (i32 (p)), .int (i32 (r2))]) (st := []) rfl rfl rfl rfl ⟨rfl, rfl, Nat.le_of_ble_eq_true rfl⟩ rfl rfl (c_wake (dd := d) (hd := by omega) (hW := hW278) (p := p) (d2 := r2) (m0 := m0) (e_m0 := show A277 72 ((2 * p)).toNat = m0 from (congrFun ((hF279.2 72 rfl).trans ((hF272.2 72 rfl).trans (hF265.2 72 rfl))) _).trans (e_m0)) (m1 := m1) (e_m1 := show A277 72 (((2 * p) + 1)).toNat = m1 from (congrFun ((hF279.2 72 rfl).trans ((hF272.2 72 rfl).trans (hF265.2 72 rfl))) _).trans (e_m1))  (h_p := ⟨(Int.le_trans (by decide : (-2147483648 : Int) ≤ -2147483648) h_p.1), (Int.le_trans h_p.2 (by decide : (2147483647 : Int) ≤ 2147483647))⟩) (h_d2 := ⟨(Int.le_trans (by decide : (-2147483648 : Int) ≤ -2147483648) b3.1), (Int.le_trans b3.2 (by decide : (2147483647 : Int) ≤ 2147483647))⟩)  (p_0 := by omega) (p_1 := by omega) (p_2 := by omega) (p_3 := by omega) (p_4 := by omega) (p_5 := by omega)) (fun o V_q hq => ?_)
                obtain ⟨G310, A311, rfl, rfl, hW312, hF313, p314, -⟩ := hq
                have hF316 := Fr_tr hF282 hF313 (Fr_sub (by decide)) (Fr_sub (by decide))
                refine .inl ⟨rfl, ?_⟩
                have hk317 : A311 64 (p).toNat = rw := (congrFun (wk_o p314 (by rw [hk309]; omega) ⟨by decide, by decide, by decide⟩) _).trans hk308
                refine jx_ld (pc_q := 203) (l_q := L6) (st_q := [.ref 66]) rfl (jl_aloadn gL6_0) ?_
                refine jx_ld (pc_q := 204) (l_q := L6) (st_q := [.int (i32 (p)), .ref 66]) rfl (jl_iloadn gL6_1) ?_
                refine jx_vr (pc_q := 207) (as := [.int (i32 (p))]) (st := []) rfl rfl rfl rfl ⟨rfl, rfl, Nat.le_of_ble_eq_true rfl⟩ rfl rfl (c_wait0 (dd := d) (hd := by omega) (hW := hW312) (p := p)   (h_p := ⟨(Int.le_trans (by decide : (-2147483648 : Int) ≤ -2147483648) h_p.1), (Int.le_trans h_p.2 (by decide : (2147483647 : Int) ≤ 2147483647))⟩)  (p_0 := by omega) (p_1 := by omega) (p_2 := by omega)) (fun o V_q hq => ?_)
                obtain ⟨G318, A319, rfl, rfl, hW320, hF321, p322, -⟩ := hq
                have hF324 := Fr_tr hF316 hF321 (Fr_sub (by decide)) (Fr_sub (by decide))
                refine .inl ⟨rfl, ?_⟩
                refine jx_rt (v := none) rfl rfl rfl rfl rfl rfl ?_
                exact ⟨_, _, om, rfl, rfl, hW320, hF324, ((hF321.1 113 rfl).trans ((hF313.1 113 rfl).trans ((hF279.1 113 rfl).trans ((hF272.1 113 rfl).trans ((hF265.1 113 rfl).trans (e_om)))))), by omega, by omega, (by omega), trivial⟩
        · have _q := h261
          refine jx_ld (pc_q := 88) (l_q := L6) (st_q := [.ref 66]) rfl (jl_aloadn gL6_0) ?_
          refine jx_ld (pc_q := 89) (l_q := L6) (st_q := [.int (i32 (a)), .ref 66]) rfl (jl_iloadn gL6_2) ?_
          refine jx_vr (pc_q := 92) (as := [.int (i32 (a))]) (st := []) rfl rfl rfl rfl ⟨rfl, rfl, Nat.le_of_ble_eq_true rfl⟩ rfl rfl (c_isOutside (dd := d) (hd := by omega) (hW := hW) (a := a)   (h_a := ⟨(Int.le_trans (by decide : (-2147483648 : Int) ≤ -2147483648) h_a.1), (Int.le_trans h_a.2 (by decide : (2147483647 : Int) ≤ 2147483647))⟩)  ) (fun o V_q hq => ?_)
          obtain ⟨r325, rfl, rfl, b326, q327⟩ := hq
          refine .inr ⟨_, rfl, ?_⟩
          rcases q327 with ⟨rfl, a328, a329⟩ | ⟨rfl, a330⟩
          · have _q : True := trivial
            refine jx_if_ne (pc_q := 95) (tg := 141) rfl rfl rfl (by decide) (by decide) (fun h331 => ?_) (fun h331 => ?_)
            · have _q := h331
              refine jx_ld (pc_q := 142) (l_q := L6) (st_q := [.ref 66]) rfl (jl_aloadn gL6_0) ?_
              refine jx_ld (pc_q := 143) (l_q := L6) (st_q := [.int (i32 (p)), .ref 66]) rfl (jl_iloadn gL6_1) ?_
              refine jx_ld (pc_q := 144) (l_q := L6) (st_q := [.ref 66, .int (i32 (p)), .ref 66]) rfl (jl_aloadn gL6_0) ?_
              refine jr_get (pc_q := 147) (i := 95) (v := .ref 131) rfl rfl (by decide) rfl rfl ?_
              refine jx_ld (pc_q := 148) (l_q := L6) (st_q := [.int (i32 (p)), .ref 131, .int (i32 (p)), .ref 66]) rfl (jl_iloadn gL6_1) ?_
              refine jr_ldv (pc_q := 149) (i := 64) (m := 6) (z := p) (y := rw) rfl (by decide) rfl (by decide) (by omega) (by omega) rfl (show A 64 (p).toNat = rw from (e_rw)) ?_
              refine jx_ar (pc_q := 150) (st_q := [.int (i32 (2)), .int (i32 (rw)), .int (i32 (p)), .ref 66]) rfl rfl rfl rfl ?_
              refine jx_sub (pc_q := 151) rfl rfl ?_
              refine jx_ld (pc_q := 152) (l_q := L6) (st_q := [.int (i32 (v)), .int (i32 ((rw - 2))), .int (i32 (p)), .ref 66]) rfl (jl_iloadn gL6_3) ?_
              refine jx_vr (pc_q := 155) (as := [.int (i32 (p)), .int (i32 ((rw - 2))), .int (i32 (v))]) (st := []) rfl rfl rfl rfl ⟨rfl, rfl, Nat.le_of_ble_eq_true rfl⟩ rfl rfl (c_store (dd := d) (hd := by omega) (hW := hW) (p := p) (a := (rw - 2)) (v := v)   (h_p := ⟨(Int.le_trans (by decide : (-2147483648 : Int) ≤ -2147483648) h_p.1), (Int.le_trans h_p.2 (by decide : (2147483647 : Int) ≤ 2147483647))⟩) (h_a := ⟨(by omega), (by omega)⟩) (h_v := ⟨(Int.le_trans (by decide : (-2147483648 : Int) ≤ -2147483648) h_v.1), (Int.le_trans h_v.2 (by decide : (2147483647 : Int) ≤ 2147483647))⟩)  (p_0 := by omega) (p_1 := by omega)) (fun o V_q hq => ?_)
              obtain ⟨G332, A333, rfl, rfl, hW334, hF335, p336, -⟩ := hq
              have hF338 := Fr_tr hF0 hF335 (Fr_sub (by decide)) (Fr_sub (by decide))
              refine .inl ⟨rfl, ?_⟩
              refine jx_ld (pc_q := 156) (l_q := L6) (st_q := [.ref 66]) rfl (jl_aloadn gL6_0) ?_
              refine jx_ld (pc_q := 157) (l_q := L6) (st_q := [.int (i32 (p)), .ref 66]) rfl (jl_iloadn gL6_1) ?_
              refine jx_ld (pc_q := 158) (l_q := L6) (st_q := [.ref 66, .int (i32 (p)), .ref 66]) rfl (jl_aloadn gL6_0) ?_
              refine jr_get (pc_q := 161) (i := 95) (v := .ref 131) rfl rfl (by decide) rfl rfl ?_
              refine jx_ld (pc_q := 162) (l_q := L6) (st_q := [.int (i32 (p)), .ref 131, .int (i32 (p)), .ref 66]) rfl (jl_iloadn gL6_1) ?_
              refine jr_ldv (pc_q := 163) (i := 64) (m := 6) (z := p) (y := rw) rfl (by decide) rfl (by decide) (by omega) (by omega) rfl (show A333 64 (p).toNat = rw from (congrFun (hF335.2 64 rfl) _).trans (e_rw)) ?_
              refine jx_ar (pc_q := 164) (st_q := [.int (i32 (3)), .int (i32 (rw)), .int (i32 (p)), .ref 66]) rfl rfl rfl rfl ?_
              refine jx_sub (pc_q := 165) rfl rfl ?_
              refine jx_ar (pc_q := 166) (st_q := [.int (i32 (0)), .int (i32 ((rw - 3))), .int (i32 (p)), .ref 66]) rfl rfl rfl rfl ?_
              refine jx_vr (pc_q := 169) (as := [.int (i32 (p)), .int (i32 ((rw - 3))), .int (i32 (0))]) (st := []) rfl rfl rfl rfl ⟨rfl, rfl, Nat.le_of_ble_eq_true rfl⟩ rfl rfl (c_store (dd := d) (hd := by omega) (hW := hW334) (p := p) (a := (rw - 3)) (v := 0)   (h_p := ⟨(Int.le_trans (by decide : (-2147483648 : Int) ≤ -2147483648) h_p.1), (Int.le_trans h_p.2 (by decide : (2147483647 : Int) ≤ 2147483647))⟩) (h_a := ⟨(by omega), (by omega)⟩) (h_v := ⟨(by decide), (by decide)⟩)  (p_0 := by omega) (p_1 := by omega)) (fun o V_q hq => ?_)
              obtain ⟨G339, A340, rfl, rfl, hW341, hF342, p343, -⟩ := hq
              have hF345 := Fr_tr hF338 hF342 (Fr_sub (by decide)) (Fr_sub (by decide))
              refine .inl ⟨rfl, ?_⟩
              refine jx_ld (pc_q := 170) (l_q := L6) (st_q := [.ref 66]) rfl (jl_aloadn gL6_0) ?_
              refine jx_ld (pc_q := 171) (l_q := L6) (st_q := [.int (i32 (p)), .ref 66]) rfl (jl_iloadn gL6_1) ?_
              refine jx_ld (pc_q := 172) (l_q := L6) (st_q := [.int (i32 (a)), .int (i32 (p)), .ref 66]) rfl (jl_iloadn gL6_2) ?_
              refine jx_ld (pc_q := 173) (l_q := L6) (st_q := [.ref 66, .int (i32 (a)), .int (i32 (p)), .ref 66]) rfl (jl_aloadn gL6_0) ?_
              refine jr_get (pc_q := 176) (i := 97) (v := .ref 133) rfl rfl (by decide) rfl rfl ?_
              refine jx_ld (pc_q := 177) (l_q := L6) (st_q := [.int (i32 (p)), .ref 133, .int (i32 (a)), .int (i32 (p)), .ref 66]) rfl (jl_iloadn gL6_1) ?_
              refine jr_ldv (pc_q := 178) (i := 66) (m := 6) (z := p) (y := rn) rfl (by decide) rfl (by decide) (by omega) (by omega) rfl (show A340 66 (p).toNat = rn from (congrFun ((hF342.2 66 rfl).trans (hF335.2 66 rfl)) _).trans (e_rn)) ?_
              refine jx_vr (pc_q := 181) (as := [.int (i32 (p)), .int (i32 (a)), .int (i32 (rn))]) (st := []) rfl rfl rfl rfl ⟨rfl, rfl, Nat.le_of_ble_eq_true rfl⟩ rfl rfl (c_store (dd := d) (hd := by omega) (hW := hW341) (p := p) (a := a) (v := rn)   (h_p := ⟨(Int.le_trans (by decide : (-2147483648 : Int) ≤ -2147483648) h_p.1), (Int.le_trans h_p.2 (by decide : (2147483647 : Int) ≤ 2147483647))⟩) (h_a := ⟨(Int.le_trans (by decide : (-2147483648 : Int) ≤ -2147483648) h_a.1), (Int.le_trans h_a.2 (by decide : (2147483647 : Int) ≤ 2147483647))⟩) (h_v := ⟨(Int.le_trans (by decide : (-2147483648 : Int) ≤ -2147483648) b_rn.1), (Int.le_trans b_rn.2 (by decide : (2147483647 : Int) ≤ 2147483647))⟩)  (p_0 := by omega) (p_1 := by omega)) (fun o V_q hq => ?_)
              obtain ⟨G346, A347, rfl, rfl, hW348, hF349, p350, -⟩ := hq
              have hF352 := Fr_tr hF345 hF349 (Fr_sub (by decide)) (Fr_sub (by decide))
              refine .inl ⟨rfl, ?_⟩
              refine jx_ld (pc_q := 183) (l_q := L6) (st_q := [.int (i32 (r2))]) rfl (jl_iload gL6_4) ?_
              refine jx_ar (pc_q := 184) (st_q := [.int (i32 (-1)), .int (i32 (r2))]) rfl rfl rfl rfl ?_
              refine jx_icmp_eq (pc_q := 187) (tg := 202) rfl rfl rfl (Int.le_trans (by decide : (-2147483648 : Int) ≤ -2147483648) b3.1) (Int.le_trans b3.2 (by decide : (2147483647 : Int) ≤ 2147483647)) (by decide) (by decide) (fun h353 => ?_) (fun h353 => ?_)
              · have _q := h353
                have hk354 : A347 64 (p).toNat = rw := (congrFun ((hF349.2 64 rfl).trans ((hF342.2 64 rfl).trans (hF335.2 64 rfl))) _).trans (e_rw)
                refine jx_ld (pc_q := 203) (l_q := L6) (st_q := [.ref 66]) rfl (jl_aloadn gL6_0) ?_
                refine jx_ld (pc_q := 204) (l_q := L6) (st_q := [.int (i32 (p)), .ref 66]) rfl (jl_iloadn gL6_1) ?_
                refine jx_vr (pc_q := 207) (as := [.int (i32 (p))]) (st := []) rfl rfl rfl rfl ⟨rfl, rfl, Nat.le_of_ble_eq_true rfl⟩ rfl rfl (c_wait0 (dd := d) (hd := by omega) (hW := hW348) (p := p)   (h_p := ⟨(Int.le_trans (by decide : (-2147483648 : Int) ≤ -2147483648) h_p.1), (Int.le_trans h_p.2 (by decide : (2147483647 : Int) ≤ 2147483647))⟩)  (p_0 := by omega) (p_1 := by omega) (p_2 := by omega)) (fun o V_q hq => ?_)
                obtain ⟨G355, A356, rfl, rfl, hW357, hF358, p359, -⟩ := hq
                have hF361 := Fr_tr hF352 hF358 (Fr_sub (by decide)) (Fr_sub (by decide))
                refine .inl ⟨rfl, ?_⟩
                refine jx_rt (v := none) rfl rfl rfl rfl rfl rfl ?_
                exact ⟨_, _, om, rfl, rfl, hW357, hF361, ((hF358.1 113 rfl).trans ((hF349.1 113 rfl).trans ((hF342.1 113 rfl).trans ((hF335.1 113 rfl).trans (e_om))))), by omega, by omega, (by first | exact ouR_wai _ _ _ _ _ _ (by omega) p4 (by omega) e_rw e_rn p336 p343 p350 p359 | omega), trivial⟩
              · have _q := h353
                refine jx_ld (pc_q := 188) (l_q := L6) (st_q := [.ref 66]) rfl (jl_aloadn gL6_0) ?_
                refine jx_ld (pc_q := 189) (l_q := L6) (st_q := [.int (i32 (a)), .ref 66]) rfl (jl_iloadn gL6_2) ?_
                refine jx_vr (pc_q := 192) (as := [.int (i32 (a))]) (st := []) rfl rfl rfl rfl ⟨rfl, rfl, Nat.le_of_ble_eq_true rfl⟩ rfl rfl (c_isOutside (dd := d) (hd := by omega) (hW := hW348) (a := a)   (h_a := ⟨(Int.le_trans (by decide : (-2147483648 : Int) ≤ -2147483648) h_a.1), (Int.le_trans h_a.2 (by decide : (2147483647 : Int) ≤ 2147483647))⟩)  ) (fun o V_q hq => ?_)
                obtain ⟨r362, rfl, rfl, b363, q364⟩ := hq
                refine .inr ⟨_, rfl, ?_⟩
                rcases q364 with ⟨rfl, a365, a366⟩ | ⟨rfl, a367⟩
                · have _q : True := trivial
                  refine jx_if_ne (pc_q := 195) (tg := 202) rfl rfl rfl (by decide) (by decide) (fun h368 => ?_) (fun h368 => ?_)
                  · have _q := h368
                    have hk369 : A347 64 (p).toNat = rw := (congrFun ((hF349.2 64 rfl).trans ((hF342.2 64 rfl).trans (hF335.2 64 rfl))) _).trans (e_rw)
                    refine jx_ld (pc_q := 203) (l_q := L6) (st_q := [.ref 66]) rfl (jl_aloadn gL6_0) ?_
                    refine jx_ld (pc_q := 204) (l_q := L6) (st_q := [.int (i32 (p)), .ref 66]) rfl (jl_iloadn gL6_1) ?_
                    refine jx_vr (pc_q := 207) (as := [.int (i32 (p))]) (st := []) rfl rfl rfl rfl ⟨rfl, rfl, Nat.le_of_ble_eq_true rfl⟩ rfl rfl (c_wait0 (dd := d) (hd := by omega) (hW := hW348) (p := p)   (h_p := ⟨(Int.le_trans (by decide : (-2147483648 : Int) ≤ -2147483648) h_p.1), (Int.le_trans h_p.2 (by decide : (2147483647 : Int) ≤ 2147483647))⟩)  (p_0 := by omega) (p_1 := by omega) (p_2 := by omega)) (fun o V_q hq => ?_)
                    obtain ⟨G370, A371, rfl, rfl, hW372, hF373, p374, -⟩ := hq
                    have hF376 := Fr_tr hF352 hF373 (Fr_sub (by decide)) (Fr_sub (by decide))
                    refine .inl ⟨rfl, ?_⟩
                    refine jx_rt (v := none) rfl rfl rfl rfl rfl rfl ?_
                    exact ⟨_, _, om, rfl, rfl, hW372, hF376, ((hF373.1 113 rfl).trans ((hF349.1 113 rfl).trans ((hF342.1 113 rfl).trans ((hF335.1 113 rfl).trans (e_om))))), by omega, by omega, (by first | exact ouR_wai _ _ _ _ _ _ (by omega) p4 (by omega) e_rw e_rn p336 p343 p350 p374 | omega), trivial⟩
                  · have _q := h368
                    exact absurd h368 (by omega)
                · have _q : True := trivial
                  refine jx_if_ne (pc_q := 195) (tg := 202) rfl rfl rfl (by decide) (by decide) (fun h377 => ?_) (fun h377 => ?_)
                  · have _q := h377
                    exact absurd h377 (by omega)
                  · have _q := h377
                    have hk378 : A347 64 (p).toNat = rw := (congrFun ((hF349.2 64 rfl).trans ((hF342.2 64 rfl).trans (hF335.2 64 rfl))) _).trans (e_rw); have hk379 : A347 66 (p).toNat = rn := (congrFun ((hF349.2 66 rfl).trans ((hF342.2 66 rfl).trans (hF335.2 66 rfl))) _).trans (e_rn)
                    refine jx_ld (pc_q := 196) (l_q := L6) (st_q := [.ref 66]) rfl (jl_aloadn gL6_0) ?_
                    refine jx_ld (pc_q := 197) (l_q := L6) (st_q := [.int (i32 (p)), .ref 66]) rfl (jl_iloadn gL6_1) ?_
                    refine jx_ld (pc_q := 199) (l_q := L6) (st_q := [.int (i32 (r2)), .int (i32 (p)), .ref 66]) rfl (jl_iload gL6_4) ?_
                    refine jx_vr (pc_q := 202) (as := [.int (i32 (p)), .int (i32 (r2))]) (st := []) rfl rfl rfl rfl ⟨rfl, rfl, Nat.le_of_ble_eq_true rfl⟩ rfl rfl (c_wake (dd := d) (hd := by omega) (hW := hW348) (p := p) (d2 := r2) (m0 := m0) (e_m0 := show A347 72 ((2 * p)).toNat = m0 from (congrFun ((hF349.2 72 rfl).trans ((hF342.2 72 rfl).trans (hF335.2 72 rfl))) _).trans (e_m0)) (m1 := m1) (e_m1 := show A347 72 (((2 * p) + 1)).toNat = m1 from (congrFun ((hF349.2 72 rfl).trans ((hF342.2 72 rfl).trans (hF335.2 72 rfl))) _).trans (e_m1))  (h_p := ⟨(Int.le_trans (by decide : (-2147483648 : Int) ≤ -2147483648) h_p.1), (Int.le_trans h_p.2 (by decide : (2147483647 : Int) ≤ 2147483647))⟩) (h_d2 := ⟨(Int.le_trans (by decide : (-2147483648 : Int) ≤ -2147483648) b3.1), (Int.le_trans b3.2 (by decide : (2147483647 : Int) ≤ 2147483647))⟩)  (p_0 := by omega) (p_1 := by omega) (p_2 := by omega) (p_3 := by omega) (p_4 := by omega) (p_5 := by omega)) (fun o V_q hq => ?_)
                    obtain ⟨G380, A381, rfl, rfl, hW382, hF383, p384, -⟩ := hq
                    have hF386 := Fr_tr hF352 hF383 (Fr_sub (by decide)) (Fr_sub (by decide))
                    refine .inl ⟨rfl, ?_⟩
                    have hk387 : A381 64 (p).toNat = rw := (congrFun (wk_o p384 (by rw [hk379]; omega) ⟨by decide, by decide, by decide⟩) _).trans hk378
                    refine jx_ld (pc_q := 203) (l_q := L6) (st_q := [.ref 66]) rfl (jl_aloadn gL6_0) ?_
                    refine jx_ld (pc_q := 204) (l_q := L6) (st_q := [.int (i32 (p)), .ref 66]) rfl (jl_iloadn gL6_1) ?_
                    refine jx_vr (pc_q := 207) (as := [.int (i32 (p))]) (st := []) rfl rfl rfl rfl ⟨rfl, rfl, Nat.le_of_ble_eq_true rfl⟩ rfl rfl (c_wait0 (dd := d) (hd := by omega) (hW := hW382) (p := p)   (h_p := ⟨(Int.le_trans (by decide : (-2147483648 : Int) ≤ -2147483648) h_p.1), (Int.le_trans h_p.2 (by decide : (2147483647 : Int) ≤ 2147483647))⟩)  (p_0 := by omega) (p_1 := by omega) (p_2 := by omega)) (fun o V_q hq => ?_)
                    obtain ⟨G388, A389, rfl, rfl, hW390, hF391, p392, -⟩ := hq
                    have hF394 := Fr_tr hF386 hF391 (Fr_sub (by decide)) (Fr_sub (by decide))
                    refine .inl ⟨rfl, ?_⟩
                    refine jx_rt (v := none) rfl rfl rfl rfl rfl rfl ?_
                    exact ⟨_, _, om, rfl, rfl, hW390, hF394, ((hF391.1 113 rfl).trans ((hF383.1 113 rfl).trans ((hF349.1 113 rfl).trans ((hF342.1 113 rfl).trans ((hF335.1 113 rfl).trans (e_om)))))), by omega, by omega, (by omega), trivial⟩
            · have _q := h331
              exact absurd h331 (by omega)
          · have _q : True := trivial
            refine jx_if_ne (pc_q := 95) (tg := 141) rfl rfl rfl (by decide) (by decide) (fun h395 => ?_) (fun h395 => ?_)
            · have _q := h395
              exact absurd h395 (by omega)
            · have _q := h395
              refine jx_ld (pc_q := 96) (l_q := L6) (st_q := [.ref 66]) rfl (jl_aloadn gL6_0) ?_
              refine jx_ld (pc_q := 97) (l_q := L6) (st_q := [.int (i32 (p)), .ref 66]) rfl (jl_iloadn gL6_1) ?_
              refine jx_ld (pc_q := 99) (l_q := L6) (st_q := [.int (i32 (r2)), .int (i32 (p)), .ref 66]) rfl (jl_iload gL6_4) ?_
              refine jx_ar (pc_q := 100) (st_q := [.int (i32 (1)), .int (i32 (r2)), .int (i32 (p)), .ref 66]) rfl rfl rfl rfl ?_
              refine jx_shr (pc_q := 101) rfl rfl ?_
              obtain ⟨b396, eb396⟩ : ∃ z, z = (i32 (r2) >>> (i32 (1) &&& 31)).toInt := ⟨_, rfl⟩
              rw [← eb396]
              have rb396 : (-2147483648 : Int) ≤ b396 ∧ b396 ≤ 2147483647 := eb396 ▸ i32_rg _
              have hb396 := (show b396 = (i32 r2 >>> (i32 1 &&& 31)).toInt from eb396).trans (shr_1 (by omega) (by omega))
              refine jx_ar (pc_q := 102) (st_q := [.int (i32 (3)), .int (i32 (b396)), .int (i32 (p)), .ref 66]) rfl rfl rfl rfl ?_
              refine jx_sub (pc_q := 103) rfl rfl ?_
              refine jx_vr (pc_q := 106) (as := [.int (i32 (p)), .int (i32 ((b396 - 3)))]) (st := []) rfl rfl rfl rfl ⟨rfl, rfl, Nat.le_of_ble_eq_true rfl⟩ rfl rfl (c_load (dd := d) (hd := by omega) (hW := hW) (p := p) (a := (b396 - 3))   (h_p := ⟨(Int.le_trans (by decide : (-2147483648 : Int) ≤ -2147483648) h_p.1), (Int.le_trans h_p.2 (by decide : (2147483647 : Int) ≤ 2147483647))⟩) (h_a := ⟨(by omega), (by omega)⟩)  (p_0 := by omega) (p_1 := by omega)) (fun o V_q hq => ?_)
              obtain ⟨r397, rfl, rfl, b398, p399, -⟩ := hq
              refine .inr ⟨_, rfl, ?_⟩
              refine jx_if_ne (pc_q := 109) (tg := 141) rfl rfl rfl (Int.le_trans (by decide : (-2147483648 : Int) ≤ -2147483648) b398.1) (Int.le_trans b398.2 (by decide : (2147483647 : Int) ≤ 2147483647)) (fun h401 => ?_) (fun h401 => ?_)
              · have _q := h401
                refine jx_ld (pc_q := 142) (l_q := L6) (st_q := [.ref 66]) rfl (jl_aloadn gL6_0) ?_
                refine jx_ld (pc_q := 143) (l_q := L6) (st_q := [.int (i32 (p)), .ref 66]) rfl (jl_iloadn gL6_1) ?_
                refine jx_ld (pc_q := 144) (l_q := L6) (st_q := [.ref 66, .int (i32 (p)), .ref 66]) rfl (jl_aloadn gL6_0) ?_
                refine jr_get (pc_q := 147) (i := 95) (v := .ref 131) rfl rfl (by decide) rfl rfl ?_
                refine jx_ld (pc_q := 148) (l_q := L6) (st_q := [.int (i32 (p)), .ref 131, .int (i32 (p)), .ref 66]) rfl (jl_iloadn gL6_1) ?_
                refine jr_ldv (pc_q := 149) (i := 64) (m := 6) (z := p) (y := rw) rfl (by decide) rfl (by decide) (by omega) (by omega) rfl (show A 64 (p).toNat = rw from (e_rw)) ?_
                refine jx_ar (pc_q := 150) (st_q := [.int (i32 (2)), .int (i32 (rw)), .int (i32 (p)), .ref 66]) rfl rfl rfl rfl ?_
                refine jx_sub (pc_q := 151) rfl rfl ?_
                refine jx_ld (pc_q := 152) (l_q := L6) (st_q := [.int (i32 (v)), .int (i32 ((rw - 2))), .int (i32 (p)), .ref 66]) rfl (jl_iloadn gL6_3) ?_
                refine jx_vr (pc_q := 155) (as := [.int (i32 (p)), .int (i32 ((rw - 2))), .int (i32 (v))]) (st := []) rfl rfl rfl rfl ⟨rfl, rfl, Nat.le_of_ble_eq_true rfl⟩ rfl rfl (c_store (dd := d) (hd := by omega) (hW := hW) (p := p) (a := (rw - 2)) (v := v)   (h_p := ⟨(Int.le_trans (by decide : (-2147483648 : Int) ≤ -2147483648) h_p.1), (Int.le_trans h_p.2 (by decide : (2147483647 : Int) ≤ 2147483647))⟩) (h_a := ⟨(by omega), (by omega)⟩) (h_v := ⟨(Int.le_trans (by decide : (-2147483648 : Int) ≤ -2147483648) h_v.1), (Int.le_trans h_v.2 (by decide : (2147483647 : Int) ≤ 2147483647))⟩)  (p_0 := by omega) (p_1 := by omega)) (fun o V_q hq => ?_)
                obtain ⟨G402, A403, rfl, rfl, hW404, hF405, p406, -⟩ := hq
                have hF408 := Fr_tr hF0 hF405 (Fr_sub (by decide)) (Fr_sub (by decide))
                refine .inl ⟨rfl, ?_⟩
                refine jx_ld (pc_q := 156) (l_q := L6) (st_q := [.ref 66]) rfl (jl_aloadn gL6_0) ?_
                refine jx_ld (pc_q := 157) (l_q := L6) (st_q := [.int (i32 (p)), .ref 66]) rfl (jl_iloadn gL6_1) ?_
                refine jx_ld (pc_q := 158) (l_q := L6) (st_q := [.ref 66, .int (i32 (p)), .ref 66]) rfl (jl_aloadn gL6_0) ?_
                refine jr_get (pc_q := 161) (i := 95) (v := .ref 131) rfl rfl (by decide) rfl rfl ?_
                refine jx_ld (pc_q := 162) (l_q := L6) (st_q := [.int (i32 (p)), .ref 131, .int (i32 (p)), .ref 66]) rfl (jl_iloadn gL6_1) ?_
                refine jr_ldv (pc_q := 163) (i := 64) (m := 6) (z := p) (y := rw) rfl (by decide) rfl (by decide) (by omega) (by omega) rfl (show A403 64 (p).toNat = rw from (congrFun (hF405.2 64 rfl) _).trans (e_rw)) ?_
                refine jx_ar (pc_q := 164) (st_q := [.int (i32 (3)), .int (i32 (rw)), .int (i32 (p)), .ref 66]) rfl rfl rfl rfl ?_
                refine jx_sub (pc_q := 165) rfl rfl ?_
                refine jx_ar (pc_q := 166) (st_q := [.int (i32 (0)), .int (i32 ((rw - 3))), .int (i32 (p)), .ref 66]) rfl rfl rfl rfl ?_
                refine jx_vr (pc_q := 169) (as := [.int (i32 (p)), .int (i32 ((rw - 3))), .int (i32 (0))]) (st := []) rfl rfl rfl rfl ⟨rfl, rfl, Nat.le_of_ble_eq_true rfl⟩ rfl rfl (c_store (dd := d) (hd := by omega) (hW := hW404) (p := p) (a := (rw - 3)) (v := 0)   (h_p := ⟨(Int.le_trans (by decide : (-2147483648 : Int) ≤ -2147483648) h_p.1), (Int.le_trans h_p.2 (by decide : (2147483647 : Int) ≤ 2147483647))⟩) (h_a := ⟨(by omega), (by omega)⟩) (h_v := ⟨(by decide), (by decide)⟩)  (p_0 := by omega) (p_1 := by omega)) (fun o V_q hq => ?_)
                obtain ⟨G409, A410, rfl, rfl, hW411, hF412, p413, -⟩ := hq
                have hF415 := Fr_tr hF408 hF412 (Fr_sub (by decide)) (Fr_sub (by decide))
                refine .inl ⟨rfl, ?_⟩
                refine jx_ld (pc_q := 170) (l_q := L6) (st_q := [.ref 66]) rfl (jl_aloadn gL6_0) ?_
                refine jx_ld (pc_q := 171) (l_q := L6) (st_q := [.int (i32 (p)), .ref 66]) rfl (jl_iloadn gL6_1) ?_
                refine jx_ld (pc_q := 172) (l_q := L6) (st_q := [.int (i32 (a)), .int (i32 (p)), .ref 66]) rfl (jl_iloadn gL6_2) ?_
                refine jx_ld (pc_q := 173) (l_q := L6) (st_q := [.ref 66, .int (i32 (a)), .int (i32 (p)), .ref 66]) rfl (jl_aloadn gL6_0) ?_
                refine jr_get (pc_q := 176) (i := 97) (v := .ref 133) rfl rfl (by decide) rfl rfl ?_
                refine jx_ld (pc_q := 177) (l_q := L6) (st_q := [.int (i32 (p)), .ref 133, .int (i32 (a)), .int (i32 (p)), .ref 66]) rfl (jl_iloadn gL6_1) ?_
                refine jr_ldv (pc_q := 178) (i := 66) (m := 6) (z := p) (y := rn) rfl (by decide) rfl (by decide) (by omega) (by omega) rfl (show A410 66 (p).toNat = rn from (congrFun ((hF412.2 66 rfl).trans (hF405.2 66 rfl)) _).trans (e_rn)) ?_
                refine jx_vr (pc_q := 181) (as := [.int (i32 (p)), .int (i32 (a)), .int (i32 (rn))]) (st := []) rfl rfl rfl rfl ⟨rfl, rfl, Nat.le_of_ble_eq_true rfl⟩ rfl rfl (c_store (dd := d) (hd := by omega) (hW := hW411) (p := p) (a := a) (v := rn)   (h_p := ⟨(Int.le_trans (by decide : (-2147483648 : Int) ≤ -2147483648) h_p.1), (Int.le_trans h_p.2 (by decide : (2147483647 : Int) ≤ 2147483647))⟩) (h_a := ⟨(Int.le_trans (by decide : (-2147483648 : Int) ≤ -2147483648) h_a.1), (Int.le_trans h_a.2 (by decide : (2147483647 : Int) ≤ 2147483647))⟩) (h_v := ⟨(Int.le_trans (by decide : (-2147483648 : Int) ≤ -2147483648) b_rn.1), (Int.le_trans b_rn.2 (by decide : (2147483647 : Int) ≤ 2147483647))⟩)  (p_0 := by omega) (p_1 := by omega)) (fun o V_q hq => ?_)
                obtain ⟨G416, A417, rfl, rfl, hW418, hF419, p420, -⟩ := hq
                have hF422 := Fr_tr hF415 hF419 (Fr_sub (by decide)) (Fr_sub (by decide))
                refine .inl ⟨rfl, ?_⟩
                refine jx_ld (pc_q := 183) (l_q := L6) (st_q := [.int (i32 (r2))]) rfl (jl_iload gL6_4) ?_
                refine jx_ar (pc_q := 184) (st_q := [.int (i32 (-1)), .int (i32 (r2))]) rfl rfl rfl rfl ?_
                refine jx_icmp_eq (pc_q := 187) (tg := 202) rfl rfl rfl (Int.le_trans (by decide : (-2147483648 : Int) ≤ -2147483648) b3.1) (Int.le_trans b3.2 (by decide : (2147483647 : Int) ≤ 2147483647)) (by decide) (by decide) (fun h423 => ?_) (fun h423 => ?_)
                · have _q := h423
                  have hk424 : A417 64 (p).toNat = rw := (congrFun ((hF419.2 64 rfl).trans ((hF412.2 64 rfl).trans (hF405.2 64 rfl))) _).trans (e_rw)
                  refine jx_ld (pc_q := 203) (l_q := L6) (st_q := [.ref 66]) rfl (jl_aloadn gL6_0) ?_
                  refine jx_ld (pc_q := 204) (l_q := L6) (st_q := [.int (i32 (p)), .ref 66]) rfl (jl_iloadn gL6_1) ?_
                  refine jx_vr (pc_q := 207) (as := [.int (i32 (p))]) (st := []) rfl rfl rfl rfl ⟨rfl, rfl, Nat.le_of_ble_eq_true rfl⟩ rfl rfl (c_wait0 (dd := d) (hd := by omega) (hW := hW418) (p := p)   (h_p := ⟨(Int.le_trans (by decide : (-2147483648 : Int) ≤ -2147483648) h_p.1), (Int.le_trans h_p.2 (by decide : (2147483647 : Int) ≤ 2147483647))⟩)  (p_0 := by omega) (p_1 := by omega) (p_2 := by omega)) (fun o V_q hq => ?_)
                  obtain ⟨G425, A426, rfl, rfl, hW427, hF428, p429, -⟩ := hq
                  have hF431 := Fr_tr hF422 hF428 (Fr_sub (by decide)) (Fr_sub (by decide))
                  refine .inl ⟨rfl, ?_⟩
                  refine jx_rt (v := none) rfl rfl rfl rfl rfl rfl ?_
                  exact ⟨_, _, om, rfl, rfl, hW427, hF431, ((hF428.1 113 rfl).trans ((hF419.1 113 rfl).trans ((hF412.1 113 rfl).trans ((hF405.1 113 rfl).trans (e_om))))), by omega, by omega, (by first | exact ouR_wai _ _ _ _ _ _ (by omega) p4 (by omega) e_rw e_rn p406 p413 p420 p429 | omega), trivial⟩
                · have _q := h423
                  refine jx_ld (pc_q := 188) (l_q := L6) (st_q := [.ref 66]) rfl (jl_aloadn gL6_0) ?_
                  refine jx_ld (pc_q := 189) (l_q := L6) (st_q := [.int (i32 (a)), .ref 66]) rfl (jl_iloadn gL6_2) ?_
                  refine jx_vr (pc_q := 192) (as := [.int (i32 (a))]) (st := []) rfl rfl rfl rfl ⟨rfl, rfl, Nat.le_of_ble_eq_true rfl⟩ rfl rfl (c_isOutside (dd := d) (hd := by omega) (hW := hW418) (a := a)   (h_a := ⟨(Int.le_trans (by decide : (-2147483648 : Int) ≤ -2147483648) h_a.1), (Int.le_trans h_a.2 (by decide : (2147483647 : Int) ≤ 2147483647))⟩)  ) (fun o V_q hq => ?_)
                  obtain ⟨r432, rfl, rfl, b433, q434⟩ := hq
                  refine .inr ⟨_, rfl, ?_⟩
                  rcases q434 with ⟨rfl, a435, a436⟩ | ⟨rfl, a437⟩
                  · have _q : True := trivial
                    refine jx_if_ne (pc_q := 195) (tg := 202) rfl rfl rfl (by decide) (by decide) (fun h438 => ?_) (fun h438 => ?_)
                    · have _q := h438
                      have hk439 : A417 64 (p).toNat = rw := (congrFun ((hF419.2 64 rfl).trans ((hF412.2 64 rfl).trans (hF405.2 64 rfl))) _).trans (e_rw)
                      refine jx_ld (pc_q := 203) (l_q := L6) (st_q := [.ref 66]) rfl (jl_aloadn gL6_0) ?_
                      refine jx_ld (pc_q := 204) (l_q := L6) (st_q := [.int (i32 (p)), .ref 66]) rfl (jl_iloadn gL6_1) ?_
                      refine jx_vr (pc_q := 207) (as := [.int (i32 (p))]) (st := []) rfl rfl rfl rfl ⟨rfl, rfl, Nat.le_of_ble_eq_true rfl⟩ rfl rfl (c_wait0 (dd := d) (hd := by omega) (hW := hW418) (p := p)   (h_p := ⟨(Int.le_trans (by decide : (-2147483648 : Int) ≤ -2147483648) h_p.1), (Int.le_trans h_p.2 (by decide : (2147483647 : Int) ≤ 2147483647))⟩)  (p_0 := by omega) (p_1 := by omega) (p_2 := by omega)) (fun o V_q hq => ?_)
                      obtain ⟨G440, A441, rfl, rfl, hW442, hF443, p444, -⟩ := hq
                      have hF446 := Fr_tr hF422 hF443 (Fr_sub (by decide)) (Fr_sub (by decide))
                      refine .inl ⟨rfl, ?_⟩
                      refine jx_rt (v := none) rfl rfl rfl rfl rfl rfl ?_
                      exact ⟨_, _, om, rfl, rfl, hW442, hF446, ((hF443.1 113 rfl).trans ((hF419.1 113 rfl).trans ((hF412.1 113 rfl).trans ((hF405.1 113 rfl).trans (e_om))))), by omega, by omega, (by first | exact ouR_wai _ _ _ _ _ _ (by omega) p4 (by omega) e_rw e_rn p406 p413 p420 p444 | omega), trivial⟩
                    · have _q := h438
                      exact absurd h438 (by omega)
                  · have _q : True := trivial
                    refine jx_if_ne (pc_q := 195) (tg := 202) rfl rfl rfl (by decide) (by decide) (fun h447 => ?_) (fun h447 => ?_)
                    · have _q := h447
                      exact absurd h447 (by omega)
                    · have _q := h447
                      have hk448 : A417 64 (p).toNat = rw := (congrFun ((hF419.2 64 rfl).trans ((hF412.2 64 rfl).trans (hF405.2 64 rfl))) _).trans (e_rw); have hk449 : A417 66 (p).toNat = rn := (congrFun ((hF419.2 66 rfl).trans ((hF412.2 66 rfl).trans (hF405.2 66 rfl))) _).trans (e_rn)
                      refine jx_ld (pc_q := 196) (l_q := L6) (st_q := [.ref 66]) rfl (jl_aloadn gL6_0) ?_
                      refine jx_ld (pc_q := 197) (l_q := L6) (st_q := [.int (i32 (p)), .ref 66]) rfl (jl_iloadn gL6_1) ?_
                      refine jx_ld (pc_q := 199) (l_q := L6) (st_q := [.int (i32 (r2)), .int (i32 (p)), .ref 66]) rfl (jl_iload gL6_4) ?_
                      refine jx_vr (pc_q := 202) (as := [.int (i32 (p)), .int (i32 (r2))]) (st := []) rfl rfl rfl rfl ⟨rfl, rfl, Nat.le_of_ble_eq_true rfl⟩ rfl rfl (c_wake (dd := d) (hd := by omega) (hW := hW418) (p := p) (d2 := r2) (m0 := m0) (e_m0 := show A417 72 ((2 * p)).toNat = m0 from (congrFun ((hF419.2 72 rfl).trans ((hF412.2 72 rfl).trans (hF405.2 72 rfl))) _).trans (e_m0)) (m1 := m1) (e_m1 := show A417 72 (((2 * p) + 1)).toNat = m1 from (congrFun ((hF419.2 72 rfl).trans ((hF412.2 72 rfl).trans (hF405.2 72 rfl))) _).trans (e_m1))  (h_p := ⟨(Int.le_trans (by decide : (-2147483648 : Int) ≤ -2147483648) h_p.1), (Int.le_trans h_p.2 (by decide : (2147483647 : Int) ≤ 2147483647))⟩) (h_d2 := ⟨(Int.le_trans (by decide : (-2147483648 : Int) ≤ -2147483648) b3.1), (Int.le_trans b3.2 (by decide : (2147483647 : Int) ≤ 2147483647))⟩)  (p_0 := by omega) (p_1 := by omega) (p_2 := by omega) (p_3 := by omega) (p_4 := by omega) (p_5 := by omega)) (fun o V_q hq => ?_)
                      obtain ⟨G450, A451, rfl, rfl, hW452, hF453, p454, -⟩ := hq
                      have hF456 := Fr_tr hF422 hF453 (Fr_sub (by decide)) (Fr_sub (by decide))
                      refine .inl ⟨rfl, ?_⟩
                      have hk457 : A451 64 (p).toNat = rw := (congrFun (wk_o p454 (by rw [hk449]; omega) ⟨by decide, by decide, by decide⟩) _).trans hk448
                      refine jx_ld (pc_q := 203) (l_q := L6) (st_q := [.ref 66]) rfl (jl_aloadn gL6_0) ?_
                      refine jx_ld (pc_q := 204) (l_q := L6) (st_q := [.int (i32 (p)), .ref 66]) rfl (jl_iloadn gL6_1) ?_
                      refine jx_vr (pc_q := 207) (as := [.int (i32 (p))]) (st := []) rfl rfl rfl rfl ⟨rfl, rfl, Nat.le_of_ble_eq_true rfl⟩ rfl rfl (c_wait0 (dd := d) (hd := by omega) (hW := hW452) (p := p)   (h_p := ⟨(Int.le_trans (by decide : (-2147483648 : Int) ≤ -2147483648) h_p.1), (Int.le_trans h_p.2 (by decide : (2147483647 : Int) ≤ 2147483647))⟩)  (p_0 := by omega) (p_1 := by omega) (p_2 := by omega)) (fun o V_q hq => ?_)
                      obtain ⟨G458, A459, rfl, rfl, hW460, hF461, p462, -⟩ := hq
                      have hF464 := Fr_tr hF456 hF461 (Fr_sub (by decide)) (Fr_sub (by decide))
                      refine .inl ⟨rfl, ?_⟩
                      refine jx_rt (v := none) rfl rfl rfl rfl rfl rfl ?_
                      exact ⟨_, _, om, rfl, rfl, hW460, hF464, ((hF461.1 113 rfl).trans ((hF453.1 113 rfl).trans ((hF419.1 113 rfl).trans ((hF412.1 113 rfl).trans ((hF405.1 113 rfl).trans (e_om)))))), by omega, by omega, (by first | exact ouR_wak _ _ _ _ _ _ _ _ _ (by omega) p4 (by omega) hb396 p399 (by omega) e_rw e_rn p406 p413 p420 p454 p462 | omega), trivial⟩
              · have _q := h401
                refine jx_ld (pc_q := 110) (l_q := L6) (st_q := [.ref 66]) rfl (jl_aloadn gL6_0) ?_
                refine jx_ld (pc_q := 111) (l_q := L6) (st_q := [.int (i32 (p)), .ref 66]) rfl (jl_iloadn gL6_1) ?_
                refine jx_ld (pc_q := 112) (l_q := L6) (st_q := [.ref 66, .int (i32 (p)), .ref 66]) rfl (jl_aloadn gL6_0) ?_
                refine jx_ld (pc_q := 113) (l_q := L6) (st_q := [.int (i32 (p)), .ref 66, .int (i32 (p)), .ref 66]) rfl (jl_iloadn gL6_1) ?_
                refine jx_ld (pc_q := 115) (l_q := L6) (st_q := [.int (i32 (r2)), .int (i32 (p)), .ref 66, .int (i32 (p)), .ref 66]) rfl (jl_iload gL6_4) ?_
                refine jx_ar (pc_q := 116) (st_q := [.int (i32 (1)), .int (i32 (r2)), .int (i32 (p)), .ref 66, .int (i32 (p)), .ref 66]) rfl rfl rfl rfl ?_
                refine jx_shr (pc_q := 117) rfl rfl ?_
                obtain ⟨b465, eb465⟩ : ∃ z, z = (i32 (r2) >>> (i32 (1) &&& 31)).toInt := ⟨_, rfl⟩
                rw [← eb465]
                have rb465 : (-2147483648 : Int) ≤ b465 ∧ b465 ≤ 2147483647 := eb465 ▸ i32_rg _
                have hb465 := (show b465 = (i32 r2 >>> (i32 1 &&& 31)).toInt from eb465).trans (shr_1 (by omega) (by omega))
                refine jx_ar (pc_q := 118) (st_q := [.int (i32 (2)), .int (i32 (b465)), .int (i32 (p)), .ref 66, .int (i32 (p)), .ref 66]) rfl rfl rfl rfl ?_
                refine jx_sub (pc_q := 119) rfl rfl ?_
                refine jx_vr (pc_q := 122) (as := [.int (i32 (p)), .int (i32 ((b465 - 2)))]) (st := [.int (i32 (p)), .ref 66]) rfl rfl rfl rfl ⟨rfl, rfl, Nat.le_of_ble_eq_true rfl⟩ rfl rfl (c_load (dd := d) (hd := by omega) (hW := hW) (p := p) (a := (b465 - 2))   (h_p := ⟨(Int.le_trans (by decide : (-2147483648 : Int) ≤ -2147483648) h_p.1), (Int.le_trans h_p.2 (by decide : (2147483647 : Int) ≤ 2147483647))⟩) (h_a := ⟨(by omega), (by omega)⟩)  (p_0 := by omega) (p_1 := by omega)) (fun o V_q hq => ?_)
                obtain ⟨r466, rfl, rfl, b467, p468, -⟩ := hq
                refine .inr ⟨_, rfl, ?_⟩
                refine jx_ld (pc_q := 123) (l_q := L6) (st_q := [.int (i32 (v)), .int (i32 (r466)), .int (i32 (p)), .ref 66]) rfl (jl_iloadn gL6_3) ?_
                refine jx_vr (pc_q := 126) (as := [.int (i32 (p)), .int (i32 (r466)), .int (i32 (v))]) (st := []) rfl rfl rfl rfl ⟨rfl, rfl, Nat.le_of_ble_eq_true rfl⟩ rfl rfl (c_store (dd := d) (hd := by omega) (hW := hW) (p := p) (a := r466) (v := v)   (h_p := ⟨(Int.le_trans (by decide : (-2147483648 : Int) ≤ -2147483648) h_p.1), (Int.le_trans h_p.2 (by decide : (2147483647 : Int) ≤ 2147483647))⟩) (h_a := ⟨(Int.le_trans (by decide : (-2147483648 : Int) ≤ -2147483648) b467.1), (Int.le_trans b467.2 (by decide : (2147483647 : Int) ≤ 2147483647))⟩) (h_v := ⟨(Int.le_trans (by decide : (-2147483648 : Int) ≤ -2147483648) h_v.1), (Int.le_trans h_v.2 (by decide : (2147483647 : Int) ≤ 2147483647))⟩)  (p_0 := by omega) (p_1 := by omega)) (fun o V_q hq => ?_)
                obtain ⟨G470, A471, rfl, rfl, hW472, hF473, p474, -⟩ := hq
                have hF476 := Fr_tr hF0 hF473 (Fr_sub (by decide)) (Fr_sub (by decide))
                refine .inl ⟨rfl, ?_⟩
                refine jx_ld (pc_q := 127) (l_q := L6) (st_q := [.ref 66]) rfl (jl_aloadn gL6_0) ?_
                refine jx_ld (pc_q := 128) (l_q := L6) (st_q := [.int (i32 (p)), .ref 66]) rfl (jl_iloadn gL6_1) ?_
                refine jx_ld (pc_q := 129) (l_q := L6) (st_q := [.int (i32 (a)), .int (i32 (p)), .ref 66]) rfl (jl_iloadn gL6_2) ?_
                refine jx_ar (pc_q := 130) (st_q := [.int (i32 (-1)), .int (i32 (a)), .int (i32 (p)), .ref 66]) rfl rfl rfl rfl ?_
                refine jx_vr (pc_q := 133) (as := [.int (i32 (p)), .int (i32 (a)), .int (i32 (-1))]) (st := []) rfl rfl rfl rfl ⟨rfl, rfl, Nat.le_of_ble_eq_true rfl⟩ rfl rfl (c_store (dd := d) (hd := by omega) (hW := hW472) (p := p) (a := a) (v := -1)   (h_p := ⟨(Int.le_trans (by decide : (-2147483648 : Int) ≤ -2147483648) h_p.1), (Int.le_trans h_p.2 (by decide : (2147483647 : Int) ≤ 2147483647))⟩) (h_a := ⟨(Int.le_trans (by decide : (-2147483648 : Int) ≤ -2147483648) h_a.1), (Int.le_trans h_a.2 (by decide : (2147483647 : Int) ≤ 2147483647))⟩) (h_v := ⟨(by decide), (by decide)⟩)  (p_0 := by omega) (p_1 := by omega)) (fun o V_q hq => ?_)
                obtain ⟨G477, A478, rfl, rfl, hW479, hF480, p481, -⟩ := hq
                have hF483 := Fr_tr hF476 hF480 (Fr_sub (by decide)) (Fr_sub (by decide))
                refine .inl ⟨rfl, ?_⟩
                refine jx_ld (pc_q := 134) (l_q := L6) (st_q := [.ref 66]) rfl (jl_aloadn gL6_0) ?_
                refine jx_ld (pc_q := 135) (l_q := L6) (st_q := [.int (i32 (p)), .ref 66]) rfl (jl_iloadn gL6_1) ?_
                refine jx_ld (pc_q := 137) (l_q := L6) (st_q := [.int (i32 (r2)), .int (i32 (p)), .ref 66]) rfl (jl_iload gL6_4) ?_
                refine jx_vr (pc_q := 140) (as := [.int (i32 (p)), .int (i32 (r2))]) (st := []) rfl rfl rfl rfl ⟨rfl, rfl, Nat.le_of_ble_eq_true rfl⟩ rfl rfl (c_makeReady (dd := d) (hd := by omega) (hW := hW479) (p := p) (d2 := r2) (m0 := m0) (e_m0 := show A478 72 ((2 * p)).toNat = m0 from (congrFun ((hF480.2 72 rfl).trans (hF473.2 72 rfl)) _).trans (e_m0)) (m1 := m1) (e_m1 := show A478 72 (((2 * p) + 1)).toNat = m1 from (congrFun ((hF480.2 72 rfl).trans (hF473.2 72 rfl)) _).trans (e_m1))  (h_p := ⟨(Int.le_trans (by decide : (-2147483648 : Int) ≤ -2147483648) h_p.1), (Int.le_trans h_p.2 (by decide : (2147483647 : Int) ≤ 2147483647))⟩) (h_d2 := ⟨(Int.le_trans (by decide : (-2147483648 : Int) ≤ -2147483648) b3.1), (Int.le_trans b3.2 (by decide : (2147483647 : Int) ≤ 2147483647))⟩)  (p_0 := by omega) (p_1 := by omega) (p_2 := by omega) (p_3 := by omega) (p_4 := by omega) (p_5 := by omega)) (fun o V_q hq => ?_)
                obtain ⟨G484, A485, rfl, rfl, hW486, hF487, p488, -⟩ := hq
                have hF490 := Fr_tr hF483 hF487 (Fr_sub (by decide)) (Fr_sub (by decide))
                refine .inl ⟨rfl, ?_⟩
                refine jx_rt (v := none) rfl rfl rfl rfl rfl rfl ?_
                exact ⟨_, _, om, rfl, rfl, hW486, hF490, ((hF487.1 113 rfl).trans ((hF480.1 113 rfl).trans ((hF473.1 113 rfl).trans (e_om)))), by omega, by omega, (by first | exact ouR_giv _ _ _ _ _ _ _ (by omega) p4 (by omega) hb396 p399 (by omega) hb465 p468 p474 p481 p488 | omega), trivial⟩
      · have _q := h260
        exact absurd h260 (by omega)
  · have _q := h1
    refine jx_ld (pc_q := 7) (l_q := [(0, .ref 66), (1, .int (i32 (p))), (2, .int (i32 (a))), (3, .int (i32 (v)))]) (st_q := [.ref 66]) rfl (jl_aloadn rfl) ?_
    refine jr_get (pc_q := 10) (i := 113) (v := .int (i32 (om))) rfl rfl (by decide) (rFv_eq (by decide) (show G 113 = om from (e_om))) rfl ?_
    refine jx_ar (pc_q := 13) (st_q := [.int (i32 (1000)), .int (i32 (om))]) rfl rfl rfl rfl ?_
    refine jx_icmp_ge (pc_q := 16) (tg := 26) rfl rfl rfl (Int.le_trans (by decide : (-2147483648 : Int) ≤ -2147483648) b_om.1) (Int.le_trans b_om.2 (by decide : (2147483647 : Int) ≤ 2147483647)) (by decide) (by decide) (fun h491 => ?_) (fun h491 => ?_)
    · have _q := h491
      refine jx_ld (pc_q := 27) (l_q := [(0, .ref 66), (1, .int (i32 (p))), (2, .int (i32 (a))), (3, .int (i32 (v)))]) (st_q := [.ref 66]) rfl (jl_aloadn rfl) ?_
      refine jx_ar (pc_q := 28) (st_q := [.ref 66, .ref 66]) rfl rfl rfl rfl ?_
      refine jr_get (pc_q := 31) (i := 113) (v := .int (i32 (om))) rfl rfl (by decide) (rFv_eq (by decide) (show G 113 = om from (e_om))) rfl ?_
      refine jx_ar (pc_q := 32) (st_q := [.int (i32 (1)), .int (i32 (om)), .ref 66]) rfl rfl rfl rfl ?_
      refine jx_add (pc_q := 33) rfl rfl ?_
      refine jr_put (pc_q := 36) (i := 113) (z := (om + 1)) rfl rfl (by decide) rfl rfl rfl rfl rfl rfl ?_
      have hW492 : Wk (uG G 113 ((om + 1))) A := Wk_g hW (show (-2147483648 : Int) ≤ (om + 1) by omega) (show (om + 1) ≤ (2147483647 : Int) by omega)
      have hF493 := Fr_g (z := (om + 1)) (i := 113) hF0 (by decide)
      refine jx_rt (v := none) rfl rfl rfl rfl rfl rfl ?_
      exact ⟨_, _, (om + 1), rfl, rfl, hW492, hF493, rfl, by omega, by omega, (ouR_scr1 (by omega) rfl), trivial⟩
    · have _q := h491
      refine jx_ld (pc_q := 17) (l_q := [(0, .ref 66), (1, .int (i32 (p))), (2, .int (i32 (a))), (3, .int (i32 (v)))]) (st_q := [.ref 66]) rfl (jl_aloadn rfl) ?_
      refine jr_get (pc_q := 20) (i := 112) (v := .ref 146) rfl rfl (by decide) rfl rfl ?_
      refine jx_ld (pc_q := 21) (l_q := [(0, .ref 66), (1, .int (i32 (p))), (2, .int (i32 (a))), (3, .int (i32 (v)))]) (st_q := [.ref 66, .ref 146]) rfl (jl_aloadn rfl) ?_
      refine jr_get (pc_q := 24) (i := 113) (v := .int (i32 (om))) rfl rfl (by decide) (rFv_eq (by decide) (show G 113 = om from (e_om))) rfl ?_
      refine jx_ld (pc_q := 25) (l_q := [(0, .ref 66), (1, .int (i32 (p))), (2, .int (i32 (a))), (3, .int (i32 (v)))]) (st_q := [.int (i32 (v)), .int (i32 (om)), .ref 146]) rfl (jl_iloadn rfl) ?_
      refine jr_st (pc_q := 26) (i := 79) (m := 1000) (z := om) (y := v) rfl (by decide) rfl (by decide) (by omega) (by omega) rfl ?_
      have hW495 : Wk G (uA A 79 (om).toNat (v)) := Wk_a hW (show (-2147483648 : Int) ≤ v by omega) (show v ≤ (2147483647 : Int) by omega)
      have hF496 := Fr_a (z := v) (k := 79) (n := (om).toNat) hF0 (by decide)
      obtain ⟨A494, eA494⟩ : ∃ q, q = uA A 79 (om).toNat (v) := ⟨_, rfl⟩
      rw [← eA494]
      rw [← eA494] at hW495 hF496
      have q497 : A494 79 (om).toNat = v := by rw [eA494]; exact uA_eq
      refine jx_ld (pc_q := 27) (l_q := [(0, .ref 66), (1, .int (i32 (p))), (2, .int (i32 (a))), (3, .int (i32 (v)))]) (st_q := [.ref 66]) rfl (jl_aloadn rfl) ?_
      refine jx_ar (pc_q := 28) (st_q := [.ref 66, .ref 66]) rfl rfl rfl rfl ?_
      refine jr_get (pc_q := 31) (i := 113) (v := .int (i32 (om))) rfl rfl (by decide) (rFv_eq (by decide) (show G 113 = om from (e_om))) rfl ?_
      refine jx_ar (pc_q := 32) (st_q := [.int (i32 (1)), .int (i32 (om)), .ref 66]) rfl rfl rfl rfl ?_
      refine jx_add (pc_q := 33) rfl rfl ?_
      refine jr_put (pc_q := 36) (i := 113) (z := (om + 1)) rfl rfl (by decide) rfl rfl rfl rfl rfl rfl ?_
      have hW498 : Wk (uG G 113 ((om + 1))) A494 := Wk_g hW495 (show (-2147483648 : Int) ≤ (om + 1) by omega) (show (om + 1) ≤ (2147483647 : Int) by omega)
      have hF499 := Fr_g (z := (om + 1)) (i := 113) hF496 (by decide)
      refine jx_rt (v := none) rfl rfl rfl rfl rfl rfl ?_
      exact ⟨_, _, (om + 1), rfl, rfl, hW498, hF499, rfl, by omega, by omega, (ouR_scr2 (by omega) eA494), trivial⟩
set_option maxRecDepth 20000 in
set_option maxHeartbeats 4000000 in
theorem c_inWord {X : jX} {dd : Nat} {c0 c1 : jC} {G : Nat → Int} {A : Nat → Nat → Int} {T : jH} {p a t : Int} {m0 m1 rw rn it im : Int} (hd : 5 ≤ dd) (hW : Wk G A) (e_m0 : A 72 ((2 * p)).toNat = m0) (e_m1 : A 72 (((2 * p) + 1)).toNat = m1) (e_rw : A 64 (p).toNat = rw) (e_rn : A 66 (p).toNat = rn) (e_it : G 111 = it) (e_im : G 110 = im) (h_p : (-2147483648 : Int) ≤ p ∧ p ≤ 2147483647) (h_a : (-2147483648 : Int) ≤ a ∧ a ≤ 2147483647) (h_t : (-2147483648 : Int) ≤ t ∧ t ≤ 2147483647) (p_0 : 0 ≤ p) (p_1 : p ≤ 5) (p_2 : 0 ≤ m0) (p_3 : m0 ≤ 1099) (p_4 : 0 ≤ m1) (p_5 : m1 ≤ 1099) (p_6 : -1000000 ≤ rw) (p_7 : rw ≤ 1000000) (p_8 : 0 ≤ rn ∨ rn ≤ -2) (p_9 : 0 ≤ it) (p_10 : it ≤ im) (p_11 : im ≤ 200) : wk X dd 392 [.ref 66, .int (i32 p), .int (i32 a), .int (i32 t)] (rV c0 c1 G A T) (fun o V_q => ∃ (G_q : Nat → Int) (A_q : Nat → Nat → Int) (it2 : Int), V_q = rV c0 c1 G_q A_q T ∧ o = .inl none ∧ Wk G_q A_q ∧ Fr [111] [59, 60, 61, 62, 63, 64, 65, 66, 70, 71, 72, 73, 83, 84] G A G_q A_q ∧ G_q 111 = it2 ∧ (it ≤ it2) ∧ (it2 ≤ im) ∧ (inR A A_q (it) (im) (p) (a) (t)) ∧ True) := by
  obtain ⟨d, rfl⟩ : ∃ d, dd = d + 1 := ⟨dd - 1, by omega⟩
  refine wk_of (e := jm392) rfl (Nat.le_of_ble_eq_true rfl) ?_
  show wj X d jm392 (0, [(0, .ref 66), (1, .int (i32 (p))), (2, .int (i32 (a))), (3, .int (i32 (t)))], [], rV c0 c1 G A T) _
  have hF0 : Fr [111] [59, 60, 61, 62, 63, 64, 65, 66, 70, 71, 72, 73, 83, 84] G A G A := Fr_rf
  have b_m0 : (-2147483648 : Int) ≤ m0 ∧ m0 ≤ 2147483647 := e_m0 ▸ hW.2 72 _
  have b_m1 : (-2147483648 : Int) ≤ m1 ∧ m1 ≤ 2147483647 := e_m1 ▸ hW.2 72 _
  have b_rw : (-2147483648 : Int) ≤ rw ∧ rw ≤ 2147483647 := e_rw ▸ hW.2 64 _
  have b_rn : (-2147483648 : Int) ≤ rn ∧ rn ≤ 2147483647 := e_rn ▸ hW.2 66 _
  have b_it : (-2147483648 : Int) ≤ it ∧ it ≤ 2147483647 := e_it ▸ hW.1 111
  have b_im : (-2147483648 : Int) ≤ im ∧ im ≤ 2147483647 := e_im ▸ hW.1 110
  refine jx_ld (pc_q := 1) (l_q := [(0, .ref 66), (1, .int (i32 (p))), (2, .int (i32 (a))), (3, .int (i32 (t)))]) (st_q := [.int (i32 (a))]) rfl (jl_iloadn rfl) ?_
  refine jx_ar (pc_q := 3) (st_q := [.int (i32 (13)), .int (i32 (a))]) rfl rfl rfl rfl ?_
  refine jx_icmp_ne (pc_q := 6) (tg := 41) rfl rfl rfl (Int.le_trans (by decide : (-2147483648 : Int) ≤ -2147483648) h_a.1) (Int.le_trans h_a.2 (by decide : (2147483647 : Int) ≤ 2147483647)) (by decide) (by decide) (fun h1 => ?_) (fun h1 => ?_)
  · have _q := h1
    refine jx_ld (pc_q := 42) (l_q := [(0, .ref 66), (1, .int (i32 (p))), (2, .int (i32 (a))), (3, .int (i32 (t)))]) (st_q := [.ref 66]) rfl (jl_aloadn rfl) ?_
    refine jx_ld (pc_q := 43) (l_q := [(0, .ref 66), (1, .int (i32 (p))), (2, .int (i32 (a))), (3, .int (i32 (t)))]) (st_q := [.int (i32 (a)), .ref 66]) rfl (jl_iloadn rfl) ?_
    refine jx_vr (pc_q := 46) (as := [.int (i32 (a))]) (st := []) rfl rfl rfl rfl ⟨rfl, rfl, Nat.le_of_ble_eq_true rfl⟩ rfl rfl (c_isLinkIn (dd := d) (hd := by omega) (hW := hW) (a := a)   (h_a := ⟨(Int.le_trans (by decide : (-2147483648 : Int) ≤ -2147483648) h_a.1), (Int.le_trans h_a.2 (by decide : (2147483647 : Int) ≤ 2147483647))⟩)  ) (fun o V_q hq => ?_)
    obtain ⟨r2, rfl, rfl, b3, q4⟩ := hq
    refine .inr ⟨_, rfl, ?_⟩
    rcases q4 with ⟨rfl, a5, a6⟩ | ⟨rfl, a7⟩
    · have _q : True := trivial
      refine jx_if_eq (pc_q := 49) (tg := 84) rfl rfl rfl (by decide) (by decide) (fun h8 => ?_) (fun h8 => ?_)
      · have _q := h8
        exact absurd h8 (by omega)
      · have _q := h8
        refine jx_ld (pc_q := 50) (l_q := [(0, .ref 66), (1, .int (i32 (p))), (2, .int (i32 (a))), (3, .int (i32 (t)))]) (st_q := [.ref 66]) rfl (jl_aloadn rfl) ?_
        refine jx_ld (pc_q := 51) (l_q := [(0, .ref 66), (1, .int (i32 (p))), (2, .int (i32 (a))), (3, .int (i32 (t)))]) (st_q := [.int (i32 (a)), .ref 66]) rfl (jl_iloadn rfl) ?_
        refine jx_vr (pc_q := 54) (as := [.int (i32 (a))]) (st := []) rfl rfl rfl rfl ⟨rfl, rfl, Nat.le_of_ble_eq_true rfl⟩ rfl rfl (c_hasCome2 (dd := d) (hd := by omega) (hW := hW) (a := a) (it := it) (e_it := show G 111 = it from (e_it)) (im := im) (e_im := show G 110 = im from (e_im))  (h_a := ⟨(Int.le_trans (by decide : (-2147483648 : Int) ≤ -2147483648) h_a.1), (Int.le_trans h_a.2 (by decide : (2147483647 : Int) ≤ 2147483647))⟩)  ) (fun o V_q hq => ?_)
        obtain ⟨r9, rfl, rfl, b10, q11⟩ := hq
        refine .inr ⟨_, rfl, ?_⟩
        rcases q11 with ⟨rfl, a12⟩ | ⟨rfl, a13⟩
        · have _q : True := trivial
          refine jx_if_eq (pc_q := 57) (tg := 84) rfl rfl rfl (by decide) (by decide) (fun h14 => ?_) (fun h14 => ?_)
          · have _q := h14
            exact absurd h14 (by omega)
          · have _q := h14
            refine jx_ld (pc_q := 58) (l_q := [(0, .ref 66), (1, .int (i32 (p))), (2, .int (i32 (a))), (3, .int (i32 (t)))]) (st_q := [.ref 66]) rfl (jl_aloadn rfl) ?_
            refine jx_ld (pc_q := 59) (l_q := [(0, .ref 66), (1, .int (i32 (p))), (2, .int (i32 (a))), (3, .int (i32 (t)))]) (st_q := [.int (i32 (p)), .ref 66]) rfl (jl_iloadn rfl) ?_
            refine jx_ld (pc_q := 60) (l_q := [(0, .ref 66), (1, .int (i32 (p))), (2, .int (i32 (a))), (3, .int (i32 (t)))]) (st_q := [.int (i32 (t)), .int (i32 (p)), .ref 66]) rfl (jl_iloadn rfl) ?_
            refine jx_ld (pc_q := 61) (l_q := [(0, .ref 66), (1, .int (i32 (p))), (2, .int (i32 (a))), (3, .int (i32 (t)))]) (st_q := [.ref 66, .int (i32 (t)), .int (i32 (p)), .ref 66]) rfl (jl_aloadn rfl) ?_
            refine jr_get (pc_q := 64) (i := 115) (v := .ref 148) rfl rfl (by decide) rfl rfl ?_
            refine jx_ld (pc_q := 65) (l_q := [(0, .ref 66), (1, .int (i32 (p))), (2, .int (i32 (a))), (3, .int (i32 (t)))]) (st_q := [.int (i32 (a)), .ref 148, .int (i32 (t)), .int (i32 (p)), .ref 66]) rfl (jl_iloadn rfl) ?_
            have b15 : (-2147483648 : Int) ≤ A 81 (a).toNat ∧ A 81 (a).toNat ≤ 2147483647 := hW.2 81 _
            refine jr_ldv (pc_q := 66) (i := 81) (m := 12) (z := a) (y := A 81 (a).toNat) rfl (by decide) rfl (by decide) (by omega) (by omega) rfl (show A 81 (a).toNat = A 81 (a).toNat from rfl) ?_
            refine jx_vr (pc_q := 69) (as := [.int (i32 (p)), .int (i32 (t)), .int (i32 (A 81 (a).toNat))]) (st := []) rfl rfl rfl rfl ⟨rfl, rfl, Nat.le_of_ble_eq_true rfl⟩ rfl rfl (c_store (dd := d) (hd := by omega) (hW := hW) (p := p) (a := t) (v := A 81 (a).toNat)   (h_p := ⟨(Int.le_trans (by decide : (-2147483648 : Int) ≤ -2147483648) h_p.1), (Int.le_trans h_p.2 (by decide : (2147483647 : Int) ≤ 2147483647))⟩) (h_a := ⟨(Int.le_trans (by decide : (-2147483648 : Int) ≤ -2147483648) h_t.1), (Int.le_trans h_t.2 (by decide : (2147483647 : Int) ≤ 2147483647))⟩) (h_v := ⟨(Int.le_trans (by decide : (-2147483648 : Int) ≤ -2147483648) b15.1), (Int.le_trans b15.2 (by decide : (2147483647 : Int) ≤ 2147483647))⟩)  (p_0 := by omega) (p_1 := by omega)) (fun o V_q hq => ?_)
            obtain ⟨G16, A17, rfl, rfl, hW18, hF19, p20, -⟩ := hq
            have hF22 := Fr_tr hF0 hF19 (Fr_sub (by decide)) (Fr_sub (by decide))
            refine .inl ⟨rfl, ?_⟩
            refine jx_ld (pc_q := 70) (l_q := [(0, .ref 66), (1, .int (i32 (p))), (2, .int (i32 (a))), (3, .int (i32 (t)))]) (st_q := [.ref 66]) rfl (jl_aloadn rfl) ?_
            refine jr_get (pc_q := 73) (i := 117) (v := .ref 150) rfl rfl (by decide) rfl rfl ?_
            refine jx_ld (pc_q := 74) (l_q := [(0, .ref 66), (1, .int (i32 (p))), (2, .int (i32 (a))), (3, .int (i32 (t)))]) (st_q := [.int (i32 (a)), .ref 150]) rfl (jl_iloadn rfl) ?_
            refine jx_ar (pc_q := 75) (st_q := [.int (i32 (0)), .int (i32 (a)), .ref 150]) rfl rfl rfl rfl ?_
            refine jr_st (pc_q := 76) (i := 83) (m := 12) (z := a) (y := 0) rfl (by decide) rfl (by decide) (by omega) (by omega) rfl ?_
            have hW24 : Wk G16 (uA A17 83 (a).toNat (0)) := Wk_a hW18 (show (-2147483648 : Int) ≤ 0 by omega) (show 0 ≤ (2147483647 : Int) by omega)
            have hF25 := Fr_a (z := 0) (k := 83) (n := (a).toNat) hF22 (by decide)
            obtain ⟨A23, eA23⟩ : ∃ q, q = uA A17 83 (a).toNat (0) := ⟨_, rfl⟩
            rw [← eA23]
            rw [← eA23] at hW24 hF25
            have q26 : A23 83 (a).toNat = 0 := by rw [eA23]; exact uA_eq
            refine jx_ld (pc_q := 77) (l_q := [(0, .ref 66), (1, .int (i32 (p))), (2, .int (i32 (a))), (3, .int (i32 (t)))]) (st_q := [.ref 66]) rfl (jl_aloadn rfl) ?_
            refine jr_get (pc_q := 80) (i := 118) (v := .ref 151) rfl rfl (by decide) rfl rfl ?_
            refine jx_ld (pc_q := 81) (l_q := [(0, .ref 66), (1, .int (i32 (p))), (2, .int (i32 (a))), (3, .int (i32 (t)))]) (st_q := [.int (i32 (a)), .ref 151]) rfl (jl_iloadn rfl) ?_
            refine jx_ar (pc_q := 82) (st_q := [.int (i32 (1)), .int (i32 (a)), .ref 151]) rfl rfl rfl rfl ?_
            refine jr_sb (pc_q := 83) (i := 84) (m := 12) (z := a) (y := 1) rfl (by decide) rfl (by decide) (by omega) (by omega) (by omega) rfl ?_
            have hW28 : Wk G16 (uA A23 84 (a).toNat (1)) := Wk_a hW24 (show (0 : Int) ≤ 1 by omega) (show 1 ≤ (1 : Int) by omega)
            have hF29 := Fr_a (z := 1) (k := 84) (n := (a).toNat) hF25 (by decide)
            obtain ⟨A27, eA27⟩ : ∃ q, q = uA A23 84 (a).toNat (1) := ⟨_, rfl⟩
            rw [← eA27]
            rw [← eA27] at hW28 hF29
            have q30 : A27 84 (a).toNat = 1 := by rw [eA27]; exact uA_eq
            refine jx_rt (v := none) rfl rfl rfl rfl rfl rfl ?_
            exact ⟨_, _, it, rfl, rfl, hW28, hF29, ((hF19.1 111 rfl).trans (e_it)), by omega, by omega, (inR_lnk _ _ _ (by omega) (by have h9 := a12; unfold hcP at h9; omega) rfl p20 eA23 eA27), trivial⟩
        · have _q : True := trivial
          refine jx_if_eq (pc_q := 57) (tg := 84) rfl rfl rfl (by decide) (by decide) (fun h31 => ?_) (fun h31 => ?_)
          · have _q := h31
            refine jx_ld (pc_q := 85) (l_q := [(0, .ref 66), (1, .int (i32 (p))), (2, .int (i32 (a))), (3, .int (i32 (t)))]) (st_q := [.ref 66]) rfl (jl_aloadn rfl) ?_
            refine jx_ld (pc_q := 86) (l_q := [(0, .ref 66), (1, .int (i32 (p))), (2, .int (i32 (a))), (3, .int (i32 (t)))]) (st_q := [.int (i32 (p)), .ref 66]) rfl (jl_iloadn rfl) ?_
            refine jx_ld (pc_q := 87) (l_q := [(0, .ref 66), (1, .int (i32 (p))), (2, .int (i32 (a))), (3, .int (i32 (t)))]) (st_q := [.int (i32 (a)), .int (i32 (p)), .ref 66]) rfl (jl_iloadn rfl) ?_
            refine jx_vr (pc_q := 90) (as := [.int (i32 (p)), .int (i32 (a))]) (st := []) rfl rfl rfl rfl ⟨rfl, rfl, Nat.le_of_ble_eq_true rfl⟩ rfl rfl (c_load (dd := d) (hd := by omega) (hW := hW) (p := p) (a := a)   (h_p := ⟨(Int.le_trans (by decide : (-2147483648 : Int) ≤ -2147483648) h_p.1), (Int.le_trans h_p.2 (by decide : (2147483647 : Int) ≤ 2147483647))⟩) (h_a := ⟨(Int.le_trans (by decide : (-2147483648 : Int) ≤ -2147483648) h_a.1), (Int.le_trans h_a.2 (by decide : (2147483647 : Int) ≤ 2147483647))⟩)  (p_0 := by omega) (p_1 := by omega)) (fun o V_q hq => ?_)
            obtain ⟨r32, rfl, rfl, b33, p34, -⟩ := hq
            refine .inr ⟨_, rfl, ?_⟩
            refine jx_ld (pc_q := 92) (l_q := jSto1 [(0, .ref 66), (1, .int (i32 (p))), (2, .int (i32 (a))), (3, .int (i32 (t)))] 4 (.int (i32 (r32)))) (st_q := []) rfl rfl ?_
            obtain ⟨L36, eL36⟩ : ∃ q, q = jSto1 [(0, .ref 66), (1, .int (i32 (p))), (2, .int (i32 (a))), (3, .int (i32 (t)))] 4 (.int (i32 (r32))) := ⟨_, rfl⟩
            rw [← eL36]
            have gL36_0 : jGet L36 0 = some (.ref 66) := eL36 ▸ jg_ne (by decide) (rfl : jGet [(0, .ref 66), (1, .int (i32 (p))), (2, .int (i32 (a))), (3, .int (i32 (t)))] 0 = some (.ref 66)) rfl
            have gL36_1 : jGet L36 1 = some (.int (i32 (p))) := eL36 ▸ jg_ne (by decide) (rfl : jGet [(0, .ref 66), (1, .int (i32 (p))), (2, .int (i32 (a))), (3, .int (i32 (t)))] 1 = some (.int (i32 (p)))) rfl
            have gL36_2 : jGet L36 2 = some (.int (i32 (a))) := eL36 ▸ jg_ne (by decide) (rfl : jGet [(0, .ref 66), (1, .int (i32 (p))), (2, .int (i32 (a))), (3, .int (i32 (t)))] 2 = some (.int (i32 (a)))) rfl
            have gL36_3 : jGet L36 3 = some (.int (i32 (t))) := eL36 ▸ jg_ne (by decide) (rfl : jGet [(0, .ref 66), (1, .int (i32 (p))), (2, .int (i32 (a))), (3, .int (i32 (t)))] 3 = some (.int (i32 (t)))) rfl
            have gL36_4 : jGet L36 4 = some (.int (i32 (r32))) := eL36 ▸ jg_eq
            refine jx_ld (pc_q := 93) (l_q := L36) (st_q := [.ref 66]) rfl (jl_aloadn gL36_0) ?_
            refine jx_ld (pc_q := 94) (l_q := L36) (st_q := [.int (i32 (a)), .ref 66]) rfl (jl_iloadn gL36_2) ?_
            refine jx_vr (pc_q := 97) (as := [.int (i32 (a))]) (st := []) rfl rfl rfl rfl ⟨rfl, rfl, Nat.le_of_ble_eq_true rfl⟩ rfl rfl (c_isOutside (dd := d) (hd := by omega) (hW := hW) (a := a)   (h_a := ⟨(Int.le_trans (by decide : (-2147483648 : Int) ≤ -2147483648) h_a.1), (Int.le_trans h_a.2 (by decide : (2147483647 : Int) ≤ 2147483647))⟩)  ) (fun o V_q hq => ?_)
            obtain ⟨r37, rfl, rfl, b38, q39⟩ := hq
            refine .inr ⟨_, rfl, ?_⟩
            rcases q39 with ⟨rfl, a40, a41⟩ | ⟨rfl, a42⟩
            · have _q : True := trivial
              refine jx_if_ne (pc_q := 100) (tg := 138) rfl rfl rfl (by decide) (by decide) (fun h43 => ?_) (fun h43 => ?_)
              · have _q := h43
                refine jx_ld (pc_q := 139) (l_q := L36) (st_q := [.ref 66]) rfl (jl_aloadn gL36_0) ?_
                refine jx_ld (pc_q := 140) (l_q := L36) (st_q := [.int (i32 (p)), .ref 66]) rfl (jl_iloadn gL36_1) ?_
                refine jx_ld (pc_q := 141) (l_q := L36) (st_q := [.ref 66, .int (i32 (p)), .ref 66]) rfl (jl_aloadn gL36_0) ?_
                refine jr_get (pc_q := 144) (i := 95) (v := .ref 131) rfl rfl (by decide) rfl rfl ?_
                refine jx_ld (pc_q := 145) (l_q := L36) (st_q := [.int (i32 (p)), .ref 131, .int (i32 (p)), .ref 66]) rfl (jl_iloadn gL36_1) ?_
                refine jr_ldv (pc_q := 146) (i := 64) (m := 6) (z := p) (y := rw) rfl (by decide) rfl (by decide) (by omega) (by omega) rfl (show A 64 (p).toNat = rw from (e_rw)) ?_
                refine jx_ar (pc_q := 147) (st_q := [.int (i32 (2)), .int (i32 (rw)), .int (i32 (p)), .ref 66]) rfl rfl rfl rfl ?_
                refine jx_sub (pc_q := 148) rfl rfl ?_
                refine jx_ld (pc_q := 149) (l_q := L36) (st_q := [.int (i32 (t)), .int (i32 ((rw - 2))), .int (i32 (p)), .ref 66]) rfl (jl_iloadn gL36_3) ?_
                refine jx_vr (pc_q := 152) (as := [.int (i32 (p)), .int (i32 ((rw - 2))), .int (i32 (t))]) (st := []) rfl rfl rfl rfl ⟨rfl, rfl, Nat.le_of_ble_eq_true rfl⟩ rfl rfl (c_store (dd := d) (hd := by omega) (hW := hW) (p := p) (a := (rw - 2)) (v := t)   (h_p := ⟨(Int.le_trans (by decide : (-2147483648 : Int) ≤ -2147483648) h_p.1), (Int.le_trans h_p.2 (by decide : (2147483647 : Int) ≤ 2147483647))⟩) (h_a := ⟨(by omega), (by omega)⟩) (h_v := ⟨(Int.le_trans (by decide : (-2147483648 : Int) ≤ -2147483648) h_t.1), (Int.le_trans h_t.2 (by decide : (2147483647 : Int) ≤ 2147483647))⟩)  (p_0 := by omega) (p_1 := by omega)) (fun o V_q hq => ?_)
                obtain ⟨G44, A45, rfl, rfl, hW46, hF47, p48, -⟩ := hq
                have hF50 := Fr_tr hF0 hF47 (Fr_sub (by decide)) (Fr_sub (by decide))
                refine .inl ⟨rfl, ?_⟩
                refine jx_ld (pc_q := 153) (l_q := L36) (st_q := [.ref 66]) rfl (jl_aloadn gL36_0) ?_
                refine jx_ld (pc_q := 154) (l_q := L36) (st_q := [.int (i32 (p)), .ref 66]) rfl (jl_iloadn gL36_1) ?_
                refine jx_ld (pc_q := 155) (l_q := L36) (st_q := [.ref 66, .int (i32 (p)), .ref 66]) rfl (jl_aloadn gL36_0) ?_
                refine jr_get (pc_q := 158) (i := 95) (v := .ref 131) rfl rfl (by decide) rfl rfl ?_
                refine jx_ld (pc_q := 159) (l_q := L36) (st_q := [.int (i32 (p)), .ref 131, .int (i32 (p)), .ref 66]) rfl (jl_iloadn gL36_1) ?_
                refine jr_ldv (pc_q := 160) (i := 64) (m := 6) (z := p) (y := rw) rfl (by decide) rfl (by decide) (by omega) (by omega) rfl (show A45 64 (p).toNat = rw from (congrFun (hF47.2 64 rfl) _).trans (e_rw)) ?_
                refine jx_ar (pc_q := 161) (st_q := [.int (i32 (3)), .int (i32 (rw)), .int (i32 (p)), .ref 66]) rfl rfl rfl rfl ?_
                refine jx_sub (pc_q := 162) rfl rfl ?_
                refine jx_ar (pc_q := 163) (st_q := [.int (i32 (0)), .int (i32 ((rw - 3))), .int (i32 (p)), .ref 66]) rfl rfl rfl rfl ?_
                refine jx_vr (pc_q := 166) (as := [.int (i32 (p)), .int (i32 ((rw - 3))), .int (i32 (0))]) (st := []) rfl rfl rfl rfl ⟨rfl, rfl, Nat.le_of_ble_eq_true rfl⟩ rfl rfl (c_store (dd := d) (hd := by omega) (hW := hW46) (p := p) (a := (rw - 3)) (v := 0)   (h_p := ⟨(Int.le_trans (by decide : (-2147483648 : Int) ≤ -2147483648) h_p.1), (Int.le_trans h_p.2 (by decide : (2147483647 : Int) ≤ 2147483647))⟩) (h_a := ⟨(by omega), (by omega)⟩) (h_v := ⟨(by decide), (by decide)⟩)  (p_0 := by omega) (p_1 := by omega)) (fun o V_q hq => ?_)
                obtain ⟨G51, A52, rfl, rfl, hW53, hF54, p55, -⟩ := hq
                have hF57 := Fr_tr hF50 hF54 (Fr_sub (by decide)) (Fr_sub (by decide))
                refine .inl ⟨rfl, ?_⟩
                refine jx_ld (pc_q := 167) (l_q := L36) (st_q := [.ref 66]) rfl (jl_aloadn gL36_0) ?_
                refine jx_ld (pc_q := 168) (l_q := L36) (st_q := [.int (i32 (p)), .ref 66]) rfl (jl_iloadn gL36_1) ?_
                refine jx_ld (pc_q := 169) (l_q := L36) (st_q := [.int (i32 (a)), .int (i32 (p)), .ref 66]) rfl (jl_iloadn gL36_2) ?_
                refine jx_ld (pc_q := 170) (l_q := L36) (st_q := [.ref 66, .int (i32 (a)), .int (i32 (p)), .ref 66]) rfl (jl_aloadn gL36_0) ?_
                refine jr_get (pc_q := 173) (i := 97) (v := .ref 133) rfl rfl (by decide) rfl rfl ?_
                refine jx_ld (pc_q := 174) (l_q := L36) (st_q := [.int (i32 (p)), .ref 133, .int (i32 (a)), .int (i32 (p)), .ref 66]) rfl (jl_iloadn gL36_1) ?_
                refine jr_ldv (pc_q := 175) (i := 66) (m := 6) (z := p) (y := rn) rfl (by decide) rfl (by decide) (by omega) (by omega) rfl (show A52 66 (p).toNat = rn from (congrFun ((hF54.2 66 rfl).trans (hF47.2 66 rfl)) _).trans (e_rn)) ?_
                refine jx_vr (pc_q := 178) (as := [.int (i32 (p)), .int (i32 (a)), .int (i32 (rn))]) (st := []) rfl rfl rfl rfl ⟨rfl, rfl, Nat.le_of_ble_eq_true rfl⟩ rfl rfl (c_store (dd := d) (hd := by omega) (hW := hW53) (p := p) (a := a) (v := rn)   (h_p := ⟨(Int.le_trans (by decide : (-2147483648 : Int) ≤ -2147483648) h_p.1), (Int.le_trans h_p.2 (by decide : (2147483647 : Int) ≤ 2147483647))⟩) (h_a := ⟨(Int.le_trans (by decide : (-2147483648 : Int) ≤ -2147483648) h_a.1), (Int.le_trans h_a.2 (by decide : (2147483647 : Int) ≤ 2147483647))⟩) (h_v := ⟨(Int.le_trans (by decide : (-2147483648 : Int) ≤ -2147483648) b_rn.1), (Int.le_trans b_rn.2 (by decide : (2147483647 : Int) ≤ 2147483647))⟩)  (p_0 := by omega) (p_1 := by omega)) (fun o V_q hq => ?_)
                obtain ⟨G58, A59, rfl, rfl, hW60, hF61, p62, -⟩ := hq
                have hF64 := Fr_tr hF57 hF61 (Fr_sub (by decide)) (Fr_sub (by decide))
                refine .inl ⟨rfl, ?_⟩
                have hk65 : A59 64 (p).toNat = rw := (congrFun ((hF61.2 64 rfl).trans ((hF54.2 64 rfl).trans (hF47.2 64 rfl))) _).trans (e_rw)
                refine jx_ld (pc_q := 179) (l_q := L36) (st_q := [.ref 66]) rfl (jl_aloadn gL36_0) ?_
                refine jx_ld (pc_q := 180) (l_q := L36) (st_q := [.int (i32 (p)), .ref 66]) rfl (jl_iloadn gL36_1) ?_
                refine jx_vr (pc_q := 183) (as := [.int (i32 (p))]) (st := []) rfl rfl rfl rfl ⟨rfl, rfl, Nat.le_of_ble_eq_true rfl⟩ rfl rfl (c_wait0 (dd := d) (hd := by omega) (hW := hW60) (p := p)   (h_p := ⟨(Int.le_trans (by decide : (-2147483648 : Int) ≤ -2147483648) h_p.1), (Int.le_trans h_p.2 (by decide : (2147483647 : Int) ≤ 2147483647))⟩)  (p_0 := by omega) (p_1 := by omega) (p_2 := by omega)) (fun o V_q hq => ?_)
                obtain ⟨G66, A67, rfl, rfl, hW68, hF69, p70, -⟩ := hq
                have hF72 := Fr_tr hF64 hF69 (Fr_sub (by decide)) (Fr_sub (by decide))
                refine .inl ⟨rfl, ?_⟩
                refine jx_rt (v := none) rfl rfl rfl rfl rfl rfl ?_
                exact ⟨_, _, it, rfl, rfl, hW68, hF72, ((hF69.1 111 rfl).trans ((hF61.1 111 rfl).trans ((hF54.1 111 rfl).trans ((hF47.1 111 rfl).trans (e_it))))), by omega, by omega, (by first | exact inR_wai _ _ _ _ _ _ p34 (by first | exact .inr ⟨by omega, by omega⟩ | exact .inl (by first | exact ⟨by omega, by omega, a13⟩ | exact ⟨by omega, by omega, (by rw [show a = 13 by omega]; exact a13)⟩ | exact ⟨by omega, by omega, by unfold hcP; omega⟩)) e_rw e_rn p48 p55 p62 p70 | omega), trivial⟩
              · have _q := h43
                exact absurd h43 (by omega)
            · have _q : True := trivial
              refine jx_if_ne (pc_q := 100) (tg := 138) rfl rfl rfl (by decide) (by decide) (fun h73 => ?_) (fun h73 => ?_)
              · have _q := h73
                exact absurd h73 (by omega)
              · have _q := h73
                refine jx_ld (pc_q := 102) (l_q := L36) (st_q := [.int (i32 (r32))]) rfl (jl_iload gL36_4) ?_
                refine jx_ar (pc_q := 103) (st_q := [.int (i32 (-1)), .int (i32 (r32))]) rfl rfl rfl rfl ?_
                refine jx_icmp_eq (pc_q := 106) (tg := 138) rfl rfl rfl (Int.le_trans (by decide : (-2147483648 : Int) ≤ -2147483648) b33.1) (Int.le_trans b33.2 (by decide : (2147483647 : Int) ≤ 2147483647)) (by decide) (by decide) (fun h74 => ?_) (fun h74 => ?_)
                · have _q := h74
                  refine jx_ld (pc_q := 139) (l_q := L36) (st_q := [.ref 66]) rfl (jl_aloadn gL36_0) ?_
                  refine jx_ld (pc_q := 140) (l_q := L36) (st_q := [.int (i32 (p)), .ref 66]) rfl (jl_iloadn gL36_1) ?_
                  refine jx_ld (pc_q := 141) (l_q := L36) (st_q := [.ref 66, .int (i32 (p)), .ref 66]) rfl (jl_aloadn gL36_0) ?_
                  refine jr_get (pc_q := 144) (i := 95) (v := .ref 131) rfl rfl (by decide) rfl rfl ?_
                  refine jx_ld (pc_q := 145) (l_q := L36) (st_q := [.int (i32 (p)), .ref 131, .int (i32 (p)), .ref 66]) rfl (jl_iloadn gL36_1) ?_
                  refine jr_ldv (pc_q := 146) (i := 64) (m := 6) (z := p) (y := rw) rfl (by decide) rfl (by decide) (by omega) (by omega) rfl (show A 64 (p).toNat = rw from (e_rw)) ?_
                  refine jx_ar (pc_q := 147) (st_q := [.int (i32 (2)), .int (i32 (rw)), .int (i32 (p)), .ref 66]) rfl rfl rfl rfl ?_
                  refine jx_sub (pc_q := 148) rfl rfl ?_
                  refine jx_ld (pc_q := 149) (l_q := L36) (st_q := [.int (i32 (t)), .int (i32 ((rw - 2))), .int (i32 (p)), .ref 66]) rfl (jl_iloadn gL36_3) ?_
                  refine jx_vr (pc_q := 152) (as := [.int (i32 (p)), .int (i32 ((rw - 2))), .int (i32 (t))]) (st := []) rfl rfl rfl rfl ⟨rfl, rfl, Nat.le_of_ble_eq_true rfl⟩ rfl rfl (c_store (dd := d) (hd := by omega) (hW := hW) (p := p) (a := (rw - 2)) (v := t)   (h_p := ⟨(Int.le_trans (by decide : (-2147483648 : Int) ≤ -2147483648) h_p.1), (Int.le_trans h_p.2 (by decide : (2147483647 : Int) ≤ 2147483647))⟩) (h_a := ⟨(by omega), (by omega)⟩) (h_v := ⟨(Int.le_trans (by decide : (-2147483648 : Int) ≤ -2147483648) h_t.1), (Int.le_trans h_t.2 (by decide : (2147483647 : Int) ≤ 2147483647))⟩)  (p_0 := by omega) (p_1 := by omega)) (fun o V_q hq => ?_)
                  obtain ⟨G75, A76, rfl, rfl, hW77, hF78, p79, -⟩ := hq
                  have hF81 := Fr_tr hF0 hF78 (Fr_sub (by decide)) (Fr_sub (by decide))
                  refine .inl ⟨rfl, ?_⟩
                  refine jx_ld (pc_q := 153) (l_q := L36) (st_q := [.ref 66]) rfl (jl_aloadn gL36_0) ?_
                  refine jx_ld (pc_q := 154) (l_q := L36) (st_q := [.int (i32 (p)), .ref 66]) rfl (jl_iloadn gL36_1) ?_
                  refine jx_ld (pc_q := 155) (l_q := L36) (st_q := [.ref 66, .int (i32 (p)), .ref 66]) rfl (jl_aloadn gL36_0) ?_
                  refine jr_get (pc_q := 158) (i := 95) (v := .ref 131) rfl rfl (by decide) rfl rfl ?_
                  refine jx_ld (pc_q := 159) (l_q := L36) (st_q := [.int (i32 (p)), .ref 131, .int (i32 (p)), .ref 66]) rfl (jl_iloadn gL36_1) ?_
                  refine jr_ldv (pc_q := 160) (i := 64) (m := 6) (z := p) (y := rw) rfl (by decide) rfl (by decide) (by omega) (by omega) rfl (show A76 64 (p).toNat = rw from (congrFun (hF78.2 64 rfl) _).trans (e_rw)) ?_
                  refine jx_ar (pc_q := 161) (st_q := [.int (i32 (3)), .int (i32 (rw)), .int (i32 (p)), .ref 66]) rfl rfl rfl rfl ?_
                  refine jx_sub (pc_q := 162) rfl rfl ?_
                  refine jx_ar (pc_q := 163) (st_q := [.int (i32 (0)), .int (i32 ((rw - 3))), .int (i32 (p)), .ref 66]) rfl rfl rfl rfl ?_
                  refine jx_vr (pc_q := 166) (as := [.int (i32 (p)), .int (i32 ((rw - 3))), .int (i32 (0))]) (st := []) rfl rfl rfl rfl ⟨rfl, rfl, Nat.le_of_ble_eq_true rfl⟩ rfl rfl (c_store (dd := d) (hd := by omega) (hW := hW77) (p := p) (a := (rw - 3)) (v := 0)   (h_p := ⟨(Int.le_trans (by decide : (-2147483648 : Int) ≤ -2147483648) h_p.1), (Int.le_trans h_p.2 (by decide : (2147483647 : Int) ≤ 2147483647))⟩) (h_a := ⟨(by omega), (by omega)⟩) (h_v := ⟨(by decide), (by decide)⟩)  (p_0 := by omega) (p_1 := by omega)) (fun o V_q hq => ?_)
                  obtain ⟨G82, A83, rfl, rfl, hW84, hF85, p86, -⟩ := hq
                  have hF88 := Fr_tr hF81 hF85 (Fr_sub (by decide)) (Fr_sub (by decide))
                  refine .inl ⟨rfl, ?_⟩
                  refine jx_ld (pc_q := 167) (l_q := L36) (st_q := [.ref 66]) rfl (jl_aloadn gL36_0) ?_
                  refine jx_ld (pc_q := 168) (l_q := L36) (st_q := [.int (i32 (p)), .ref 66]) rfl (jl_iloadn gL36_1) ?_
                  refine jx_ld (pc_q := 169) (l_q := L36) (st_q := [.int (i32 (a)), .int (i32 (p)), .ref 66]) rfl (jl_iloadn gL36_2) ?_
                  refine jx_ld (pc_q := 170) (l_q := L36) (st_q := [.ref 66, .int (i32 (a)), .int (i32 (p)), .ref 66]) rfl (jl_aloadn gL36_0) ?_
                  refine jr_get (pc_q := 173) (i := 97) (v := .ref 133) rfl rfl (by decide) rfl rfl ?_
                  refine jx_ld (pc_q := 174) (l_q := L36) (st_q := [.int (i32 (p)), .ref 133, .int (i32 (a)), .int (i32 (p)), .ref 66]) rfl (jl_iloadn gL36_1) ?_
                  refine jr_ldv (pc_q := 175) (i := 66) (m := 6) (z := p) (y := rn) rfl (by decide) rfl (by decide) (by omega) (by omega) rfl (show A83 66 (p).toNat = rn from (congrFun ((hF85.2 66 rfl).trans (hF78.2 66 rfl)) _).trans (e_rn)) ?_
                  refine jx_vr (pc_q := 178) (as := [.int (i32 (p)), .int (i32 (a)), .int (i32 (rn))]) (st := []) rfl rfl rfl rfl ⟨rfl, rfl, Nat.le_of_ble_eq_true rfl⟩ rfl rfl (c_store (dd := d) (hd := by omega) (hW := hW84) (p := p) (a := a) (v := rn)   (h_p := ⟨(Int.le_trans (by decide : (-2147483648 : Int) ≤ -2147483648) h_p.1), (Int.le_trans h_p.2 (by decide : (2147483647 : Int) ≤ 2147483647))⟩) (h_a := ⟨(Int.le_trans (by decide : (-2147483648 : Int) ≤ -2147483648) h_a.1), (Int.le_trans h_a.2 (by decide : (2147483647 : Int) ≤ 2147483647))⟩) (h_v := ⟨(Int.le_trans (by decide : (-2147483648 : Int) ≤ -2147483648) b_rn.1), (Int.le_trans b_rn.2 (by decide : (2147483647 : Int) ≤ 2147483647))⟩)  (p_0 := by omega) (p_1 := by omega)) (fun o V_q hq => ?_)
                  obtain ⟨G89, A90, rfl, rfl, hW91, hF92, p93, -⟩ := hq
                  have hF95 := Fr_tr hF88 hF92 (Fr_sub (by decide)) (Fr_sub (by decide))
                  refine .inl ⟨rfl, ?_⟩
                  have hk96 : A90 64 (p).toNat = rw := (congrFun ((hF92.2 64 rfl).trans ((hF85.2 64 rfl).trans (hF78.2 64 rfl))) _).trans (e_rw)
                  refine jx_ld (pc_q := 179) (l_q := L36) (st_q := [.ref 66]) rfl (jl_aloadn gL36_0) ?_
                  refine jx_ld (pc_q := 180) (l_q := L36) (st_q := [.int (i32 (p)), .ref 66]) rfl (jl_iloadn gL36_1) ?_
                  refine jx_vr (pc_q := 183) (as := [.int (i32 (p))]) (st := []) rfl rfl rfl rfl ⟨rfl, rfl, Nat.le_of_ble_eq_true rfl⟩ rfl rfl (c_wait0 (dd := d) (hd := by omega) (hW := hW91) (p := p)   (h_p := ⟨(Int.le_trans (by decide : (-2147483648 : Int) ≤ -2147483648) h_p.1), (Int.le_trans h_p.2 (by decide : (2147483647 : Int) ≤ 2147483647))⟩)  (p_0 := by omega) (p_1 := by omega) (p_2 := by omega)) (fun o V_q hq => ?_)
                  obtain ⟨G97, A98, rfl, rfl, hW99, hF100, p101, -⟩ := hq
                  have hF103 := Fr_tr hF95 hF100 (Fr_sub (by decide)) (Fr_sub (by decide))
                  refine .inl ⟨rfl, ?_⟩
                  refine jx_rt (v := none) rfl rfl rfl rfl rfl rfl ?_
                  exact ⟨_, _, it, rfl, rfl, hW99, hF103, ((hF100.1 111 rfl).trans ((hF92.1 111 rfl).trans ((hF85.1 111 rfl).trans ((hF78.1 111 rfl).trans (e_it))))), by omega, by omega, (by first | exact inR_wai _ _ _ _ _ _ p34 (by first | exact .inr ⟨by omega, by omega⟩ | exact .inl (by first | exact ⟨by omega, by omega, a13⟩ | exact ⟨by omega, by omega, (by rw [show a = 13 by omega]; exact a13)⟩ | exact ⟨by omega, by omega, by unfold hcP; omega⟩)) e_rw e_rn p79 p86 p93 p101 | omega), trivial⟩
                · have _q := h74
                  refine jx_ld (pc_q := 107) (l_q := L36) (st_q := [.ref 66]) rfl (jl_aloadn gL36_0) ?_
                  refine jx_ld (pc_q := 108) (l_q := L36) (st_q := [.int (i32 (p)), .ref 66]) rfl (jl_iloadn gL36_1) ?_
                  refine jx_ld (pc_q := 109) (l_q := L36) (st_q := [.int (i32 (t)), .int (i32 (p)), .ref 66]) rfl (jl_iloadn gL36_3) ?_
                  refine jx_ld (pc_q := 110) (l_q := L36) (st_q := [.ref 66, .int (i32 (t)), .int (i32 (p)), .ref 66]) rfl (jl_aloadn gL36_0) ?_
                  refine jx_ld (pc_q := 111) (l_q := L36) (st_q := [.int (i32 (p)), .ref 66, .int (i32 (t)), .int (i32 (p)), .ref 66]) rfl (jl_iloadn gL36_1) ?_
                  refine jx_ld (pc_q := 113) (l_q := L36) (st_q := [.int (i32 (r32)), .int (i32 (p)), .ref 66, .int (i32 (t)), .int (i32 (p)), .ref 66]) rfl (jl_iload gL36_4) ?_
                  refine jx_ar (pc_q := 114) (st_q := [.int (i32 (1)), .int (i32 (r32)), .int (i32 (p)), .ref 66, .int (i32 (t)), .int (i32 (p)), .ref 66]) rfl rfl rfl rfl ?_
                  refine jx_shr (pc_q := 115) rfl rfl ?_
                  obtain ⟨b104, eb104⟩ : ∃ z, z = (i32 (r32) >>> (i32 (1) &&& 31)).toInt := ⟨_, rfl⟩
                  rw [← eb104]
                  have rb104 : (-2147483648 : Int) ≤ b104 ∧ b104 ≤ 2147483647 := eb104 ▸ i32_rg _
                  have hb104 := (show b104 = (i32 r32 >>> (i32 1 &&& 31)).toInt from eb104).trans (shr_1 (by omega) (by omega))
                  refine jx_ar (pc_q := 116) (st_q := [.int (i32 (2)), .int (i32 (b104)), .int (i32 (p)), .ref 66, .int (i32 (t)), .int (i32 (p)), .ref 66]) rfl rfl rfl rfl ?_
                  refine jx_sub (pc_q := 117) rfl rfl ?_
                  refine jx_vr (pc_q := 120) (as := [.int (i32 (p)), .int (i32 ((b104 - 2)))]) (st := [.int (i32 (t)), .int (i32 (p)), .ref 66]) rfl rfl rfl rfl ⟨rfl, rfl, Nat.le_of_ble_eq_true rfl⟩ rfl rfl (c_load (dd := d) (hd := by omega) (hW := hW) (p := p) (a := (b104 - 2))   (h_p := ⟨(Int.le_trans (by decide : (-2147483648 : Int) ≤ -2147483648) h_p.1), (Int.le_trans h_p.2 (by decide : (2147483647 : Int) ≤ 2147483647))⟩) (h_a := ⟨(by omega), (by omega)⟩)  (p_0 := by omega) (p_1 := by omega)) (fun o V_q hq => ?_)
                  obtain ⟨r105, rfl, rfl, b106, p107, -⟩ := hq
                  refine .inr ⟨_, rfl, ?_⟩
                  refine jx_vr (pc_q := 123) (as := [.int (i32 (p)), .int (i32 (t)), .int (i32 (r105))]) (st := []) rfl rfl rfl rfl ⟨rfl, rfl, Nat.le_of_ble_eq_true rfl⟩ rfl rfl (c_store (dd := d) (hd := by omega) (hW := hW) (p := p) (a := t) (v := r105)   (h_p := ⟨(Int.le_trans (by decide : (-2147483648 : Int) ≤ -2147483648) h_p.1), (Int.le_trans h_p.2 (by decide : (2147483647 : Int) ≤ 2147483647))⟩) (h_a := ⟨(Int.le_trans (by decide : (-2147483648 : Int) ≤ -2147483648) h_t.1), (Int.le_trans h_t.2 (by decide : (2147483647 : Int) ≤ 2147483647))⟩) (h_v := ⟨(Int.le_trans (by decide : (-2147483648 : Int) ≤ -2147483648) b106.1), (Int.le_trans b106.2 (by decide : (2147483647 : Int) ≤ 2147483647))⟩)  (p_0 := by omega) (p_1 := by omega)) (fun o V_q hq => ?_)
                  obtain ⟨G109, A110, rfl, rfl, hW111, hF112, p113, -⟩ := hq
                  have hF115 := Fr_tr hF0 hF112 (Fr_sub (by decide)) (Fr_sub (by decide))
                  refine .inl ⟨rfl, ?_⟩
                  refine jx_ld (pc_q := 124) (l_q := L36) (st_q := [.ref 66]) rfl (jl_aloadn gL36_0) ?_
                  refine jx_ld (pc_q := 125) (l_q := L36) (st_q := [.int (i32 (p)), .ref 66]) rfl (jl_iloadn gL36_1) ?_
                  refine jx_ld (pc_q := 126) (l_q := L36) (st_q := [.int (i32 (a)), .int (i32 (p)), .ref 66]) rfl (jl_iloadn gL36_2) ?_
                  refine jx_ar (pc_q := 127) (st_q := [.int (i32 (-1)), .int (i32 (a)), .int (i32 (p)), .ref 66]) rfl rfl rfl rfl ?_
                  refine jx_vr (pc_q := 130) (as := [.int (i32 (p)), .int (i32 (a)), .int (i32 (-1))]) (st := []) rfl rfl rfl rfl ⟨rfl, rfl, Nat.le_of_ble_eq_true rfl⟩ rfl rfl (c_store (dd := d) (hd := by omega) (hW := hW111) (p := p) (a := a) (v := -1)   (h_p := ⟨(Int.le_trans (by decide : (-2147483648 : Int) ≤ -2147483648) h_p.1), (Int.le_trans h_p.2 (by decide : (2147483647 : Int) ≤ 2147483647))⟩) (h_a := ⟨(Int.le_trans (by decide : (-2147483648 : Int) ≤ -2147483648) h_a.1), (Int.le_trans h_a.2 (by decide : (2147483647 : Int) ≤ 2147483647))⟩) (h_v := ⟨(by decide), (by decide)⟩)  (p_0 := by omega) (p_1 := by omega)) (fun o V_q hq => ?_)
                  obtain ⟨G116, A117, rfl, rfl, hW118, hF119, p120, -⟩ := hq
                  have hF122 := Fr_tr hF115 hF119 (Fr_sub (by decide)) (Fr_sub (by decide))
                  refine .inl ⟨rfl, ?_⟩
                  refine jx_ld (pc_q := 131) (l_q := L36) (st_q := [.ref 66]) rfl (jl_aloadn gL36_0) ?_
                  refine jx_ld (pc_q := 132) (l_q := L36) (st_q := [.int (i32 (p)), .ref 66]) rfl (jl_iloadn gL36_1) ?_
                  refine jx_ld (pc_q := 134) (l_q := L36) (st_q := [.int (i32 (r32)), .int (i32 (p)), .ref 66]) rfl (jl_iload gL36_4) ?_
                  refine jx_vr (pc_q := 137) (as := [.int (i32 (p)), .int (i32 (r32))]) (st := []) rfl rfl rfl rfl ⟨rfl, rfl, Nat.le_of_ble_eq_true rfl⟩ rfl rfl (c_makeReady (dd := d) (hd := by omega) (hW := hW118) (p := p) (d2 := r32) (m0 := m0) (e_m0 := show A117 72 ((2 * p)).toNat = m0 from (congrFun ((hF119.2 72 rfl).trans (hF112.2 72 rfl)) _).trans (e_m0)) (m1 := m1) (e_m1 := show A117 72 (((2 * p) + 1)).toNat = m1 from (congrFun ((hF119.2 72 rfl).trans (hF112.2 72 rfl)) _).trans (e_m1))  (h_p := ⟨(Int.le_trans (by decide : (-2147483648 : Int) ≤ -2147483648) h_p.1), (Int.le_trans h_p.2 (by decide : (2147483647 : Int) ≤ 2147483647))⟩) (h_d2 := ⟨(Int.le_trans (by decide : (-2147483648 : Int) ≤ -2147483648) b33.1), (Int.le_trans b33.2 (by decide : (2147483647 : Int) ≤ 2147483647))⟩)  (p_0 := by omega) (p_1 := by omega) (p_2 := by omega) (p_3 := by omega) (p_4 := by omega) (p_5 := by omega)) (fun o V_q hq => ?_)
                  obtain ⟨G123, A124, rfl, rfl, hW125, hF126, p127, -⟩ := hq
                  have hF129 := Fr_tr hF122 hF126 (Fr_sub (by decide)) (Fr_sub (by decide))
                  refine .inl ⟨rfl, ?_⟩
                  refine jx_rt (v := none) rfl rfl rfl rfl rfl rfl ?_
                  exact ⟨_, _, it, rfl, rfl, hW125, hF129, ((hF126.1 111 rfl).trans ((hF119.1 111 rfl).trans ((hF112.1 111 rfl).trans (e_it)))), by omega, by omega, (by first | exact inR_tak _ _ _ _ _ (by omega) p34 (by omega) hb104 p107 p113 p120 p127 | omega), trivial⟩
          · have _q := h31
            exact absurd h31 (by omega)
    · have _q : True := trivial
      refine jx_if_eq (pc_q := 49) (tg := 84) rfl rfl rfl (by decide) (by decide) (fun h130 => ?_) (fun h130 => ?_)
      · have _q := h130
        refine jx_ld (pc_q := 85) (l_q := [(0, .ref 66), (1, .int (i32 (p))), (2, .int (i32 (a))), (3, .int (i32 (t)))]) (st_q := [.ref 66]) rfl (jl_aloadn rfl) ?_
        refine jx_ld (pc_q := 86) (l_q := [(0, .ref 66), (1, .int (i32 (p))), (2, .int (i32 (a))), (3, .int (i32 (t)))]) (st_q := [.int (i32 (p)), .ref 66]) rfl (jl_iloadn rfl) ?_
        refine jx_ld (pc_q := 87) (l_q := [(0, .ref 66), (1, .int (i32 (p))), (2, .int (i32 (a))), (3, .int (i32 (t)))]) (st_q := [.int (i32 (a)), .int (i32 (p)), .ref 66]) rfl (jl_iloadn rfl) ?_
        refine jx_vr (pc_q := 90) (as := [.int (i32 (p)), .int (i32 (a))]) (st := []) rfl rfl rfl rfl ⟨rfl, rfl, Nat.le_of_ble_eq_true rfl⟩ rfl rfl (c_load (dd := d) (hd := by omega) (hW := hW) (p := p) (a := a)   (h_p := ⟨(Int.le_trans (by decide : (-2147483648 : Int) ≤ -2147483648) h_p.1), (Int.le_trans h_p.2 (by decide : (2147483647 : Int) ≤ 2147483647))⟩) (h_a := ⟨(Int.le_trans (by decide : (-2147483648 : Int) ≤ -2147483648) h_a.1), (Int.le_trans h_a.2 (by decide : (2147483647 : Int) ≤ 2147483647))⟩)  (p_0 := by omega) (p_1 := by omega)) (fun o V_q hq => ?_)
        obtain ⟨r131, rfl, rfl, b132, p133, -⟩ := hq
        refine .inr ⟨_, rfl, ?_⟩
        refine jx_ld (pc_q := 92) (l_q := jSto1 [(0, .ref 66), (1, .int (i32 (p))), (2, .int (i32 (a))), (3, .int (i32 (t)))] 4 (.int (i32 (r131)))) (st_q := []) rfl rfl ?_
        obtain ⟨L135, eL135⟩ : ∃ q, q = jSto1 [(0, .ref 66), (1, .int (i32 (p))), (2, .int (i32 (a))), (3, .int (i32 (t)))] 4 (.int (i32 (r131))) := ⟨_, rfl⟩
        rw [← eL135]
        have gL135_0 : jGet L135 0 = some (.ref 66) := eL135 ▸ jg_ne (by decide) (rfl : jGet [(0, .ref 66), (1, .int (i32 (p))), (2, .int (i32 (a))), (3, .int (i32 (t)))] 0 = some (.ref 66)) rfl
        have gL135_1 : jGet L135 1 = some (.int (i32 (p))) := eL135 ▸ jg_ne (by decide) (rfl : jGet [(0, .ref 66), (1, .int (i32 (p))), (2, .int (i32 (a))), (3, .int (i32 (t)))] 1 = some (.int (i32 (p)))) rfl
        have gL135_2 : jGet L135 2 = some (.int (i32 (a))) := eL135 ▸ jg_ne (by decide) (rfl : jGet [(0, .ref 66), (1, .int (i32 (p))), (2, .int (i32 (a))), (3, .int (i32 (t)))] 2 = some (.int (i32 (a)))) rfl
        have gL135_3 : jGet L135 3 = some (.int (i32 (t))) := eL135 ▸ jg_ne (by decide) (rfl : jGet [(0, .ref 66), (1, .int (i32 (p))), (2, .int (i32 (a))), (3, .int (i32 (t)))] 3 = some (.int (i32 (t)))) rfl
        have gL135_4 : jGet L135 4 = some (.int (i32 (r131))) := eL135 ▸ jg_eq
        refine jx_ld (pc_q := 93) (l_q := L135) (st_q := [.ref 66]) rfl (jl_aloadn gL135_0) ?_
        refine jx_ld (pc_q := 94) (l_q := L135) (st_q := [.int (i32 (a)), .ref 66]) rfl (jl_iloadn gL135_2) ?_
        refine jx_vr (pc_q := 97) (as := [.int (i32 (a))]) (st := []) rfl rfl rfl rfl ⟨rfl, rfl, Nat.le_of_ble_eq_true rfl⟩ rfl rfl (c_isOutside (dd := d) (hd := by omega) (hW := hW) (a := a)   (h_a := ⟨(Int.le_trans (by decide : (-2147483648 : Int) ≤ -2147483648) h_a.1), (Int.le_trans h_a.2 (by decide : (2147483647 : Int) ≤ 2147483647))⟩)  ) (fun o V_q hq => ?_)
        obtain ⟨r136, rfl, rfl, b137, q138⟩ := hq
        refine .inr ⟨_, rfl, ?_⟩
        rcases q138 with ⟨rfl, a139, a140⟩ | ⟨rfl, a141⟩
        · have _q : True := trivial
          refine jx_if_ne (pc_q := 100) (tg := 138) rfl rfl rfl (by decide) (by decide) (fun h142 => ?_) (fun h142 => ?_)
          · have _q := h142
            refine jx_ld (pc_q := 139) (l_q := L135) (st_q := [.ref 66]) rfl (jl_aloadn gL135_0) ?_
            refine jx_ld (pc_q := 140) (l_q := L135) (st_q := [.int (i32 (p)), .ref 66]) rfl (jl_iloadn gL135_1) ?_
            refine jx_ld (pc_q := 141) (l_q := L135) (st_q := [.ref 66, .int (i32 (p)), .ref 66]) rfl (jl_aloadn gL135_0) ?_
            refine jr_get (pc_q := 144) (i := 95) (v := .ref 131) rfl rfl (by decide) rfl rfl ?_
            refine jx_ld (pc_q := 145) (l_q := L135) (st_q := [.int (i32 (p)), .ref 131, .int (i32 (p)), .ref 66]) rfl (jl_iloadn gL135_1) ?_
            refine jr_ldv (pc_q := 146) (i := 64) (m := 6) (z := p) (y := rw) rfl (by decide) rfl (by decide) (by omega) (by omega) rfl (show A 64 (p).toNat = rw from (e_rw)) ?_
            refine jx_ar (pc_q := 147) (st_q := [.int (i32 (2)), .int (i32 (rw)), .int (i32 (p)), .ref 66]) rfl rfl rfl rfl ?_
            refine jx_sub (pc_q := 148) rfl rfl ?_
            refine jx_ld (pc_q := 149) (l_q := L135) (st_q := [.int (i32 (t)), .int (i32 ((rw - 2))), .int (i32 (p)), .ref 66]) rfl (jl_iloadn gL135_3) ?_
            refine jx_vr (pc_q := 152) (as := [.int (i32 (p)), .int (i32 ((rw - 2))), .int (i32 (t))]) (st := []) rfl rfl rfl rfl ⟨rfl, rfl, Nat.le_of_ble_eq_true rfl⟩ rfl rfl (c_store (dd := d) (hd := by omega) (hW := hW) (p := p) (a := (rw - 2)) (v := t)   (h_p := ⟨(Int.le_trans (by decide : (-2147483648 : Int) ≤ -2147483648) h_p.1), (Int.le_trans h_p.2 (by decide : (2147483647 : Int) ≤ 2147483647))⟩) (h_a := ⟨(by omega), (by omega)⟩) (h_v := ⟨(Int.le_trans (by decide : (-2147483648 : Int) ≤ -2147483648) h_t.1), (Int.le_trans h_t.2 (by decide : (2147483647 : Int) ≤ 2147483647))⟩)  (p_0 := by omega) (p_1 := by omega)) (fun o V_q hq => ?_)
            obtain ⟨G143, A144, rfl, rfl, hW145, hF146, p147, -⟩ := hq
            have hF149 := Fr_tr hF0 hF146 (Fr_sub (by decide)) (Fr_sub (by decide))
            refine .inl ⟨rfl, ?_⟩
            refine jx_ld (pc_q := 153) (l_q := L135) (st_q := [.ref 66]) rfl (jl_aloadn gL135_0) ?_
            refine jx_ld (pc_q := 154) (l_q := L135) (st_q := [.int (i32 (p)), .ref 66]) rfl (jl_iloadn gL135_1) ?_
            refine jx_ld (pc_q := 155) (l_q := L135) (st_q := [.ref 66, .int (i32 (p)), .ref 66]) rfl (jl_aloadn gL135_0) ?_
            refine jr_get (pc_q := 158) (i := 95) (v := .ref 131) rfl rfl (by decide) rfl rfl ?_
            refine jx_ld (pc_q := 159) (l_q := L135) (st_q := [.int (i32 (p)), .ref 131, .int (i32 (p)), .ref 66]) rfl (jl_iloadn gL135_1) ?_
            refine jr_ldv (pc_q := 160) (i := 64) (m := 6) (z := p) (y := rw) rfl (by decide) rfl (by decide) (by omega) (by omega) rfl (show A144 64 (p).toNat = rw from (congrFun (hF146.2 64 rfl) _).trans (e_rw)) ?_
            refine jx_ar (pc_q := 161) (st_q := [.int (i32 (3)), .int (i32 (rw)), .int (i32 (p)), .ref 66]) rfl rfl rfl rfl ?_
            refine jx_sub (pc_q := 162) rfl rfl ?_
            refine jx_ar (pc_q := 163) (st_q := [.int (i32 (0)), .int (i32 ((rw - 3))), .int (i32 (p)), .ref 66]) rfl rfl rfl rfl ?_
            refine jx_vr (pc_q := 166) (as := [.int (i32 (p)), .int (i32 ((rw - 3))), .int (i32 (0))]) (st := []) rfl rfl rfl rfl ⟨rfl, rfl, Nat.le_of_ble_eq_true rfl⟩ rfl rfl (c_store (dd := d) (hd := by omega) (hW := hW145) (p := p) (a := (rw - 3)) (v := 0)   (h_p := ⟨(Int.le_trans (by decide : (-2147483648 : Int) ≤ -2147483648) h_p.1), (Int.le_trans h_p.2 (by decide : (2147483647 : Int) ≤ 2147483647))⟩) (h_a := ⟨(by omega), (by omega)⟩) (h_v := ⟨(by decide), (by decide)⟩)  (p_0 := by omega) (p_1 := by omega)) (fun o V_q hq => ?_)
            obtain ⟨G150, A151, rfl, rfl, hW152, hF153, p154, -⟩ := hq
            have hF156 := Fr_tr hF149 hF153 (Fr_sub (by decide)) (Fr_sub (by decide))
            refine .inl ⟨rfl, ?_⟩
            refine jx_ld (pc_q := 167) (l_q := L135) (st_q := [.ref 66]) rfl (jl_aloadn gL135_0) ?_
            refine jx_ld (pc_q := 168) (l_q := L135) (st_q := [.int (i32 (p)), .ref 66]) rfl (jl_iloadn gL135_1) ?_
            refine jx_ld (pc_q := 169) (l_q := L135) (st_q := [.int (i32 (a)), .int (i32 (p)), .ref 66]) rfl (jl_iloadn gL135_2) ?_
            refine jx_ld (pc_q := 170) (l_q := L135) (st_q := [.ref 66, .int (i32 (a)), .int (i32 (p)), .ref 66]) rfl (jl_aloadn gL135_0) ?_
            refine jr_get (pc_q := 173) (i := 97) (v := .ref 133) rfl rfl (by decide) rfl rfl ?_
            refine jx_ld (pc_q := 174) (l_q := L135) (st_q := [.int (i32 (p)), .ref 133, .int (i32 (a)), .int (i32 (p)), .ref 66]) rfl (jl_iloadn gL135_1) ?_
            refine jr_ldv (pc_q := 175) (i := 66) (m := 6) (z := p) (y := rn) rfl (by decide) rfl (by decide) (by omega) (by omega) rfl (show A151 66 (p).toNat = rn from (congrFun ((hF153.2 66 rfl).trans (hF146.2 66 rfl)) _).trans (e_rn)) ?_
            refine jx_vr (pc_q := 178) (as := [.int (i32 (p)), .int (i32 (a)), .int (i32 (rn))]) (st := []) rfl rfl rfl rfl ⟨rfl, rfl, Nat.le_of_ble_eq_true rfl⟩ rfl rfl (c_store (dd := d) (hd := by omega) (hW := hW152) (p := p) (a := a) (v := rn)   (h_p := ⟨(Int.le_trans (by decide : (-2147483648 : Int) ≤ -2147483648) h_p.1), (Int.le_trans h_p.2 (by decide : (2147483647 : Int) ≤ 2147483647))⟩) (h_a := ⟨(Int.le_trans (by decide : (-2147483648 : Int) ≤ -2147483648) h_a.1), (Int.le_trans h_a.2 (by decide : (2147483647 : Int) ≤ 2147483647))⟩) (h_v := ⟨(Int.le_trans (by decide : (-2147483648 : Int) ≤ -2147483648) b_rn.1), (Int.le_trans b_rn.2 (by decide : (2147483647 : Int) ≤ 2147483647))⟩)  (p_0 := by omega) (p_1 := by omega)) (fun o V_q hq => ?_)
            obtain ⟨G157, A158, rfl, rfl, hW159, hF160, p161, -⟩ := hq
            have hF163 := Fr_tr hF156 hF160 (Fr_sub (by decide)) (Fr_sub (by decide))
            refine .inl ⟨rfl, ?_⟩
            have hk164 : A158 64 (p).toNat = rw := (congrFun ((hF160.2 64 rfl).trans ((hF153.2 64 rfl).trans (hF146.2 64 rfl))) _).trans (e_rw)
            refine jx_ld (pc_q := 179) (l_q := L135) (st_q := [.ref 66]) rfl (jl_aloadn gL135_0) ?_
            refine jx_ld (pc_q := 180) (l_q := L135) (st_q := [.int (i32 (p)), .ref 66]) rfl (jl_iloadn gL135_1) ?_
            refine jx_vr (pc_q := 183) (as := [.int (i32 (p))]) (st := []) rfl rfl rfl rfl ⟨rfl, rfl, Nat.le_of_ble_eq_true rfl⟩ rfl rfl (c_wait0 (dd := d) (hd := by omega) (hW := hW159) (p := p)   (h_p := ⟨(Int.le_trans (by decide : (-2147483648 : Int) ≤ -2147483648) h_p.1), (Int.le_trans h_p.2 (by decide : (2147483647 : Int) ≤ 2147483647))⟩)  (p_0 := by omega) (p_1 := by omega) (p_2 := by omega)) (fun o V_q hq => ?_)
            obtain ⟨G165, A166, rfl, rfl, hW167, hF168, p169, -⟩ := hq
            have hF171 := Fr_tr hF163 hF168 (Fr_sub (by decide)) (Fr_sub (by decide))
            refine .inl ⟨rfl, ?_⟩
            refine jx_rt (v := none) rfl rfl rfl rfl rfl rfl ?_
            exact ⟨_, _, it, rfl, rfl, hW167, hF171, ((hF168.1 111 rfl).trans ((hF160.1 111 rfl).trans ((hF153.1 111 rfl).trans ((hF146.1 111 rfl).trans (e_it))))), by omega, by omega, (by first | exact inR_wai _ _ _ _ _ _ p133 (by first | exact .inr ⟨by omega, by omega⟩ | exact .inl (by first | exact ⟨by omega, by omega, by unfold hcP; omega⟩)) e_rw e_rn p147 p154 p161 p169 | omega), trivial⟩
          · have _q := h142
            exact absurd h142 (by omega)
        · have _q : True := trivial
          refine jx_if_ne (pc_q := 100) (tg := 138) rfl rfl rfl (by decide) (by decide) (fun h172 => ?_) (fun h172 => ?_)
          · have _q := h172
            exact absurd h172 (by omega)
          · have _q := h172
            refine jx_ld (pc_q := 102) (l_q := L135) (st_q := [.int (i32 (r131))]) rfl (jl_iload gL135_4) ?_
            refine jx_ar (pc_q := 103) (st_q := [.int (i32 (-1)), .int (i32 (r131))]) rfl rfl rfl rfl ?_
            refine jx_icmp_eq (pc_q := 106) (tg := 138) rfl rfl rfl (Int.le_trans (by decide : (-2147483648 : Int) ≤ -2147483648) b132.1) (Int.le_trans b132.2 (by decide : (2147483647 : Int) ≤ 2147483647)) (by decide) (by decide) (fun h173 => ?_) (fun h173 => ?_)
            · have _q := h173
              refine jx_ld (pc_q := 139) (l_q := L135) (st_q := [.ref 66]) rfl (jl_aloadn gL135_0) ?_
              refine jx_ld (pc_q := 140) (l_q := L135) (st_q := [.int (i32 (p)), .ref 66]) rfl (jl_iloadn gL135_1) ?_
              refine jx_ld (pc_q := 141) (l_q := L135) (st_q := [.ref 66, .int (i32 (p)), .ref 66]) rfl (jl_aloadn gL135_0) ?_
              refine jr_get (pc_q := 144) (i := 95) (v := .ref 131) rfl rfl (by decide) rfl rfl ?_
              refine jx_ld (pc_q := 145) (l_q := L135) (st_q := [.int (i32 (p)), .ref 131, .int (i32 (p)), .ref 66]) rfl (jl_iloadn gL135_1) ?_
              refine jr_ldv (pc_q := 146) (i := 64) (m := 6) (z := p) (y := rw) rfl (by decide) rfl (by decide) (by omega) (by omega) rfl (show A 64 (p).toNat = rw from (e_rw)) ?_
              refine jx_ar (pc_q := 147) (st_q := [.int (i32 (2)), .int (i32 (rw)), .int (i32 (p)), .ref 66]) rfl rfl rfl rfl ?_
              refine jx_sub (pc_q := 148) rfl rfl ?_
              refine jx_ld (pc_q := 149) (l_q := L135) (st_q := [.int (i32 (t)), .int (i32 ((rw - 2))), .int (i32 (p)), .ref 66]) rfl (jl_iloadn gL135_3) ?_
              refine jx_vr (pc_q := 152) (as := [.int (i32 (p)), .int (i32 ((rw - 2))), .int (i32 (t))]) (st := []) rfl rfl rfl rfl ⟨rfl, rfl, Nat.le_of_ble_eq_true rfl⟩ rfl rfl (c_store (dd := d) (hd := by omega) (hW := hW) (p := p) (a := (rw - 2)) (v := t)   (h_p := ⟨(Int.le_trans (by decide : (-2147483648 : Int) ≤ -2147483648) h_p.1), (Int.le_trans h_p.2 (by decide : (2147483647 : Int) ≤ 2147483647))⟩) (h_a := ⟨(by omega), (by omega)⟩) (h_v := ⟨(Int.le_trans (by decide : (-2147483648 : Int) ≤ -2147483648) h_t.1), (Int.le_trans h_t.2 (by decide : (2147483647 : Int) ≤ 2147483647))⟩)  (p_0 := by omega) (p_1 := by omega)) (fun o V_q hq => ?_)
              obtain ⟨G174, A175, rfl, rfl, hW176, hF177, p178, -⟩ := hq
              have hF180 := Fr_tr hF0 hF177 (Fr_sub (by decide)) (Fr_sub (by decide))
              refine .inl ⟨rfl, ?_⟩
              refine jx_ld (pc_q := 153) (l_q := L135) (st_q := [.ref 66]) rfl (jl_aloadn gL135_0) ?_
              refine jx_ld (pc_q := 154) (l_q := L135) (st_q := [.int (i32 (p)), .ref 66]) rfl (jl_iloadn gL135_1) ?_
              refine jx_ld (pc_q := 155) (l_q := L135) (st_q := [.ref 66, .int (i32 (p)), .ref 66]) rfl (jl_aloadn gL135_0) ?_
              refine jr_get (pc_q := 158) (i := 95) (v := .ref 131) rfl rfl (by decide) rfl rfl ?_
              refine jx_ld (pc_q := 159) (l_q := L135) (st_q := [.int (i32 (p)), .ref 131, .int (i32 (p)), .ref 66]) rfl (jl_iloadn gL135_1) ?_
              refine jr_ldv (pc_q := 160) (i := 64) (m := 6) (z := p) (y := rw) rfl (by decide) rfl (by decide) (by omega) (by omega) rfl (show A175 64 (p).toNat = rw from (congrFun (hF177.2 64 rfl) _).trans (e_rw)) ?_
              refine jx_ar (pc_q := 161) (st_q := [.int (i32 (3)), .int (i32 (rw)), .int (i32 (p)), .ref 66]) rfl rfl rfl rfl ?_
              refine jx_sub (pc_q := 162) rfl rfl ?_
              refine jx_ar (pc_q := 163) (st_q := [.int (i32 (0)), .int (i32 ((rw - 3))), .int (i32 (p)), .ref 66]) rfl rfl rfl rfl ?_
              refine jx_vr (pc_q := 166) (as := [.int (i32 (p)), .int (i32 ((rw - 3))), .int (i32 (0))]) (st := []) rfl rfl rfl rfl ⟨rfl, rfl, Nat.le_of_ble_eq_true rfl⟩ rfl rfl (c_store (dd := d) (hd := by omega) (hW := hW176) (p := p) (a := (rw - 3)) (v := 0)   (h_p := ⟨(Int.le_trans (by decide : (-2147483648 : Int) ≤ -2147483648) h_p.1), (Int.le_trans h_p.2 (by decide : (2147483647 : Int) ≤ 2147483647))⟩) (h_a := ⟨(by omega), (by omega)⟩) (h_v := ⟨(by decide), (by decide)⟩)  (p_0 := by omega) (p_1 := by omega)) (fun o V_q hq => ?_)
              obtain ⟨G181, A182, rfl, rfl, hW183, hF184, p185, -⟩ := hq
              have hF187 := Fr_tr hF180 hF184 (Fr_sub (by decide)) (Fr_sub (by decide))
              refine .inl ⟨rfl, ?_⟩
              refine jx_ld (pc_q := 167) (l_q := L135) (st_q := [.ref 66]) rfl (jl_aloadn gL135_0) ?_
              refine jx_ld (pc_q := 168) (l_q := L135) (st_q := [.int (i32 (p)), .ref 66]) rfl (jl_iloadn gL135_1) ?_
              refine jx_ld (pc_q := 169) (l_q := L135) (st_q := [.int (i32 (a)), .int (i32 (p)), .ref 66]) rfl (jl_iloadn gL135_2) ?_
              refine jx_ld (pc_q := 170) (l_q := L135) (st_q := [.ref 66, .int (i32 (a)), .int (i32 (p)), .ref 66]) rfl (jl_aloadn gL135_0) ?_
              refine jr_get (pc_q := 173) (i := 97) (v := .ref 133) rfl rfl (by decide) rfl rfl ?_
              refine jx_ld (pc_q := 174) (l_q := L135) (st_q := [.int (i32 (p)), .ref 133, .int (i32 (a)), .int (i32 (p)), .ref 66]) rfl (jl_iloadn gL135_1) ?_
              refine jr_ldv (pc_q := 175) (i := 66) (m := 6) (z := p) (y := rn) rfl (by decide) rfl (by decide) (by omega) (by omega) rfl (show A182 66 (p).toNat = rn from (congrFun ((hF184.2 66 rfl).trans (hF177.2 66 rfl)) _).trans (e_rn)) ?_
              refine jx_vr (pc_q := 178) (as := [.int (i32 (p)), .int (i32 (a)), .int (i32 (rn))]) (st := []) rfl rfl rfl rfl ⟨rfl, rfl, Nat.le_of_ble_eq_true rfl⟩ rfl rfl (c_store (dd := d) (hd := by omega) (hW := hW183) (p := p) (a := a) (v := rn)   (h_p := ⟨(Int.le_trans (by decide : (-2147483648 : Int) ≤ -2147483648) h_p.1), (Int.le_trans h_p.2 (by decide : (2147483647 : Int) ≤ 2147483647))⟩) (h_a := ⟨(Int.le_trans (by decide : (-2147483648 : Int) ≤ -2147483648) h_a.1), (Int.le_trans h_a.2 (by decide : (2147483647 : Int) ≤ 2147483647))⟩) (h_v := ⟨(Int.le_trans (by decide : (-2147483648 : Int) ≤ -2147483648) b_rn.1), (Int.le_trans b_rn.2 (by decide : (2147483647 : Int) ≤ 2147483647))⟩)  (p_0 := by omega) (p_1 := by omega)) (fun o V_q hq => ?_)
              obtain ⟨G188, A189, rfl, rfl, hW190, hF191, p192, -⟩ := hq
              have hF194 := Fr_tr hF187 hF191 (Fr_sub (by decide)) (Fr_sub (by decide))
              refine .inl ⟨rfl, ?_⟩
              have hk195 : A189 64 (p).toNat = rw := (congrFun ((hF191.2 64 rfl).trans ((hF184.2 64 rfl).trans (hF177.2 64 rfl))) _).trans (e_rw)
              refine jx_ld (pc_q := 179) (l_q := L135) (st_q := [.ref 66]) rfl (jl_aloadn gL135_0) ?_
              refine jx_ld (pc_q := 180) (l_q := L135) (st_q := [.int (i32 (p)), .ref 66]) rfl (jl_iloadn gL135_1) ?_
              refine jx_vr (pc_q := 183) (as := [.int (i32 (p))]) (st := []) rfl rfl rfl rfl ⟨rfl, rfl, Nat.le_of_ble_eq_true rfl⟩ rfl rfl (c_wait0 (dd := d) (hd := by omega) (hW := hW190) (p := p)   (h_p := ⟨(Int.le_trans (by decide : (-2147483648 : Int) ≤ -2147483648) h_p.1), (Int.le_trans h_p.2 (by decide : (2147483647 : Int) ≤ 2147483647))⟩)  (p_0 := by omega) (p_1 := by omega) (p_2 := by omega)) (fun o V_q hq => ?_)
              obtain ⟨G196, A197, rfl, rfl, hW198, hF199, p200, -⟩ := hq
              have hF202 := Fr_tr hF194 hF199 (Fr_sub (by decide)) (Fr_sub (by decide))
              refine .inl ⟨rfl, ?_⟩
              refine jx_rt (v := none) rfl rfl rfl rfl rfl rfl ?_
              exact ⟨_, _, it, rfl, rfl, hW198, hF202, ((hF199.1 111 rfl).trans ((hF191.1 111 rfl).trans ((hF184.1 111 rfl).trans ((hF177.1 111 rfl).trans (e_it))))), by omega, by omega, (by first | exact inR_wai _ _ _ _ _ _ p133 (by first | exact .inr ⟨by omega, by omega⟩ | exact .inl (by first | exact ⟨by omega, by omega, by unfold hcP; omega⟩)) e_rw e_rn p178 p185 p192 p200 | omega), trivial⟩
            · have _q := h173
              refine jx_ld (pc_q := 107) (l_q := L135) (st_q := [.ref 66]) rfl (jl_aloadn gL135_0) ?_
              refine jx_ld (pc_q := 108) (l_q := L135) (st_q := [.int (i32 (p)), .ref 66]) rfl (jl_iloadn gL135_1) ?_
              refine jx_ld (pc_q := 109) (l_q := L135) (st_q := [.int (i32 (t)), .int (i32 (p)), .ref 66]) rfl (jl_iloadn gL135_3) ?_
              refine jx_ld (pc_q := 110) (l_q := L135) (st_q := [.ref 66, .int (i32 (t)), .int (i32 (p)), .ref 66]) rfl (jl_aloadn gL135_0) ?_
              refine jx_ld (pc_q := 111) (l_q := L135) (st_q := [.int (i32 (p)), .ref 66, .int (i32 (t)), .int (i32 (p)), .ref 66]) rfl (jl_iloadn gL135_1) ?_
              refine jx_ld (pc_q := 113) (l_q := L135) (st_q := [.int (i32 (r131)), .int (i32 (p)), .ref 66, .int (i32 (t)), .int (i32 (p)), .ref 66]) rfl (jl_iload gL135_4) ?_
              refine jx_ar (pc_q := 114) (st_q := [.int (i32 (1)), .int (i32 (r131)), .int (i32 (p)), .ref 66, .int (i32 (t)), .int (i32 (p)), .ref 66]) rfl rfl rfl rfl ?_
              refine jx_shr (pc_q := 115) rfl rfl ?_
              obtain ⟨b203, eb203⟩ : ∃ z, z = (i32 (r131) >>> (i32 (1) &&& 31)).toInt := ⟨_, rfl⟩
              rw [← eb203]
              have rb203 : (-2147483648 : Int) ≤ b203 ∧ b203 ≤ 2147483647 := eb203 ▸ i32_rg _
              have hb203 := (show b203 = (i32 r131 >>> (i32 1 &&& 31)).toInt from eb203).trans (shr_1 (by omega) (by omega))
              refine jx_ar (pc_q := 116) (st_q := [.int (i32 (2)), .int (i32 (b203)), .int (i32 (p)), .ref 66, .int (i32 (t)), .int (i32 (p)), .ref 66]) rfl rfl rfl rfl ?_
              refine jx_sub (pc_q := 117) rfl rfl ?_
              refine jx_vr (pc_q := 120) (as := [.int (i32 (p)), .int (i32 ((b203 - 2)))]) (st := [.int (i32 (t)), .int (i32 (p)), .ref 66]) rfl rfl rfl rfl ⟨rfl, rfl, Nat.le_of_ble_eq_true rfl⟩ rfl rfl (c_load (dd := d) (hd := by omega) (hW := hW) (p := p) (a := (b203 - 2))   (h_p := ⟨(Int.le_trans (by decide : (-2147483648 : Int) ≤ -2147483648) h_p.1), (Int.le_trans h_p.2 (by decide : (2147483647 : Int) ≤ 2147483647))⟩) (h_a := ⟨(by omega), (by omega)⟩)  (p_0 := by omega) (p_1 := by omega)) (fun o V_q hq => ?_)
              obtain ⟨r204, rfl, rfl, b205, p206, -⟩ := hq
              refine .inr ⟨_, rfl, ?_⟩
              refine jx_vr (pc_q := 123) (as := [.int (i32 (p)), .int (i32 (t)), .int (i32 (r204))]) (st := []) rfl rfl rfl rfl ⟨rfl, rfl, Nat.le_of_ble_eq_true rfl⟩ rfl rfl (c_store (dd := d) (hd := by omega) (hW := hW) (p := p) (a := t) (v := r204)   (h_p := ⟨(Int.le_trans (by decide : (-2147483648 : Int) ≤ -2147483648) h_p.1), (Int.le_trans h_p.2 (by decide : (2147483647 : Int) ≤ 2147483647))⟩) (h_a := ⟨(Int.le_trans (by decide : (-2147483648 : Int) ≤ -2147483648) h_t.1), (Int.le_trans h_t.2 (by decide : (2147483647 : Int) ≤ 2147483647))⟩) (h_v := ⟨(Int.le_trans (by decide : (-2147483648 : Int) ≤ -2147483648) b205.1), (Int.le_trans b205.2 (by decide : (2147483647 : Int) ≤ 2147483647))⟩)  (p_0 := by omega) (p_1 := by omega)) (fun o V_q hq => ?_)
              obtain ⟨G208, A209, rfl, rfl, hW210, hF211, p212, -⟩ := hq
              have hF214 := Fr_tr hF0 hF211 (Fr_sub (by decide)) (Fr_sub (by decide))
              refine .inl ⟨rfl, ?_⟩
              refine jx_ld (pc_q := 124) (l_q := L135) (st_q := [.ref 66]) rfl (jl_aloadn gL135_0) ?_
              refine jx_ld (pc_q := 125) (l_q := L135) (st_q := [.int (i32 (p)), .ref 66]) rfl (jl_iloadn gL135_1) ?_
              refine jx_ld (pc_q := 126) (l_q := L135) (st_q := [.int (i32 (a)), .int (i32 (p)), .ref 66]) rfl (jl_iloadn gL135_2) ?_
              refine jx_ar (pc_q := 127) (st_q := [.int (i32 (-1)), .int (i32 (a)), .int (i32 (p)), .ref 66]) rfl rfl rfl rfl ?_
              refine jx_vr (pc_q := 130) (as := [.int (i32 (p)), .int (i32 (a)), .int (i32 (-1))]) (st := []) rfl rfl rfl rfl ⟨rfl, rfl, Nat.le_of_ble_eq_true rfl⟩ rfl rfl (c_store (dd := d) (hd := by omega) (hW := hW210) (p := p) (a := a) (v := -1)   (h_p := ⟨(Int.le_trans (by decide : (-2147483648 : Int) ≤ -2147483648) h_p.1), (Int.le_trans h_p.2 (by decide : (2147483647 : Int) ≤ 2147483647))⟩) (h_a := ⟨(Int.le_trans (by decide : (-2147483648 : Int) ≤ -2147483648) h_a.1), (Int.le_trans h_a.2 (by decide : (2147483647 : Int) ≤ 2147483647))⟩) (h_v := ⟨(by decide), (by decide)⟩)  (p_0 := by omega) (p_1 := by omega)) (fun o V_q hq => ?_)
              obtain ⟨G215, A216, rfl, rfl, hW217, hF218, p219, -⟩ := hq
              have hF221 := Fr_tr hF214 hF218 (Fr_sub (by decide)) (Fr_sub (by decide))
              refine .inl ⟨rfl, ?_⟩
              refine jx_ld (pc_q := 131) (l_q := L135) (st_q := [.ref 66]) rfl (jl_aloadn gL135_0) ?_
              refine jx_ld (pc_q := 132) (l_q := L135) (st_q := [.int (i32 (p)), .ref 66]) rfl (jl_iloadn gL135_1) ?_
              refine jx_ld (pc_q := 134) (l_q := L135) (st_q := [.int (i32 (r131)), .int (i32 (p)), .ref 66]) rfl (jl_iload gL135_4) ?_
              refine jx_vr (pc_q := 137) (as := [.int (i32 (p)), .int (i32 (r131))]) (st := []) rfl rfl rfl rfl ⟨rfl, rfl, Nat.le_of_ble_eq_true rfl⟩ rfl rfl (c_makeReady (dd := d) (hd := by omega) (hW := hW217) (p := p) (d2 := r131) (m0 := m0) (e_m0 := show A216 72 ((2 * p)).toNat = m0 from (congrFun ((hF218.2 72 rfl).trans (hF211.2 72 rfl)) _).trans (e_m0)) (m1 := m1) (e_m1 := show A216 72 (((2 * p) + 1)).toNat = m1 from (congrFun ((hF218.2 72 rfl).trans (hF211.2 72 rfl)) _).trans (e_m1))  (h_p := ⟨(Int.le_trans (by decide : (-2147483648 : Int) ≤ -2147483648) h_p.1), (Int.le_trans h_p.2 (by decide : (2147483647 : Int) ≤ 2147483647))⟩) (h_d2 := ⟨(Int.le_trans (by decide : (-2147483648 : Int) ≤ -2147483648) b132.1), (Int.le_trans b132.2 (by decide : (2147483647 : Int) ≤ 2147483647))⟩)  (p_0 := by omega) (p_1 := by omega) (p_2 := by omega) (p_3 := by omega) (p_4 := by omega) (p_5 := by omega)) (fun o V_q hq => ?_)
              obtain ⟨G222, A223, rfl, rfl, hW224, hF225, p226, -⟩ := hq
              have hF228 := Fr_tr hF221 hF225 (Fr_sub (by decide)) (Fr_sub (by decide))
              refine .inl ⟨rfl, ?_⟩
              refine jx_rt (v := none) rfl rfl rfl rfl rfl rfl ?_
              exact ⟨_, _, it, rfl, rfl, hW224, hF228, ((hF225.1 111 rfl).trans ((hF218.1 111 rfl).trans ((hF211.1 111 rfl).trans (e_it)))), by omega, by omega, (by first | exact inR_tak _ _ _ _ _ (by omega) p133 (by omega) hb203 p206 p212 p219 p226 | omega), trivial⟩
      · have _q := h130
        exact absurd h130 (by omega)
  · have _q := h1
    refine jx_ld (pc_q := 7) (l_q := [(0, .ref 66), (1, .int (i32 (p))), (2, .int (i32 (a))), (3, .int (i32 (t)))]) (st_q := [.ref 66]) rfl (jl_aloadn rfl) ?_
    refine jx_ar (pc_q := 9) (st_q := [.int (i32 (13)), .ref 66]) rfl rfl rfl rfl ?_
    refine jx_vr (pc_q := 12) (as := [.int (i32 (13))]) (st := []) rfl rfl rfl rfl ⟨rfl, rfl, Nat.le_of_ble_eq_true rfl⟩ rfl rfl (c_hasCome2 (dd := d) (hd := by omega) (hW := hW) (a := 13) (it := it) (e_it := show G 111 = it from (e_it)) (im := im) (e_im := show G 110 = im from (e_im))  (h_a := ⟨(by decide), (by decide)⟩)  ) (fun o V_q hq => ?_)
    obtain ⟨r229, rfl, rfl, b230, q231⟩ := hq
    refine .inr ⟨_, rfl, ?_⟩
    rcases q231 with ⟨rfl, a232⟩ | ⟨rfl, a233⟩
    · have _q : True := trivial
      refine jx_if_eq (pc_q := 15) (tg := 41) rfl rfl rfl (by decide) (by decide) (fun h234 => ?_) (fun h234 => ?_)
      · have _q := h234
        exact absurd h234 (by omega)
      · have _q := h234
        have hk15 := a232; unfold hcP at hk15
        refine jx_ld (pc_q := 16) (l_q := [(0, .ref 66), (1, .int (i32 (p))), (2, .int (i32 (a))), (3, .int (i32 (t)))]) (st_q := [.ref 66]) rfl (jl_aloadn rfl) ?_
        refine jx_ld (pc_q := 17) (l_q := [(0, .ref 66), (1, .int (i32 (p))), (2, .int (i32 (a))), (3, .int (i32 (t)))]) (st_q := [.int (i32 (p)), .ref 66]) rfl (jl_iloadn rfl) ?_
        refine jx_ld (pc_q := 18) (l_q := [(0, .ref 66), (1, .int (i32 (p))), (2, .int (i32 (a))), (3, .int (i32 (t)))]) (st_q := [.int (i32 (t)), .int (i32 (p)), .ref 66]) rfl (jl_iloadn rfl) ?_
        refine jx_ld (pc_q := 19) (l_q := [(0, .ref 66), (1, .int (i32 (p))), (2, .int (i32 (a))), (3, .int (i32 (t)))]) (st_q := [.ref 66, .int (i32 (t)), .int (i32 (p)), .ref 66]) rfl (jl_aloadn rfl) ?_
        refine jr_get (pc_q := 22) (i := 109) (v := .ref 145) rfl rfl (by decide) rfl rfl ?_
        refine jx_ld (pc_q := 23) (l_q := [(0, .ref 66), (1, .int (i32 (p))), (2, .int (i32 (a))), (3, .int (i32 (t)))]) (st_q := [.ref 66, .ref 145, .int (i32 (t)), .int (i32 (p)), .ref 66]) rfl (jl_aloadn rfl) ?_
        refine jr_get (pc_q := 26) (i := 111) (v := .int (i32 (it))) rfl rfl (by decide) (rFv_eq (by decide) (show G 111 = it from (e_it))) rfl ?_
        have b235 : (-2147483648 : Int) ≤ A 78 (it).toNat ∧ A 78 (it).toNat ≤ 2147483647 := hW.2 78 _
        refine jr_ldv (pc_q := 27) (i := 78) (m := 200) (z := it) (y := A 78 (it).toNat) rfl (by decide) rfl (by decide) (by omega) (by omega) rfl (show A 78 (it).toNat = A 78 (it).toNat from rfl) ?_
        refine jx_vr (pc_q := 30) (as := [.int (i32 (p)), .int (i32 (t)), .int (i32 (A 78 (it).toNat))]) (st := []) rfl rfl rfl rfl ⟨rfl, rfl, Nat.le_of_ble_eq_true rfl⟩ rfl rfl (c_store (dd := d) (hd := by omega) (hW := hW) (p := p) (a := t) (v := A 78 (it).toNat)   (h_p := ⟨(Int.le_trans (by decide : (-2147483648 : Int) ≤ -2147483648) h_p.1), (Int.le_trans h_p.2 (by decide : (2147483647 : Int) ≤ 2147483647))⟩) (h_a := ⟨(Int.le_trans (by decide : (-2147483648 : Int) ≤ -2147483648) h_t.1), (Int.le_trans h_t.2 (by decide : (2147483647 : Int) ≤ 2147483647))⟩) (h_v := ⟨(Int.le_trans (by decide : (-2147483648 : Int) ≤ -2147483648) b235.1), (Int.le_trans b235.2 (by decide : (2147483647 : Int) ≤ 2147483647))⟩)  (p_0 := by omega) (p_1 := by omega)) (fun o V_q hq => ?_)
        obtain ⟨G236, A237, rfl, rfl, hW238, hF239, p240, -⟩ := hq
        have hF242 := Fr_tr hF0 hF239 (Fr_sub (by decide)) (Fr_sub (by decide))
        refine .inl ⟨rfl, ?_⟩
        refine jx_ld (pc_q := 31) (l_q := [(0, .ref 66), (1, .int (i32 (p))), (2, .int (i32 (a))), (3, .int (i32 (t)))]) (st_q := [.ref 66]) rfl (jl_aloadn rfl) ?_
        refine jx_ar (pc_q := 32) (st_q := [.ref 66, .ref 66]) rfl rfl rfl rfl ?_
        refine jr_get (pc_q := 35) (i := 111) (v := .int (i32 (it))) rfl rfl (by decide) (rFv_eq (by decide) (show G236 111 = it from ((hF239.1 111 rfl).trans (e_it)))) rfl ?_
        refine jx_ar (pc_q := 36) (st_q := [.int (i32 (1)), .int (i32 (it)), .ref 66]) rfl rfl rfl rfl ?_
        refine jx_add (pc_q := 37) rfl rfl ?_
        refine jr_put (pc_q := 40) (i := 111) (z := (it + 1)) rfl rfl (by decide) rfl rfl rfl rfl rfl rfl ?_
        have hW243 : Wk (uG G236 111 ((it + 1))) A237 := Wk_g hW238 (show (-2147483648 : Int) ≤ (it + 1) by omega) (show (it + 1) ≤ (2147483647 : Int) by omega)
        have hF244 := Fr_g (z := (it + 1)) (i := 111) hF242 (by decide)
        refine jx_rt (v := none) rfl rfl rfl rfl rfl rfl ?_
        exact ⟨_, _, (it + 1), rfl, rfl, hW243, hF244, rfl, by omega, by omega, (inR_key _ (by omega) (by have h9 := a232; unfold hcP at h9; omega) rfl p240), trivial⟩
    · have _q : True := trivial
      refine jx_if_eq (pc_q := 15) (tg := 41) rfl rfl rfl (by decide) (by decide) (fun h245 => ?_) (fun h245 => ?_)
      · have _q := h245
        refine jx_ld (pc_q := 42) (l_q := [(0, .ref 66), (1, .int (i32 (p))), (2, .int (i32 (a))), (3, .int (i32 (t)))]) (st_q := [.ref 66]) rfl (jl_aloadn rfl) ?_
        refine jx_ld (pc_q := 43) (l_q := [(0, .ref 66), (1, .int (i32 (p))), (2, .int (i32 (a))), (3, .int (i32 (t)))]) (st_q := [.int (i32 (a)), .ref 66]) rfl (jl_iloadn rfl) ?_
        refine jx_vr (pc_q := 46) (as := [.int (i32 (a))]) (st := []) rfl rfl rfl rfl ⟨rfl, rfl, Nat.le_of_ble_eq_true rfl⟩ rfl rfl (c_isLinkIn (dd := d) (hd := by omega) (hW := hW) (a := a)   (h_a := ⟨(Int.le_trans (by decide : (-2147483648 : Int) ≤ -2147483648) h_a.1), (Int.le_trans h_a.2 (by decide : (2147483647 : Int) ≤ 2147483647))⟩)  ) (fun o V_q hq => ?_)
        obtain ⟨r246, rfl, rfl, b247, q248⟩ := hq
        refine .inr ⟨_, rfl, ?_⟩
        rcases q248 with ⟨rfl, a249, a250⟩ | ⟨rfl, a251⟩
        · have _q : True := trivial
          refine jx_if_eq (pc_q := 49) (tg := 84) rfl rfl rfl (by decide) (by decide) (fun h252 => ?_) (fun h252 => ?_)
          · have _q := h252
            exact absurd h252 (by omega)
          · have _q := h252
            refine jx_ld (pc_q := 50) (l_q := [(0, .ref 66), (1, .int (i32 (p))), (2, .int (i32 (a))), (3, .int (i32 (t)))]) (st_q := [.ref 66]) rfl (jl_aloadn rfl) ?_
            refine jx_ld (pc_q := 51) (l_q := [(0, .ref 66), (1, .int (i32 (p))), (2, .int (i32 (a))), (3, .int (i32 (t)))]) (st_q := [.int (i32 (a)), .ref 66]) rfl (jl_iloadn rfl) ?_
            refine jx_vr (pc_q := 54) (as := [.int (i32 (a))]) (st := []) rfl rfl rfl rfl ⟨rfl, rfl, Nat.le_of_ble_eq_true rfl⟩ rfl rfl (c_hasCome2 (dd := d) (hd := by omega) (hW := hW) (a := a) (it := it) (e_it := show G 111 = it from (e_it)) (im := im) (e_im := show G 110 = im from (e_im))  (h_a := ⟨(Int.le_trans (by decide : (-2147483648 : Int) ≤ -2147483648) h_a.1), (Int.le_trans h_a.2 (by decide : (2147483647 : Int) ≤ 2147483647))⟩)  ) (fun o V_q hq => ?_)
            obtain ⟨r253, rfl, rfl, b254, q255⟩ := hq
            refine .inr ⟨_, rfl, ?_⟩
            rcases q255 with ⟨rfl, a256⟩ | ⟨rfl, a257⟩
            · have _q : True := trivial
              refine jx_if_eq (pc_q := 57) (tg := 84) rfl rfl rfl (by decide) (by decide) (fun h258 => ?_) (fun h258 => ?_)
              · have _q := h258
                exact absurd h258 (by omega)
              · have _q := h258
                refine jx_ld (pc_q := 58) (l_q := [(0, .ref 66), (1, .int (i32 (p))), (2, .int (i32 (a))), (3, .int (i32 (t)))]) (st_q := [.ref 66]) rfl (jl_aloadn rfl) ?_
                refine jx_ld (pc_q := 59) (l_q := [(0, .ref 66), (1, .int (i32 (p))), (2, .int (i32 (a))), (3, .int (i32 (t)))]) (st_q := [.int (i32 (p)), .ref 66]) rfl (jl_iloadn rfl) ?_
                refine jx_ld (pc_q := 60) (l_q := [(0, .ref 66), (1, .int (i32 (p))), (2, .int (i32 (a))), (3, .int (i32 (t)))]) (st_q := [.int (i32 (t)), .int (i32 (p)), .ref 66]) rfl (jl_iloadn rfl) ?_
                refine jx_ld (pc_q := 61) (l_q := [(0, .ref 66), (1, .int (i32 (p))), (2, .int (i32 (a))), (3, .int (i32 (t)))]) (st_q := [.ref 66, .int (i32 (t)), .int (i32 (p)), .ref 66]) rfl (jl_aloadn rfl) ?_
                refine jr_get (pc_q := 64) (i := 115) (v := .ref 148) rfl rfl (by decide) rfl rfl ?_
                refine jx_ld (pc_q := 65) (l_q := [(0, .ref 66), (1, .int (i32 (p))), (2, .int (i32 (a))), (3, .int (i32 (t)))]) (st_q := [.int (i32 (a)), .ref 148, .int (i32 (t)), .int (i32 (p)), .ref 66]) rfl (jl_iloadn rfl) ?_
                have b259 : (-2147483648 : Int) ≤ A 81 (a).toNat ∧ A 81 (a).toNat ≤ 2147483647 := hW.2 81 _
                refine jr_ldv (pc_q := 66) (i := 81) (m := 12) (z := a) (y := A 81 (a).toNat) rfl (by decide) rfl (by decide) (by omega) (by omega) rfl (show A 81 (a).toNat = A 81 (a).toNat from rfl) ?_
                refine jx_vr (pc_q := 69) (as := [.int (i32 (p)), .int (i32 (t)), .int (i32 (A 81 (a).toNat))]) (st := []) rfl rfl rfl rfl ⟨rfl, rfl, Nat.le_of_ble_eq_true rfl⟩ rfl rfl (c_store (dd := d) (hd := by omega) (hW := hW) (p := p) (a := t) (v := A 81 (a).toNat)   (h_p := ⟨(Int.le_trans (by decide : (-2147483648 : Int) ≤ -2147483648) h_p.1), (Int.le_trans h_p.2 (by decide : (2147483647 : Int) ≤ 2147483647))⟩) (h_a := ⟨(Int.le_trans (by decide : (-2147483648 : Int) ≤ -2147483648) h_t.1), (Int.le_trans h_t.2 (by decide : (2147483647 : Int) ≤ 2147483647))⟩) (h_v := ⟨(Int.le_trans (by decide : (-2147483648 : Int) ≤ -2147483648) b259.1), (Int.le_trans b259.2 (by decide : (2147483647 : Int) ≤ 2147483647))⟩)  (p_0 := by omega) (p_1 := by omega)) (fun o V_q hq => ?_)
                obtain ⟨G260, A261, rfl, rfl, hW262, hF263, p264, -⟩ := hq
                have hF266 := Fr_tr hF0 hF263 (Fr_sub (by decide)) (Fr_sub (by decide))
                refine .inl ⟨rfl, ?_⟩
                refine jx_ld (pc_q := 70) (l_q := [(0, .ref 66), (1, .int (i32 (p))), (2, .int (i32 (a))), (3, .int (i32 (t)))]) (st_q := [.ref 66]) rfl (jl_aloadn rfl) ?_
                refine jr_get (pc_q := 73) (i := 117) (v := .ref 150) rfl rfl (by decide) rfl rfl ?_
                refine jx_ld (pc_q := 74) (l_q := [(0, .ref 66), (1, .int (i32 (p))), (2, .int (i32 (a))), (3, .int (i32 (t)))]) (st_q := [.int (i32 (a)), .ref 150]) rfl (jl_iloadn rfl) ?_
                refine jx_ar (pc_q := 75) (st_q := [.int (i32 (0)), .int (i32 (a)), .ref 150]) rfl rfl rfl rfl ?_
                refine jr_st (pc_q := 76) (i := 83) (m := 12) (z := a) (y := 0) rfl (by decide) rfl (by decide) (by omega) (by omega) rfl ?_
                have hW268 : Wk G260 (uA A261 83 (a).toNat (0)) := Wk_a hW262 (show (-2147483648 : Int) ≤ 0 by omega) (show 0 ≤ (2147483647 : Int) by omega)
                have hF269 := Fr_a (z := 0) (k := 83) (n := (a).toNat) hF266 (by decide)
                obtain ⟨A267, eA267⟩ : ∃ q, q = uA A261 83 (a).toNat (0) := ⟨_, rfl⟩
                rw [← eA267]
                rw [← eA267] at hW268 hF269
                have q270 : A267 83 (a).toNat = 0 := by rw [eA267]; exact uA_eq
                refine jx_ld (pc_q := 77) (l_q := [(0, .ref 66), (1, .int (i32 (p))), (2, .int (i32 (a))), (3, .int (i32 (t)))]) (st_q := [.ref 66]) rfl (jl_aloadn rfl) ?_
                refine jr_get (pc_q := 80) (i := 118) (v := .ref 151) rfl rfl (by decide) rfl rfl ?_
                refine jx_ld (pc_q := 81) (l_q := [(0, .ref 66), (1, .int (i32 (p))), (2, .int (i32 (a))), (3, .int (i32 (t)))]) (st_q := [.int (i32 (a)), .ref 151]) rfl (jl_iloadn rfl) ?_
                refine jx_ar (pc_q := 82) (st_q := [.int (i32 (1)), .int (i32 (a)), .ref 151]) rfl rfl rfl rfl ?_
                refine jr_sb (pc_q := 83) (i := 84) (m := 12) (z := a) (y := 1) rfl (by decide) rfl (by decide) (by omega) (by omega) (by omega) rfl ?_
                have hW272 : Wk G260 (uA A267 84 (a).toNat (1)) := Wk_a hW268 (show (0 : Int) ≤ 1 by omega) (show 1 ≤ (1 : Int) by omega)
                have hF273 := Fr_a (z := 1) (k := 84) (n := (a).toNat) hF269 (by decide)
                obtain ⟨A271, eA271⟩ : ∃ q, q = uA A267 84 (a).toNat (1) := ⟨_, rfl⟩
                rw [← eA271]
                rw [← eA271] at hW272 hF273
                have q274 : A271 84 (a).toNat = 1 := by rw [eA271]; exact uA_eq
                refine jx_rt (v := none) rfl rfl rfl rfl rfl rfl ?_
                exact ⟨_, _, it, rfl, rfl, hW272, hF273, ((hF263.1 111 rfl).trans (e_it)), by omega, by omega, (inR_lnk _ _ _ (by omega) (by have h9 := a256; unfold hcP at h9; omega) rfl p264 eA267 eA271), trivial⟩
            · have _q : True := trivial
              refine jx_if_eq (pc_q := 57) (tg := 84) rfl rfl rfl (by decide) (by decide) (fun h275 => ?_) (fun h275 => ?_)
              · have _q := h275
                refine jx_ld (pc_q := 85) (l_q := [(0, .ref 66), (1, .int (i32 (p))), (2, .int (i32 (a))), (3, .int (i32 (t)))]) (st_q := [.ref 66]) rfl (jl_aloadn rfl) ?_
                refine jx_ld (pc_q := 86) (l_q := [(0, .ref 66), (1, .int (i32 (p))), (2, .int (i32 (a))), (3, .int (i32 (t)))]) (st_q := [.int (i32 (p)), .ref 66]) rfl (jl_iloadn rfl) ?_
                refine jx_ld (pc_q := 87) (l_q := [(0, .ref 66), (1, .int (i32 (p))), (2, .int (i32 (a))), (3, .int (i32 (t)))]) (st_q := [.int (i32 (a)), .int (i32 (p)), .ref 66]) rfl (jl_iloadn rfl) ?_
                refine jx_vr (pc_q := 90) (as := [.int (i32 (p)), .int (i32 (a))]) (st := []) rfl rfl rfl rfl ⟨rfl, rfl, Nat.le_of_ble_eq_true rfl⟩ rfl rfl (c_load (dd := d) (hd := by omega) (hW := hW) (p := p) (a := a)   (h_p := ⟨(Int.le_trans (by decide : (-2147483648 : Int) ≤ -2147483648) h_p.1), (Int.le_trans h_p.2 (by decide : (2147483647 : Int) ≤ 2147483647))⟩) (h_a := ⟨(Int.le_trans (by decide : (-2147483648 : Int) ≤ -2147483648) h_a.1), (Int.le_trans h_a.2 (by decide : (2147483647 : Int) ≤ 2147483647))⟩)  (p_0 := by omega) (p_1 := by omega)) (fun o V_q hq => ?_)
                obtain ⟨r276, rfl, rfl, b277, p278, -⟩ := hq
                refine .inr ⟨_, rfl, ?_⟩
                refine jx_ld (pc_q := 92) (l_q := jSto1 [(0, .ref 66), (1, .int (i32 (p))), (2, .int (i32 (a))), (3, .int (i32 (t)))] 4 (.int (i32 (r276)))) (st_q := []) rfl rfl ?_
                obtain ⟨L280, eL280⟩ : ∃ q, q = jSto1 [(0, .ref 66), (1, .int (i32 (p))), (2, .int (i32 (a))), (3, .int (i32 (t)))] 4 (.int (i32 (r276))) := ⟨_, rfl⟩
                rw [← eL280]
                have gL280_0 : jGet L280 0 = some (.ref 66) := eL280 ▸ jg_ne (by decide) (rfl : jGet [(0, .ref 66), (1, .int (i32 (p))), (2, .int (i32 (a))), (3, .int (i32 (t)))] 0 = some (.ref 66)) rfl
                have gL280_1 : jGet L280 1 = some (.int (i32 (p))) := eL280 ▸ jg_ne (by decide) (rfl : jGet [(0, .ref 66), (1, .int (i32 (p))), (2, .int (i32 (a))), (3, .int (i32 (t)))] 1 = some (.int (i32 (p)))) rfl
                have gL280_2 : jGet L280 2 = some (.int (i32 (a))) := eL280 ▸ jg_ne (by decide) (rfl : jGet [(0, .ref 66), (1, .int (i32 (p))), (2, .int (i32 (a))), (3, .int (i32 (t)))] 2 = some (.int (i32 (a)))) rfl
                have gL280_3 : jGet L280 3 = some (.int (i32 (t))) := eL280 ▸ jg_ne (by decide) (rfl : jGet [(0, .ref 66), (1, .int (i32 (p))), (2, .int (i32 (a))), (3, .int (i32 (t)))] 3 = some (.int (i32 (t)))) rfl
                have gL280_4 : jGet L280 4 = some (.int (i32 (r276))) := eL280 ▸ jg_eq
                refine jx_ld (pc_q := 93) (l_q := L280) (st_q := [.ref 66]) rfl (jl_aloadn gL280_0) ?_
                refine jx_ld (pc_q := 94) (l_q := L280) (st_q := [.int (i32 (a)), .ref 66]) rfl (jl_iloadn gL280_2) ?_
                refine jx_vr (pc_q := 97) (as := [.int (i32 (a))]) (st := []) rfl rfl rfl rfl ⟨rfl, rfl, Nat.le_of_ble_eq_true rfl⟩ rfl rfl (c_isOutside (dd := d) (hd := by omega) (hW := hW) (a := a)   (h_a := ⟨(Int.le_trans (by decide : (-2147483648 : Int) ≤ -2147483648) h_a.1), (Int.le_trans h_a.2 (by decide : (2147483647 : Int) ≤ 2147483647))⟩)  ) (fun o V_q hq => ?_)
                obtain ⟨r281, rfl, rfl, b282, q283⟩ := hq
                refine .inr ⟨_, rfl, ?_⟩
                rcases q283 with ⟨rfl, a284, a285⟩ | ⟨rfl, a286⟩
                · have _q : True := trivial
                  refine jx_if_ne (pc_q := 100) (tg := 138) rfl rfl rfl (by decide) (by decide) (fun h287 => ?_) (fun h287 => ?_)
                  · have _q := h287
                    refine jx_ld (pc_q := 139) (l_q := L280) (st_q := [.ref 66]) rfl (jl_aloadn gL280_0) ?_
                    refine jx_ld (pc_q := 140) (l_q := L280) (st_q := [.int (i32 (p)), .ref 66]) rfl (jl_iloadn gL280_1) ?_
                    refine jx_ld (pc_q := 141) (l_q := L280) (st_q := [.ref 66, .int (i32 (p)), .ref 66]) rfl (jl_aloadn gL280_0) ?_
                    refine jr_get (pc_q := 144) (i := 95) (v := .ref 131) rfl rfl (by decide) rfl rfl ?_
                    refine jx_ld (pc_q := 145) (l_q := L280) (st_q := [.int (i32 (p)), .ref 131, .int (i32 (p)), .ref 66]) rfl (jl_iloadn gL280_1) ?_
                    refine jr_ldv (pc_q := 146) (i := 64) (m := 6) (z := p) (y := rw) rfl (by decide) rfl (by decide) (by omega) (by omega) rfl (show A 64 (p).toNat = rw from (e_rw)) ?_
                    refine jx_ar (pc_q := 147) (st_q := [.int (i32 (2)), .int (i32 (rw)), .int (i32 (p)), .ref 66]) rfl rfl rfl rfl ?_
                    refine jx_sub (pc_q := 148) rfl rfl ?_
                    refine jx_ld (pc_q := 149) (l_q := L280) (st_q := [.int (i32 (t)), .int (i32 ((rw - 2))), .int (i32 (p)), .ref 66]) rfl (jl_iloadn gL280_3) ?_
                    refine jx_vr (pc_q := 152) (as := [.int (i32 (p)), .int (i32 ((rw - 2))), .int (i32 (t))]) (st := []) rfl rfl rfl rfl ⟨rfl, rfl, Nat.le_of_ble_eq_true rfl⟩ rfl rfl (c_store (dd := d) (hd := by omega) (hW := hW) (p := p) (a := (rw - 2)) (v := t)   (h_p := ⟨(Int.le_trans (by decide : (-2147483648 : Int) ≤ -2147483648) h_p.1), (Int.le_trans h_p.2 (by decide : (2147483647 : Int) ≤ 2147483647))⟩) (h_a := ⟨(by omega), (by omega)⟩) (h_v := ⟨(Int.le_trans (by decide : (-2147483648 : Int) ≤ -2147483648) h_t.1), (Int.le_trans h_t.2 (by decide : (2147483647 : Int) ≤ 2147483647))⟩)  (p_0 := by omega) (p_1 := by omega)) (fun o V_q hq => ?_)
                    obtain ⟨G288, A289, rfl, rfl, hW290, hF291, p292, -⟩ := hq
                    have hF294 := Fr_tr hF0 hF291 (Fr_sub (by decide)) (Fr_sub (by decide))
                    refine .inl ⟨rfl, ?_⟩
                    refine jx_ld (pc_q := 153) (l_q := L280) (st_q := [.ref 66]) rfl (jl_aloadn gL280_0) ?_
                    refine jx_ld (pc_q := 154) (l_q := L280) (st_q := [.int (i32 (p)), .ref 66]) rfl (jl_iloadn gL280_1) ?_
                    refine jx_ld (pc_q := 155) (l_q := L280) (st_q := [.ref 66, .int (i32 (p)), .ref 66]) rfl (jl_aloadn gL280_0) ?_
                    refine jr_get (pc_q := 158) (i := 95) (v := .ref 131) rfl rfl (by decide) rfl rfl ?_
                    refine jx_ld (pc_q := 159) (l_q := L280) (st_q := [.int (i32 (p)), .ref 131, .int (i32 (p)), .ref 66]) rfl (jl_iloadn gL280_1) ?_
                    refine jr_ldv (pc_q := 160) (i := 64) (m := 6) (z := p) (y := rw) rfl (by decide) rfl (by decide) (by omega) (by omega) rfl (show A289 64 (p).toNat = rw from (congrFun (hF291.2 64 rfl) _).trans (e_rw)) ?_
                    refine jx_ar (pc_q := 161) (st_q := [.int (i32 (3)), .int (i32 (rw)), .int (i32 (p)), .ref 66]) rfl rfl rfl rfl ?_
                    refine jx_sub (pc_q := 162) rfl rfl ?_
                    refine jx_ar (pc_q := 163) (st_q := [.int (i32 (0)), .int (i32 ((rw - 3))), .int (i32 (p)), .ref 66]) rfl rfl rfl rfl ?_
                    refine jx_vr (pc_q := 166) (as := [.int (i32 (p)), .int (i32 ((rw - 3))), .int (i32 (0))]) (st := []) rfl rfl rfl rfl ⟨rfl, rfl, Nat.le_of_ble_eq_true rfl⟩ rfl rfl (c_store (dd := d) (hd := by omega) (hW := hW290) (p := p) (a := (rw - 3)) (v := 0)   (h_p := ⟨(Int.le_trans (by decide : (-2147483648 : Int) ≤ -2147483648) h_p.1), (Int.le_trans h_p.2 (by decide : (2147483647 : Int) ≤ 2147483647))⟩) (h_a := ⟨(by omega), (by omega)⟩) (h_v := ⟨(by decide), (by decide)⟩)  (p_0 := by omega) (p_1 := by omega)) (fun o V_q hq => ?_)
                    obtain ⟨G295, A296, rfl, rfl, hW297, hF298, p299, -⟩ := hq
                    have hF301 := Fr_tr hF294 hF298 (Fr_sub (by decide)) (Fr_sub (by decide))
                    refine .inl ⟨rfl, ?_⟩
                    refine jx_ld (pc_q := 167) (l_q := L280) (st_q := [.ref 66]) rfl (jl_aloadn gL280_0) ?_
                    refine jx_ld (pc_q := 168) (l_q := L280) (st_q := [.int (i32 (p)), .ref 66]) rfl (jl_iloadn gL280_1) ?_
                    refine jx_ld (pc_q := 169) (l_q := L280) (st_q := [.int (i32 (a)), .int (i32 (p)), .ref 66]) rfl (jl_iloadn gL280_2) ?_
                    refine jx_ld (pc_q := 170) (l_q := L280) (st_q := [.ref 66, .int (i32 (a)), .int (i32 (p)), .ref 66]) rfl (jl_aloadn gL280_0) ?_
                    refine jr_get (pc_q := 173) (i := 97) (v := .ref 133) rfl rfl (by decide) rfl rfl ?_
                    refine jx_ld (pc_q := 174) (l_q := L280) (st_q := [.int (i32 (p)), .ref 133, .int (i32 (a)), .int (i32 (p)), .ref 66]) rfl (jl_iloadn gL280_1) ?_
                    refine jr_ldv (pc_q := 175) (i := 66) (m := 6) (z := p) (y := rn) rfl (by decide) rfl (by decide) (by omega) (by omega) rfl (show A296 66 (p).toNat = rn from (congrFun ((hF298.2 66 rfl).trans (hF291.2 66 rfl)) _).trans (e_rn)) ?_
                    refine jx_vr (pc_q := 178) (as := [.int (i32 (p)), .int (i32 (a)), .int (i32 (rn))]) (st := []) rfl rfl rfl rfl ⟨rfl, rfl, Nat.le_of_ble_eq_true rfl⟩ rfl rfl (c_store (dd := d) (hd := by omega) (hW := hW297) (p := p) (a := a) (v := rn)   (h_p := ⟨(Int.le_trans (by decide : (-2147483648 : Int) ≤ -2147483648) h_p.1), (Int.le_trans h_p.2 (by decide : (2147483647 : Int) ≤ 2147483647))⟩) (h_a := ⟨(Int.le_trans (by decide : (-2147483648 : Int) ≤ -2147483648) h_a.1), (Int.le_trans h_a.2 (by decide : (2147483647 : Int) ≤ 2147483647))⟩) (h_v := ⟨(Int.le_trans (by decide : (-2147483648 : Int) ≤ -2147483648) b_rn.1), (Int.le_trans b_rn.2 (by decide : (2147483647 : Int) ≤ 2147483647))⟩)  (p_0 := by omega) (p_1 := by omega)) (fun o V_q hq => ?_)
                    obtain ⟨G302, A303, rfl, rfl, hW304, hF305, p306, -⟩ := hq
                    have hF308 := Fr_tr hF301 hF305 (Fr_sub (by decide)) (Fr_sub (by decide))
                    refine .inl ⟨rfl, ?_⟩
                    have hk309 : A303 64 (p).toNat = rw := (congrFun ((hF305.2 64 rfl).trans ((hF298.2 64 rfl).trans (hF291.2 64 rfl))) _).trans (e_rw)
                    refine jx_ld (pc_q := 179) (l_q := L280) (st_q := [.ref 66]) rfl (jl_aloadn gL280_0) ?_
                    refine jx_ld (pc_q := 180) (l_q := L280) (st_q := [.int (i32 (p)), .ref 66]) rfl (jl_iloadn gL280_1) ?_
                    refine jx_vr (pc_q := 183) (as := [.int (i32 (p))]) (st := []) rfl rfl rfl rfl ⟨rfl, rfl, Nat.le_of_ble_eq_true rfl⟩ rfl rfl (c_wait0 (dd := d) (hd := by omega) (hW := hW304) (p := p)   (h_p := ⟨(Int.le_trans (by decide : (-2147483648 : Int) ≤ -2147483648) h_p.1), (Int.le_trans h_p.2 (by decide : (2147483647 : Int) ≤ 2147483647))⟩)  (p_0 := by omega) (p_1 := by omega) (p_2 := by omega)) (fun o V_q hq => ?_)
                    obtain ⟨G310, A311, rfl, rfl, hW312, hF313, p314, -⟩ := hq
                    have hF316 := Fr_tr hF308 hF313 (Fr_sub (by decide)) (Fr_sub (by decide))
                    refine .inl ⟨rfl, ?_⟩
                    refine jx_rt (v := none) rfl rfl rfl rfl rfl rfl ?_
                    exact ⟨_, _, it, rfl, rfl, hW312, hF316, ((hF313.1 111 rfl).trans ((hF305.1 111 rfl).trans ((hF298.1 111 rfl).trans ((hF291.1 111 rfl).trans (e_it))))), by omega, by omega, (by first | exact inR_wai _ _ _ _ _ _ p278 (by first | exact .inr ⟨by omega, by omega⟩ | exact .inl (by first | exact ⟨by omega, by omega, a233⟩ | exact ⟨by omega, by omega, a257⟩ | exact ⟨by omega, by omega, (by rw [show a = 13 by omega]; exact a233)⟩ | exact ⟨by omega, by omega, (by rw [show a = 13 by omega]; exact a257)⟩ | exact ⟨by omega, by omega, by unfold hcP; omega⟩)) e_rw e_rn p292 p299 p306 p314 | omega), trivial⟩
                  · have _q := h287
                    exact absurd h287 (by omega)
                · have _q : True := trivial
                  refine jx_if_ne (pc_q := 100) (tg := 138) rfl rfl rfl (by decide) (by decide) (fun h317 => ?_) (fun h317 => ?_)
                  · have _q := h317
                    exact absurd h317 (by omega)
                  · have _q := h317
                    refine jx_ld (pc_q := 102) (l_q := L280) (st_q := [.int (i32 (r276))]) rfl (jl_iload gL280_4) ?_
                    refine jx_ar (pc_q := 103) (st_q := [.int (i32 (-1)), .int (i32 (r276))]) rfl rfl rfl rfl ?_
                    refine jx_icmp_eq (pc_q := 106) (tg := 138) rfl rfl rfl (Int.le_trans (by decide : (-2147483648 : Int) ≤ -2147483648) b277.1) (Int.le_trans b277.2 (by decide : (2147483647 : Int) ≤ 2147483647)) (by decide) (by decide) (fun h318 => ?_) (fun h318 => ?_)
                    · have _q := h318
                      refine jx_ld (pc_q := 139) (l_q := L280) (st_q := [.ref 66]) rfl (jl_aloadn gL280_0) ?_
                      refine jx_ld (pc_q := 140) (l_q := L280) (st_q := [.int (i32 (p)), .ref 66]) rfl (jl_iloadn gL280_1) ?_
                      refine jx_ld (pc_q := 141) (l_q := L280) (st_q := [.ref 66, .int (i32 (p)), .ref 66]) rfl (jl_aloadn gL280_0) ?_
                      refine jr_get (pc_q := 144) (i := 95) (v := .ref 131) rfl rfl (by decide) rfl rfl ?_
                      refine jx_ld (pc_q := 145) (l_q := L280) (st_q := [.int (i32 (p)), .ref 131, .int (i32 (p)), .ref 66]) rfl (jl_iloadn gL280_1) ?_
                      refine jr_ldv (pc_q := 146) (i := 64) (m := 6) (z := p) (y := rw) rfl (by decide) rfl (by decide) (by omega) (by omega) rfl (show A 64 (p).toNat = rw from (e_rw)) ?_
                      refine jx_ar (pc_q := 147) (st_q := [.int (i32 (2)), .int (i32 (rw)), .int (i32 (p)), .ref 66]) rfl rfl rfl rfl ?_
                      refine jx_sub (pc_q := 148) rfl rfl ?_
                      refine jx_ld (pc_q := 149) (l_q := L280) (st_q := [.int (i32 (t)), .int (i32 ((rw - 2))), .int (i32 (p)), .ref 66]) rfl (jl_iloadn gL280_3) ?_
                      refine jx_vr (pc_q := 152) (as := [.int (i32 (p)), .int (i32 ((rw - 2))), .int (i32 (t))]) (st := []) rfl rfl rfl rfl ⟨rfl, rfl, Nat.le_of_ble_eq_true rfl⟩ rfl rfl (c_store (dd := d) (hd := by omega) (hW := hW) (p := p) (a := (rw - 2)) (v := t)   (h_p := ⟨(Int.le_trans (by decide : (-2147483648 : Int) ≤ -2147483648) h_p.1), (Int.le_trans h_p.2 (by decide : (2147483647 : Int) ≤ 2147483647))⟩) (h_a := ⟨(by omega), (by omega)⟩) (h_v := ⟨(Int.le_trans (by decide : (-2147483648 : Int) ≤ -2147483648) h_t.1), (Int.le_trans h_t.2 (by decide : (2147483647 : Int) ≤ 2147483647))⟩)  (p_0 := by omega) (p_1 := by omega)) (fun o V_q hq => ?_)
                      obtain ⟨G319, A320, rfl, rfl, hW321, hF322, p323, -⟩ := hq
                      have hF325 := Fr_tr hF0 hF322 (Fr_sub (by decide)) (Fr_sub (by decide))
                      refine .inl ⟨rfl, ?_⟩
                      refine jx_ld (pc_q := 153) (l_q := L280) (st_q := [.ref 66]) rfl (jl_aloadn gL280_0) ?_
                      refine jx_ld (pc_q := 154) (l_q := L280) (st_q := [.int (i32 (p)), .ref 66]) rfl (jl_iloadn gL280_1) ?_
                      refine jx_ld (pc_q := 155) (l_q := L280) (st_q := [.ref 66, .int (i32 (p)), .ref 66]) rfl (jl_aloadn gL280_0) ?_
                      refine jr_get (pc_q := 158) (i := 95) (v := .ref 131) rfl rfl (by decide) rfl rfl ?_
                      refine jx_ld (pc_q := 159) (l_q := L280) (st_q := [.int (i32 (p)), .ref 131, .int (i32 (p)), .ref 66]) rfl (jl_iloadn gL280_1) ?_
                      refine jr_ldv (pc_q := 160) (i := 64) (m := 6) (z := p) (y := rw) rfl (by decide) rfl (by decide) (by omega) (by omega) rfl (show A320 64 (p).toNat = rw from (congrFun (hF322.2 64 rfl) _).trans (e_rw)) ?_
                      refine jx_ar (pc_q := 161) (st_q := [.int (i32 (3)), .int (i32 (rw)), .int (i32 (p)), .ref 66]) rfl rfl rfl rfl ?_
                      refine jx_sub (pc_q := 162) rfl rfl ?_
                      refine jx_ar (pc_q := 163) (st_q := [.int (i32 (0)), .int (i32 ((rw - 3))), .int (i32 (p)), .ref 66]) rfl rfl rfl rfl ?_
                      refine jx_vr (pc_q := 166) (as := [.int (i32 (p)), .int (i32 ((rw - 3))), .int (i32 (0))]) (st := []) rfl rfl rfl rfl ⟨rfl, rfl, Nat.le_of_ble_eq_true rfl⟩ rfl rfl (c_store (dd := d) (hd := by omega) (hW := hW321) (p := p) (a := (rw - 3)) (v := 0)   (h_p := ⟨(Int.le_trans (by decide : (-2147483648 : Int) ≤ -2147483648) h_p.1), (Int.le_trans h_p.2 (by decide : (2147483647 : Int) ≤ 2147483647))⟩) (h_a := ⟨(by omega), (by omega)⟩) (h_v := ⟨(by decide), (by decide)⟩)  (p_0 := by omega) (p_1 := by omega)) (fun o V_q hq => ?_)
                      obtain ⟨G326, A327, rfl, rfl, hW328, hF329, p330, -⟩ := hq
                      have hF332 := Fr_tr hF325 hF329 (Fr_sub (by decide)) (Fr_sub (by decide))
                      refine .inl ⟨rfl, ?_⟩
                      refine jx_ld (pc_q := 167) (l_q := L280) (st_q := [.ref 66]) rfl (jl_aloadn gL280_0) ?_
                      refine jx_ld (pc_q := 168) (l_q := L280) (st_q := [.int (i32 (p)), .ref 66]) rfl (jl_iloadn gL280_1) ?_
                      refine jx_ld (pc_q := 169) (l_q := L280) (st_q := [.int (i32 (a)), .int (i32 (p)), .ref 66]) rfl (jl_iloadn gL280_2) ?_
                      refine jx_ld (pc_q := 170) (l_q := L280) (st_q := [.ref 66, .int (i32 (a)), .int (i32 (p)), .ref 66]) rfl (jl_aloadn gL280_0) ?_
                      refine jr_get (pc_q := 173) (i := 97) (v := .ref 133) rfl rfl (by decide) rfl rfl ?_
                      refine jx_ld (pc_q := 174) (l_q := L280) (st_q := [.int (i32 (p)), .ref 133, .int (i32 (a)), .int (i32 (p)), .ref 66]) rfl (jl_iloadn gL280_1) ?_
                      refine jr_ldv (pc_q := 175) (i := 66) (m := 6) (z := p) (y := rn) rfl (by decide) rfl (by decide) (by omega) (by omega) rfl (show A327 66 (p).toNat = rn from (congrFun ((hF329.2 66 rfl).trans (hF322.2 66 rfl)) _).trans (e_rn)) ?_
                      refine jx_vr (pc_q := 178) (as := [.int (i32 (p)), .int (i32 (a)), .int (i32 (rn))]) (st := []) rfl rfl rfl rfl ⟨rfl, rfl, Nat.le_of_ble_eq_true rfl⟩ rfl rfl (c_store (dd := d) (hd := by omega) (hW := hW328) (p := p) (a := a) (v := rn)   (h_p := ⟨(Int.le_trans (by decide : (-2147483648 : Int) ≤ -2147483648) h_p.1), (Int.le_trans h_p.2 (by decide : (2147483647 : Int) ≤ 2147483647))⟩) (h_a := ⟨(Int.le_trans (by decide : (-2147483648 : Int) ≤ -2147483648) h_a.1), (Int.le_trans h_a.2 (by decide : (2147483647 : Int) ≤ 2147483647))⟩) (h_v := ⟨(Int.le_trans (by decide : (-2147483648 : Int) ≤ -2147483648) b_rn.1), (Int.le_trans b_rn.2 (by decide : (2147483647 : Int) ≤ 2147483647))⟩)  (p_0 := by omega) (p_1 := by omega)) (fun o V_q hq => ?_)
                      obtain ⟨G333, A334, rfl, rfl, hW335, hF336, p337, -⟩ := hq
                      have hF339 := Fr_tr hF332 hF336 (Fr_sub (by decide)) (Fr_sub (by decide))
                      refine .inl ⟨rfl, ?_⟩
                      have hk340 : A334 64 (p).toNat = rw := (congrFun ((hF336.2 64 rfl).trans ((hF329.2 64 rfl).trans (hF322.2 64 rfl))) _).trans (e_rw)
                      refine jx_ld (pc_q := 179) (l_q := L280) (st_q := [.ref 66]) rfl (jl_aloadn gL280_0) ?_
                      refine jx_ld (pc_q := 180) (l_q := L280) (st_q := [.int (i32 (p)), .ref 66]) rfl (jl_iloadn gL280_1) ?_
                      refine jx_vr (pc_q := 183) (as := [.int (i32 (p))]) (st := []) rfl rfl rfl rfl ⟨rfl, rfl, Nat.le_of_ble_eq_true rfl⟩ rfl rfl (c_wait0 (dd := d) (hd := by omega) (hW := hW335) (p := p)   (h_p := ⟨(Int.le_trans (by decide : (-2147483648 : Int) ≤ -2147483648) h_p.1), (Int.le_trans h_p.2 (by decide : (2147483647 : Int) ≤ 2147483647))⟩)  (p_0 := by omega) (p_1 := by omega) (p_2 := by omega)) (fun o V_q hq => ?_)
                      obtain ⟨G341, A342, rfl, rfl, hW343, hF344, p345, -⟩ := hq
                      have hF347 := Fr_tr hF339 hF344 (Fr_sub (by decide)) (Fr_sub (by decide))
                      refine .inl ⟨rfl, ?_⟩
                      refine jx_rt (v := none) rfl rfl rfl rfl rfl rfl ?_
                      exact ⟨_, _, it, rfl, rfl, hW343, hF347, ((hF344.1 111 rfl).trans ((hF336.1 111 rfl).trans ((hF329.1 111 rfl).trans ((hF322.1 111 rfl).trans (e_it))))), by omega, by omega, (by first | exact inR_wai _ _ _ _ _ _ p278 (by first | exact .inr ⟨by omega, by omega⟩ | exact .inl (by first | exact ⟨by omega, by omega, a233⟩ | exact ⟨by omega, by omega, a257⟩ | exact ⟨by omega, by omega, (by rw [show a = 13 by omega]; exact a233)⟩ | exact ⟨by omega, by omega, (by rw [show a = 13 by omega]; exact a257)⟩ | exact ⟨by omega, by omega, by unfold hcP; omega⟩)) e_rw e_rn p323 p330 p337 p345 | omega), trivial⟩
                    · have _q := h318
                      refine jx_ld (pc_q := 107) (l_q := L280) (st_q := [.ref 66]) rfl (jl_aloadn gL280_0) ?_
                      refine jx_ld (pc_q := 108) (l_q := L280) (st_q := [.int (i32 (p)), .ref 66]) rfl (jl_iloadn gL280_1) ?_
                      refine jx_ld (pc_q := 109) (l_q := L280) (st_q := [.int (i32 (t)), .int (i32 (p)), .ref 66]) rfl (jl_iloadn gL280_3) ?_
                      refine jx_ld (pc_q := 110) (l_q := L280) (st_q := [.ref 66, .int (i32 (t)), .int (i32 (p)), .ref 66]) rfl (jl_aloadn gL280_0) ?_
                      refine jx_ld (pc_q := 111) (l_q := L280) (st_q := [.int (i32 (p)), .ref 66, .int (i32 (t)), .int (i32 (p)), .ref 66]) rfl (jl_iloadn gL280_1) ?_
                      refine jx_ld (pc_q := 113) (l_q := L280) (st_q := [.int (i32 (r276)), .int (i32 (p)), .ref 66, .int (i32 (t)), .int (i32 (p)), .ref 66]) rfl (jl_iload gL280_4) ?_
                      refine jx_ar (pc_q := 114) (st_q := [.int (i32 (1)), .int (i32 (r276)), .int (i32 (p)), .ref 66, .int (i32 (t)), .int (i32 (p)), .ref 66]) rfl rfl rfl rfl ?_
                      refine jx_shr (pc_q := 115) rfl rfl ?_
                      obtain ⟨b348, eb348⟩ : ∃ z, z = (i32 (r276) >>> (i32 (1) &&& 31)).toInt := ⟨_, rfl⟩
                      rw [← eb348]
                      have rb348 : (-2147483648 : Int) ≤ b348 ∧ b348 ≤ 2147483647 := eb348 ▸ i32_rg _
                      have hb348 := (show b348 = (i32 r276 >>> (i32 1 &&& 31)).toInt from eb348).trans (shr_1 (by omega) (by omega))
                      refine jx_ar (pc_q := 116) (st_q := [.int (i32 (2)), .int (i32 (b348)), .int (i32 (p)), .ref 66, .int (i32 (t)), .int (i32 (p)), .ref 66]) rfl rfl rfl rfl ?_
                      refine jx_sub (pc_q := 117) rfl rfl ?_
                      refine jx_vr (pc_q := 120) (as := [.int (i32 (p)), .int (i32 ((b348 - 2)))]) (st := [.int (i32 (t)), .int (i32 (p)), .ref 66]) rfl rfl rfl rfl ⟨rfl, rfl, Nat.le_of_ble_eq_true rfl⟩ rfl rfl (c_load (dd := d) (hd := by omega) (hW := hW) (p := p) (a := (b348 - 2))   (h_p := ⟨(Int.le_trans (by decide : (-2147483648 : Int) ≤ -2147483648) h_p.1), (Int.le_trans h_p.2 (by decide : (2147483647 : Int) ≤ 2147483647))⟩) (h_a := ⟨(by omega), (by omega)⟩)  (p_0 := by omega) (p_1 := by omega)) (fun o V_q hq => ?_)
                      obtain ⟨r349, rfl, rfl, b350, p351, -⟩ := hq
                      refine .inr ⟨_, rfl, ?_⟩
                      refine jx_vr (pc_q := 123) (as := [.int (i32 (p)), .int (i32 (t)), .int (i32 (r349))]) (st := []) rfl rfl rfl rfl ⟨rfl, rfl, Nat.le_of_ble_eq_true rfl⟩ rfl rfl (c_store (dd := d) (hd := by omega) (hW := hW) (p := p) (a := t) (v := r349)   (h_p := ⟨(Int.le_trans (by decide : (-2147483648 : Int) ≤ -2147483648) h_p.1), (Int.le_trans h_p.2 (by decide : (2147483647 : Int) ≤ 2147483647))⟩) (h_a := ⟨(Int.le_trans (by decide : (-2147483648 : Int) ≤ -2147483648) h_t.1), (Int.le_trans h_t.2 (by decide : (2147483647 : Int) ≤ 2147483647))⟩) (h_v := ⟨(Int.le_trans (by decide : (-2147483648 : Int) ≤ -2147483648) b350.1), (Int.le_trans b350.2 (by decide : (2147483647 : Int) ≤ 2147483647))⟩)  (p_0 := by omega) (p_1 := by omega)) (fun o V_q hq => ?_)
                      obtain ⟨G353, A354, rfl, rfl, hW355, hF356, p357, -⟩ := hq
                      have hF359 := Fr_tr hF0 hF356 (Fr_sub (by decide)) (Fr_sub (by decide))
                      refine .inl ⟨rfl, ?_⟩
                      refine jx_ld (pc_q := 124) (l_q := L280) (st_q := [.ref 66]) rfl (jl_aloadn gL280_0) ?_
                      refine jx_ld (pc_q := 125) (l_q := L280) (st_q := [.int (i32 (p)), .ref 66]) rfl (jl_iloadn gL280_1) ?_
                      refine jx_ld (pc_q := 126) (l_q := L280) (st_q := [.int (i32 (a)), .int (i32 (p)), .ref 66]) rfl (jl_iloadn gL280_2) ?_
                      refine jx_ar (pc_q := 127) (st_q := [.int (i32 (-1)), .int (i32 (a)), .int (i32 (p)), .ref 66]) rfl rfl rfl rfl ?_
                      refine jx_vr (pc_q := 130) (as := [.int (i32 (p)), .int (i32 (a)), .int (i32 (-1))]) (st := []) rfl rfl rfl rfl ⟨rfl, rfl, Nat.le_of_ble_eq_true rfl⟩ rfl rfl (c_store (dd := d) (hd := by omega) (hW := hW355) (p := p) (a := a) (v := -1)   (h_p := ⟨(Int.le_trans (by decide : (-2147483648 : Int) ≤ -2147483648) h_p.1), (Int.le_trans h_p.2 (by decide : (2147483647 : Int) ≤ 2147483647))⟩) (h_a := ⟨(Int.le_trans (by decide : (-2147483648 : Int) ≤ -2147483648) h_a.1), (Int.le_trans h_a.2 (by decide : (2147483647 : Int) ≤ 2147483647))⟩) (h_v := ⟨(by decide), (by decide)⟩)  (p_0 := by omega) (p_1 := by omega)) (fun o V_q hq => ?_)
                      obtain ⟨G360, A361, rfl, rfl, hW362, hF363, p364, -⟩ := hq
                      have hF366 := Fr_tr hF359 hF363 (Fr_sub (by decide)) (Fr_sub (by decide))
                      refine .inl ⟨rfl, ?_⟩
                      refine jx_ld (pc_q := 131) (l_q := L280) (st_q := [.ref 66]) rfl (jl_aloadn gL280_0) ?_
                      refine jx_ld (pc_q := 132) (l_q := L280) (st_q := [.int (i32 (p)), .ref 66]) rfl (jl_iloadn gL280_1) ?_
                      refine jx_ld (pc_q := 134) (l_q := L280) (st_q := [.int (i32 (r276)), .int (i32 (p)), .ref 66]) rfl (jl_iload gL280_4) ?_
                      refine jx_vr (pc_q := 137) (as := [.int (i32 (p)), .int (i32 (r276))]) (st := []) rfl rfl rfl rfl ⟨rfl, rfl, Nat.le_of_ble_eq_true rfl⟩ rfl rfl (c_makeReady (dd := d) (hd := by omega) (hW := hW362) (p := p) (d2 := r276) (m0 := m0) (e_m0 := show A361 72 ((2 * p)).toNat = m0 from (congrFun ((hF363.2 72 rfl).trans (hF356.2 72 rfl)) _).trans (e_m0)) (m1 := m1) (e_m1 := show A361 72 (((2 * p) + 1)).toNat = m1 from (congrFun ((hF363.2 72 rfl).trans (hF356.2 72 rfl)) _).trans (e_m1))  (h_p := ⟨(Int.le_trans (by decide : (-2147483648 : Int) ≤ -2147483648) h_p.1), (Int.le_trans h_p.2 (by decide : (2147483647 : Int) ≤ 2147483647))⟩) (h_d2 := ⟨(Int.le_trans (by decide : (-2147483648 : Int) ≤ -2147483648) b277.1), (Int.le_trans b277.2 (by decide : (2147483647 : Int) ≤ 2147483647))⟩)  (p_0 := by omega) (p_1 := by omega) (p_2 := by omega) (p_3 := by omega) (p_4 := by omega) (p_5 := by omega)) (fun o V_q hq => ?_)
                      obtain ⟨G367, A368, rfl, rfl, hW369, hF370, p371, -⟩ := hq
                      have hF373 := Fr_tr hF366 hF370 (Fr_sub (by decide)) (Fr_sub (by decide))
                      refine .inl ⟨rfl, ?_⟩
                      refine jx_rt (v := none) rfl rfl rfl rfl rfl rfl ?_
                      exact ⟨_, _, it, rfl, rfl, hW369, hF373, ((hF370.1 111 rfl).trans ((hF363.1 111 rfl).trans ((hF356.1 111 rfl).trans (e_it)))), by omega, by omega, (by first | exact inR_tak _ _ _ _ _ (by omega) p278 (by omega) hb348 p351 p357 p364 p371 | omega), trivial⟩
              · have _q := h275
                exact absurd h275 (by omega)
        · have _q : True := trivial
          refine jx_if_eq (pc_q := 49) (tg := 84) rfl rfl rfl (by decide) (by decide) (fun h374 => ?_) (fun h374 => ?_)
          · have _q := h374
            refine jx_ld (pc_q := 85) (l_q := [(0, .ref 66), (1, .int (i32 (p))), (2, .int (i32 (a))), (3, .int (i32 (t)))]) (st_q := [.ref 66]) rfl (jl_aloadn rfl) ?_
            refine jx_ld (pc_q := 86) (l_q := [(0, .ref 66), (1, .int (i32 (p))), (2, .int (i32 (a))), (3, .int (i32 (t)))]) (st_q := [.int (i32 (p)), .ref 66]) rfl (jl_iloadn rfl) ?_
            refine jx_ld (pc_q := 87) (l_q := [(0, .ref 66), (1, .int (i32 (p))), (2, .int (i32 (a))), (3, .int (i32 (t)))]) (st_q := [.int (i32 (a)), .int (i32 (p)), .ref 66]) rfl (jl_iloadn rfl) ?_
            refine jx_vr (pc_q := 90) (as := [.int (i32 (p)), .int (i32 (a))]) (st := []) rfl rfl rfl rfl ⟨rfl, rfl, Nat.le_of_ble_eq_true rfl⟩ rfl rfl (c_load (dd := d) (hd := by omega) (hW := hW) (p := p) (a := a)   (h_p := ⟨(Int.le_trans (by decide : (-2147483648 : Int) ≤ -2147483648) h_p.1), (Int.le_trans h_p.2 (by decide : (2147483647 : Int) ≤ 2147483647))⟩) (h_a := ⟨(Int.le_trans (by decide : (-2147483648 : Int) ≤ -2147483648) h_a.1), (Int.le_trans h_a.2 (by decide : (2147483647 : Int) ≤ 2147483647))⟩)  (p_0 := by omega) (p_1 := by omega)) (fun o V_q hq => ?_)
            obtain ⟨r375, rfl, rfl, b376, p377, -⟩ := hq
            refine .inr ⟨_, rfl, ?_⟩
            refine jx_ld (pc_q := 92) (l_q := jSto1 [(0, .ref 66), (1, .int (i32 (p))), (2, .int (i32 (a))), (3, .int (i32 (t)))] 4 (.int (i32 (r375)))) (st_q := []) rfl rfl ?_
            obtain ⟨L379, eL379⟩ : ∃ q, q = jSto1 [(0, .ref 66), (1, .int (i32 (p))), (2, .int (i32 (a))), (3, .int (i32 (t)))] 4 (.int (i32 (r375))) := ⟨_, rfl⟩
            rw [← eL379]
            have gL379_0 : jGet L379 0 = some (.ref 66) := eL379 ▸ jg_ne (by decide) (rfl : jGet [(0, .ref 66), (1, .int (i32 (p))), (2, .int (i32 (a))), (3, .int (i32 (t)))] 0 = some (.ref 66)) rfl
            have gL379_1 : jGet L379 1 = some (.int (i32 (p))) := eL379 ▸ jg_ne (by decide) (rfl : jGet [(0, .ref 66), (1, .int (i32 (p))), (2, .int (i32 (a))), (3, .int (i32 (t)))] 1 = some (.int (i32 (p)))) rfl
            have gL379_2 : jGet L379 2 = some (.int (i32 (a))) := eL379 ▸ jg_ne (by decide) (rfl : jGet [(0, .ref 66), (1, .int (i32 (p))), (2, .int (i32 (a))), (3, .int (i32 (t)))] 2 = some (.int (i32 (a)))) rfl
            have gL379_3 : jGet L379 3 = some (.int (i32 (t))) := eL379 ▸ jg_ne (by decide) (rfl : jGet [(0, .ref 66), (1, .int (i32 (p))), (2, .int (i32 (a))), (3, .int (i32 (t)))] 3 = some (.int (i32 (t)))) rfl
            have gL379_4 : jGet L379 4 = some (.int (i32 (r375))) := eL379 ▸ jg_eq
            refine jx_ld (pc_q := 93) (l_q := L379) (st_q := [.ref 66]) rfl (jl_aloadn gL379_0) ?_
            refine jx_ld (pc_q := 94) (l_q := L379) (st_q := [.int (i32 (a)), .ref 66]) rfl (jl_iloadn gL379_2) ?_
            refine jx_vr (pc_q := 97) (as := [.int (i32 (a))]) (st := []) rfl rfl rfl rfl ⟨rfl, rfl, Nat.le_of_ble_eq_true rfl⟩ rfl rfl (c_isOutside (dd := d) (hd := by omega) (hW := hW) (a := a)   (h_a := ⟨(Int.le_trans (by decide : (-2147483648 : Int) ≤ -2147483648) h_a.1), (Int.le_trans h_a.2 (by decide : (2147483647 : Int) ≤ 2147483647))⟩)  ) (fun o V_q hq => ?_)
            obtain ⟨r380, rfl, rfl, b381, q382⟩ := hq
            refine .inr ⟨_, rfl, ?_⟩
            rcases q382 with ⟨rfl, a383, a384⟩ | ⟨rfl, a385⟩
            · have _q : True := trivial
              refine jx_if_ne (pc_q := 100) (tg := 138) rfl rfl rfl (by decide) (by decide) (fun h386 => ?_) (fun h386 => ?_)
              · have _q := h386
                refine jx_ld (pc_q := 139) (l_q := L379) (st_q := [.ref 66]) rfl (jl_aloadn gL379_0) ?_
                refine jx_ld (pc_q := 140) (l_q := L379) (st_q := [.int (i32 (p)), .ref 66]) rfl (jl_iloadn gL379_1) ?_
                refine jx_ld (pc_q := 141) (l_q := L379) (st_q := [.ref 66, .int (i32 (p)), .ref 66]) rfl (jl_aloadn gL379_0) ?_
                refine jr_get (pc_q := 144) (i := 95) (v := .ref 131) rfl rfl (by decide) rfl rfl ?_
                refine jx_ld (pc_q := 145) (l_q := L379) (st_q := [.int (i32 (p)), .ref 131, .int (i32 (p)), .ref 66]) rfl (jl_iloadn gL379_1) ?_
                refine jr_ldv (pc_q := 146) (i := 64) (m := 6) (z := p) (y := rw) rfl (by decide) rfl (by decide) (by omega) (by omega) rfl (show A 64 (p).toNat = rw from (e_rw)) ?_
                refine jx_ar (pc_q := 147) (st_q := [.int (i32 (2)), .int (i32 (rw)), .int (i32 (p)), .ref 66]) rfl rfl rfl rfl ?_
                refine jx_sub (pc_q := 148) rfl rfl ?_
                refine jx_ld (pc_q := 149) (l_q := L379) (st_q := [.int (i32 (t)), .int (i32 ((rw - 2))), .int (i32 (p)), .ref 66]) rfl (jl_iloadn gL379_3) ?_
                refine jx_vr (pc_q := 152) (as := [.int (i32 (p)), .int (i32 ((rw - 2))), .int (i32 (t))]) (st := []) rfl rfl rfl rfl ⟨rfl, rfl, Nat.le_of_ble_eq_true rfl⟩ rfl rfl (c_store (dd := d) (hd := by omega) (hW := hW) (p := p) (a := (rw - 2)) (v := t)   (h_p := ⟨(Int.le_trans (by decide : (-2147483648 : Int) ≤ -2147483648) h_p.1), (Int.le_trans h_p.2 (by decide : (2147483647 : Int) ≤ 2147483647))⟩) (h_a := ⟨(by omega), (by omega)⟩) (h_v := ⟨(Int.le_trans (by decide : (-2147483648 : Int) ≤ -2147483648) h_t.1), (Int.le_trans h_t.2 (by decide : (2147483647 : Int) ≤ 2147483647))⟩)  (p_0 := by omega) (p_1 := by omega)) (fun o V_q hq => ?_)
                obtain ⟨G387, A388, rfl, rfl, hW389, hF390, p391, -⟩ := hq
                have hF393 := Fr_tr hF0 hF390 (Fr_sub (by decide)) (Fr_sub (by decide))
                refine .inl ⟨rfl, ?_⟩
                refine jx_ld (pc_q := 153) (l_q := L379) (st_q := [.ref 66]) rfl (jl_aloadn gL379_0) ?_
                refine jx_ld (pc_q := 154) (l_q := L379) (st_q := [.int (i32 (p)), .ref 66]) rfl (jl_iloadn gL379_1) ?_
                refine jx_ld (pc_q := 155) (l_q := L379) (st_q := [.ref 66, .int (i32 (p)), .ref 66]) rfl (jl_aloadn gL379_0) ?_
                refine jr_get (pc_q := 158) (i := 95) (v := .ref 131) rfl rfl (by decide) rfl rfl ?_
                refine jx_ld (pc_q := 159) (l_q := L379) (st_q := [.int (i32 (p)), .ref 131, .int (i32 (p)), .ref 66]) rfl (jl_iloadn gL379_1) ?_
                refine jr_ldv (pc_q := 160) (i := 64) (m := 6) (z := p) (y := rw) rfl (by decide) rfl (by decide) (by omega) (by omega) rfl (show A388 64 (p).toNat = rw from (congrFun (hF390.2 64 rfl) _).trans (e_rw)) ?_
                refine jx_ar (pc_q := 161) (st_q := [.int (i32 (3)), .int (i32 (rw)), .int (i32 (p)), .ref 66]) rfl rfl rfl rfl ?_
                refine jx_sub (pc_q := 162) rfl rfl ?_
                refine jx_ar (pc_q := 163) (st_q := [.int (i32 (0)), .int (i32 ((rw - 3))), .int (i32 (p)), .ref 66]) rfl rfl rfl rfl ?_
                refine jx_vr (pc_q := 166) (as := [.int (i32 (p)), .int (i32 ((rw - 3))), .int (i32 (0))]) (st := []) rfl rfl rfl rfl ⟨rfl, rfl, Nat.le_of_ble_eq_true rfl⟩ rfl rfl (c_store (dd := d) (hd := by omega) (hW := hW389) (p := p) (a := (rw - 3)) (v := 0)   (h_p := ⟨(Int.le_trans (by decide : (-2147483648 : Int) ≤ -2147483648) h_p.1), (Int.le_trans h_p.2 (by decide : (2147483647 : Int) ≤ 2147483647))⟩) (h_a := ⟨(by omega), (by omega)⟩) (h_v := ⟨(by decide), (by decide)⟩)  (p_0 := by omega) (p_1 := by omega)) (fun o V_q hq => ?_)
                obtain ⟨G394, A395, rfl, rfl, hW396, hF397, p398, -⟩ := hq
                have hF400 := Fr_tr hF393 hF397 (Fr_sub (by decide)) (Fr_sub (by decide))
                refine .inl ⟨rfl, ?_⟩
                refine jx_ld (pc_q := 167) (l_q := L379) (st_q := [.ref 66]) rfl (jl_aloadn gL379_0) ?_
                refine jx_ld (pc_q := 168) (l_q := L379) (st_q := [.int (i32 (p)), .ref 66]) rfl (jl_iloadn gL379_1) ?_
                refine jx_ld (pc_q := 169) (l_q := L379) (st_q := [.int (i32 (a)), .int (i32 (p)), .ref 66]) rfl (jl_iloadn gL379_2) ?_
                refine jx_ld (pc_q := 170) (l_q := L379) (st_q := [.ref 66, .int (i32 (a)), .int (i32 (p)), .ref 66]) rfl (jl_aloadn gL379_0) ?_
                refine jr_get (pc_q := 173) (i := 97) (v := .ref 133) rfl rfl (by decide) rfl rfl ?_
                refine jx_ld (pc_q := 174) (l_q := L379) (st_q := [.int (i32 (p)), .ref 133, .int (i32 (a)), .int (i32 (p)), .ref 66]) rfl (jl_iloadn gL379_1) ?_
                refine jr_ldv (pc_q := 175) (i := 66) (m := 6) (z := p) (y := rn) rfl (by decide) rfl (by decide) (by omega) (by omega) rfl (show A395 66 (p).toNat = rn from (congrFun ((hF397.2 66 rfl).trans (hF390.2 66 rfl)) _).trans (e_rn)) ?_
                refine jx_vr (pc_q := 178) (as := [.int (i32 (p)), .int (i32 (a)), .int (i32 (rn))]) (st := []) rfl rfl rfl rfl ⟨rfl, rfl, Nat.le_of_ble_eq_true rfl⟩ rfl rfl (c_store (dd := d) (hd := by omega) (hW := hW396) (p := p) (a := a) (v := rn)   (h_p := ⟨(Int.le_trans (by decide : (-2147483648 : Int) ≤ -2147483648) h_p.1), (Int.le_trans h_p.2 (by decide : (2147483647 : Int) ≤ 2147483647))⟩) (h_a := ⟨(Int.le_trans (by decide : (-2147483648 : Int) ≤ -2147483648) h_a.1), (Int.le_trans h_a.2 (by decide : (2147483647 : Int) ≤ 2147483647))⟩) (h_v := ⟨(Int.le_trans (by decide : (-2147483648 : Int) ≤ -2147483648) b_rn.1), (Int.le_trans b_rn.2 (by decide : (2147483647 : Int) ≤ 2147483647))⟩)  (p_0 := by omega) (p_1 := by omega)) (fun o V_q hq => ?_)
                obtain ⟨G401, A402, rfl, rfl, hW403, hF404, p405, -⟩ := hq
                have hF407 := Fr_tr hF400 hF404 (Fr_sub (by decide)) (Fr_sub (by decide))
                refine .inl ⟨rfl, ?_⟩
                have hk408 : A402 64 (p).toNat = rw := (congrFun ((hF404.2 64 rfl).trans ((hF397.2 64 rfl).trans (hF390.2 64 rfl))) _).trans (e_rw)
                refine jx_ld (pc_q := 179) (l_q := L379) (st_q := [.ref 66]) rfl (jl_aloadn gL379_0) ?_
                refine jx_ld (pc_q := 180) (l_q := L379) (st_q := [.int (i32 (p)), .ref 66]) rfl (jl_iloadn gL379_1) ?_
                refine jx_vr (pc_q := 183) (as := [.int (i32 (p))]) (st := []) rfl rfl rfl rfl ⟨rfl, rfl, Nat.le_of_ble_eq_true rfl⟩ rfl rfl (c_wait0 (dd := d) (hd := by omega) (hW := hW403) (p := p)   (h_p := ⟨(Int.le_trans (by decide : (-2147483648 : Int) ≤ -2147483648) h_p.1), (Int.le_trans h_p.2 (by decide : (2147483647 : Int) ≤ 2147483647))⟩)  (p_0 := by omega) (p_1 := by omega) (p_2 := by omega)) (fun o V_q hq => ?_)
                obtain ⟨G409, A410, rfl, rfl, hW411, hF412, p413, -⟩ := hq
                have hF415 := Fr_tr hF407 hF412 (Fr_sub (by decide)) (Fr_sub (by decide))
                refine .inl ⟨rfl, ?_⟩
                refine jx_rt (v := none) rfl rfl rfl rfl rfl rfl ?_
                exact ⟨_, _, it, rfl, rfl, hW411, hF415, ((hF412.1 111 rfl).trans ((hF404.1 111 rfl).trans ((hF397.1 111 rfl).trans ((hF390.1 111 rfl).trans (e_it))))), by omega, by omega, (by first | exact inR_wai _ _ _ _ _ _ p377 (by first | exact .inr ⟨by omega, by omega⟩ | exact .inl (by first | exact ⟨by omega, by omega, a233⟩ | exact ⟨by omega, by omega, (by rw [show a = 13 by omega]; exact a233)⟩ | exact ⟨by omega, by omega, by unfold hcP; omega⟩)) e_rw e_rn p391 p398 p405 p413 | omega), trivial⟩
              · have _q := h386
                exact absurd h386 (by omega)
            · have _q : True := trivial
              refine jx_if_ne (pc_q := 100) (tg := 138) rfl rfl rfl (by decide) (by decide) (fun h416 => ?_) (fun h416 => ?_)
              · have _q := h416
                exact absurd h416 (by omega)
              · have _q := h416
                refine jx_ld (pc_q := 102) (l_q := L379) (st_q := [.int (i32 (r375))]) rfl (jl_iload gL379_4) ?_
                refine jx_ar (pc_q := 103) (st_q := [.int (i32 (-1)), .int (i32 (r375))]) rfl rfl rfl rfl ?_
                refine jx_icmp_eq (pc_q := 106) (tg := 138) rfl rfl rfl (Int.le_trans (by decide : (-2147483648 : Int) ≤ -2147483648) b376.1) (Int.le_trans b376.2 (by decide : (2147483647 : Int) ≤ 2147483647)) (by decide) (by decide) (fun h417 => ?_) (fun h417 => ?_)
                · have _q := h417
                  refine jx_ld (pc_q := 139) (l_q := L379) (st_q := [.ref 66]) rfl (jl_aloadn gL379_0) ?_
                  refine jx_ld (pc_q := 140) (l_q := L379) (st_q := [.int (i32 (p)), .ref 66]) rfl (jl_iloadn gL379_1) ?_
                  refine jx_ld (pc_q := 141) (l_q := L379) (st_q := [.ref 66, .int (i32 (p)), .ref 66]) rfl (jl_aloadn gL379_0) ?_
                  refine jr_get (pc_q := 144) (i := 95) (v := .ref 131) rfl rfl (by decide) rfl rfl ?_
                  refine jx_ld (pc_q := 145) (l_q := L379) (st_q := [.int (i32 (p)), .ref 131, .int (i32 (p)), .ref 66]) rfl (jl_iloadn gL379_1) ?_
                  refine jr_ldv (pc_q := 146) (i := 64) (m := 6) (z := p) (y := rw) rfl (by decide) rfl (by decide) (by omega) (by omega) rfl (show A 64 (p).toNat = rw from (e_rw)) ?_
                  refine jx_ar (pc_q := 147) (st_q := [.int (i32 (2)), .int (i32 (rw)), .int (i32 (p)), .ref 66]) rfl rfl rfl rfl ?_
                  refine jx_sub (pc_q := 148) rfl rfl ?_
                  refine jx_ld (pc_q := 149) (l_q := L379) (st_q := [.int (i32 (t)), .int (i32 ((rw - 2))), .int (i32 (p)), .ref 66]) rfl (jl_iloadn gL379_3) ?_
                  refine jx_vr (pc_q := 152) (as := [.int (i32 (p)), .int (i32 ((rw - 2))), .int (i32 (t))]) (st := []) rfl rfl rfl rfl ⟨rfl, rfl, Nat.le_of_ble_eq_true rfl⟩ rfl rfl (c_store (dd := d) (hd := by omega) (hW := hW) (p := p) (a := (rw - 2)) (v := t)   (h_p := ⟨(Int.le_trans (by decide : (-2147483648 : Int) ≤ -2147483648) h_p.1), (Int.le_trans h_p.2 (by decide : (2147483647 : Int) ≤ 2147483647))⟩) (h_a := ⟨(by omega), (by omega)⟩) (h_v := ⟨(Int.le_trans (by decide : (-2147483648 : Int) ≤ -2147483648) h_t.1), (Int.le_trans h_t.2 (by decide : (2147483647 : Int) ≤ 2147483647))⟩)  (p_0 := by omega) (p_1 := by omega)) (fun o V_q hq => ?_)
                  obtain ⟨G418, A419, rfl, rfl, hW420, hF421, p422, -⟩ := hq
                  have hF424 := Fr_tr hF0 hF421 (Fr_sub (by decide)) (Fr_sub (by decide))
                  refine .inl ⟨rfl, ?_⟩
                  refine jx_ld (pc_q := 153) (l_q := L379) (st_q := [.ref 66]) rfl (jl_aloadn gL379_0) ?_
                  refine jx_ld (pc_q := 154) (l_q := L379) (st_q := [.int (i32 (p)), .ref 66]) rfl (jl_iloadn gL379_1) ?_
                  refine jx_ld (pc_q := 155) (l_q := L379) (st_q := [.ref 66, .int (i32 (p)), .ref 66]) rfl (jl_aloadn gL379_0) ?_
                  refine jr_get (pc_q := 158) (i := 95) (v := .ref 131) rfl rfl (by decide) rfl rfl ?_
                  refine jx_ld (pc_q := 159) (l_q := L379) (st_q := [.int (i32 (p)), .ref 131, .int (i32 (p)), .ref 66]) rfl (jl_iloadn gL379_1) ?_
                  refine jr_ldv (pc_q := 160) (i := 64) (m := 6) (z := p) (y := rw) rfl (by decide) rfl (by decide) (by omega) (by omega) rfl (show A419 64 (p).toNat = rw from (congrFun (hF421.2 64 rfl) _).trans (e_rw)) ?_
                  refine jx_ar (pc_q := 161) (st_q := [.int (i32 (3)), .int (i32 (rw)), .int (i32 (p)), .ref 66]) rfl rfl rfl rfl ?_
                  refine jx_sub (pc_q := 162) rfl rfl ?_
                  refine jx_ar (pc_q := 163) (st_q := [.int (i32 (0)), .int (i32 ((rw - 3))), .int (i32 (p)), .ref 66]) rfl rfl rfl rfl ?_
                  refine jx_vr (pc_q := 166) (as := [.int (i32 (p)), .int (i32 ((rw - 3))), .int (i32 (0))]) (st := []) rfl rfl rfl rfl ⟨rfl, rfl, Nat.le_of_ble_eq_true rfl⟩ rfl rfl (c_store (dd := d) (hd := by omega) (hW := hW420) (p := p) (a := (rw - 3)) (v := 0)   (h_p := ⟨(Int.le_trans (by decide : (-2147483648 : Int) ≤ -2147483648) h_p.1), (Int.le_trans h_p.2 (by decide : (2147483647 : Int) ≤ 2147483647))⟩) (h_a := ⟨(by omega), (by omega)⟩) (h_v := ⟨(by decide), (by decide)⟩)  (p_0 := by omega) (p_1 := by omega)) (fun o V_q hq => ?_)
                  obtain ⟨G425, A426, rfl, rfl, hW427, hF428, p429, -⟩ := hq
                  have hF431 := Fr_tr hF424 hF428 (Fr_sub (by decide)) (Fr_sub (by decide))
                  refine .inl ⟨rfl, ?_⟩
                  refine jx_ld (pc_q := 167) (l_q := L379) (st_q := [.ref 66]) rfl (jl_aloadn gL379_0) ?_
                  refine jx_ld (pc_q := 168) (l_q := L379) (st_q := [.int (i32 (p)), .ref 66]) rfl (jl_iloadn gL379_1) ?_
                  refine jx_ld (pc_q := 169) (l_q := L379) (st_q := [.int (i32 (a)), .int (i32 (p)), .ref 66]) rfl (jl_iloadn gL379_2) ?_
                  refine jx_ld (pc_q := 170) (l_q := L379) (st_q := [.ref 66, .int (i32 (a)), .int (i32 (p)), .ref 66]) rfl (jl_aloadn gL379_0) ?_
                  refine jr_get (pc_q := 173) (i := 97) (v := .ref 133) rfl rfl (by decide) rfl rfl ?_
                  refine jx_ld (pc_q := 174) (l_q := L379) (st_q := [.int (i32 (p)), .ref 133, .int (i32 (a)), .int (i32 (p)), .ref 66]) rfl (jl_iloadn gL379_1) ?_
                  refine jr_ldv (pc_q := 175) (i := 66) (m := 6) (z := p) (y := rn) rfl (by decide) rfl (by decide) (by omega) (by omega) rfl (show A426 66 (p).toNat = rn from (congrFun ((hF428.2 66 rfl).trans (hF421.2 66 rfl)) _).trans (e_rn)) ?_
                  refine jx_vr (pc_q := 178) (as := [.int (i32 (p)), .int (i32 (a)), .int (i32 (rn))]) (st := []) rfl rfl rfl rfl ⟨rfl, rfl, Nat.le_of_ble_eq_true rfl⟩ rfl rfl (c_store (dd := d) (hd := by omega) (hW := hW427) (p := p) (a := a) (v := rn)   (h_p := ⟨(Int.le_trans (by decide : (-2147483648 : Int) ≤ -2147483648) h_p.1), (Int.le_trans h_p.2 (by decide : (2147483647 : Int) ≤ 2147483647))⟩) (h_a := ⟨(Int.le_trans (by decide : (-2147483648 : Int) ≤ -2147483648) h_a.1), (Int.le_trans h_a.2 (by decide : (2147483647 : Int) ≤ 2147483647))⟩) (h_v := ⟨(Int.le_trans (by decide : (-2147483648 : Int) ≤ -2147483648) b_rn.1), (Int.le_trans b_rn.2 (by decide : (2147483647 : Int) ≤ 2147483647))⟩)  (p_0 := by omega) (p_1 := by omega)) (fun o V_q hq => ?_)
                  obtain ⟨G432, A433, rfl, rfl, hW434, hF435, p436, -⟩ := hq
                  have hF438 := Fr_tr hF431 hF435 (Fr_sub (by decide)) (Fr_sub (by decide))
                  refine .inl ⟨rfl, ?_⟩
                  have hk439 : A433 64 (p).toNat = rw := (congrFun ((hF435.2 64 rfl).trans ((hF428.2 64 rfl).trans (hF421.2 64 rfl))) _).trans (e_rw)
                  refine jx_ld (pc_q := 179) (l_q := L379) (st_q := [.ref 66]) rfl (jl_aloadn gL379_0) ?_
                  refine jx_ld (pc_q := 180) (l_q := L379) (st_q := [.int (i32 (p)), .ref 66]) rfl (jl_iloadn gL379_1) ?_
                  refine jx_vr (pc_q := 183) (as := [.int (i32 (p))]) (st := []) rfl rfl rfl rfl ⟨rfl, rfl, Nat.le_of_ble_eq_true rfl⟩ rfl rfl (c_wait0 (dd := d) (hd := by omega) (hW := hW434) (p := p)   (h_p := ⟨(Int.le_trans (by decide : (-2147483648 : Int) ≤ -2147483648) h_p.1), (Int.le_trans h_p.2 (by decide : (2147483647 : Int) ≤ 2147483647))⟩)  (p_0 := by omega) (p_1 := by omega) (p_2 := by omega)) (fun o V_q hq => ?_)
                  obtain ⟨G440, A441, rfl, rfl, hW442, hF443, p444, -⟩ := hq
                  have hF446 := Fr_tr hF438 hF443 (Fr_sub (by decide)) (Fr_sub (by decide))
                  refine .inl ⟨rfl, ?_⟩
                  refine jx_rt (v := none) rfl rfl rfl rfl rfl rfl ?_
                  exact ⟨_, _, it, rfl, rfl, hW442, hF446, ((hF443.1 111 rfl).trans ((hF435.1 111 rfl).trans ((hF428.1 111 rfl).trans ((hF421.1 111 rfl).trans (e_it))))), by omega, by omega, (by first | exact inR_wai _ _ _ _ _ _ p377 (by first | exact .inr ⟨by omega, by omega⟩ | exact .inl (by first | exact ⟨by omega, by omega, a233⟩ | exact ⟨by omega, by omega, (by rw [show a = 13 by omega]; exact a233)⟩ | exact ⟨by omega, by omega, by unfold hcP; omega⟩)) e_rw e_rn p422 p429 p436 p444 | omega), trivial⟩
                · have _q := h417
                  refine jx_ld (pc_q := 107) (l_q := L379) (st_q := [.ref 66]) rfl (jl_aloadn gL379_0) ?_
                  refine jx_ld (pc_q := 108) (l_q := L379) (st_q := [.int (i32 (p)), .ref 66]) rfl (jl_iloadn gL379_1) ?_
                  refine jx_ld (pc_q := 109) (l_q := L379) (st_q := [.int (i32 (t)), .int (i32 (p)), .ref 66]) rfl (jl_iloadn gL379_3) ?_
                  refine jx_ld (pc_q := 110) (l_q := L379) (st_q := [.ref 66, .int (i32 (t)), .int (i32 (p)), .ref 66]) rfl (jl_aloadn gL379_0) ?_
                  refine jx_ld (pc_q := 111) (l_q := L379) (st_q := [.int (i32 (p)), .ref 66, .int (i32 (t)), .int (i32 (p)), .ref 66]) rfl (jl_iloadn gL379_1) ?_
                  refine jx_ld (pc_q := 113) (l_q := L379) (st_q := [.int (i32 (r375)), .int (i32 (p)), .ref 66, .int (i32 (t)), .int (i32 (p)), .ref 66]) rfl (jl_iload gL379_4) ?_
                  refine jx_ar (pc_q := 114) (st_q := [.int (i32 (1)), .int (i32 (r375)), .int (i32 (p)), .ref 66, .int (i32 (t)), .int (i32 (p)), .ref 66]) rfl rfl rfl rfl ?_
                  refine jx_shr (pc_q := 115) rfl rfl ?_
                  obtain ⟨b447, eb447⟩ : ∃ z, z = (i32 (r375) >>> (i32 (1) &&& 31)).toInt := ⟨_, rfl⟩
                  rw [← eb447]
                  have rb447 : (-2147483648 : Int) ≤ b447 ∧ b447 ≤ 2147483647 := eb447 ▸ i32_rg _
                  have hb447 := (show b447 = (i32 r375 >>> (i32 1 &&& 31)).toInt from eb447).trans (shr_1 (by omega) (by omega))
                  refine jx_ar (pc_q := 116) (st_q := [.int (i32 (2)), .int (i32 (b447)), .int (i32 (p)), .ref 66, .int (i32 (t)), .int (i32 (p)), .ref 66]) rfl rfl rfl rfl ?_
                  refine jx_sub (pc_q := 117) rfl rfl ?_
                  refine jx_vr (pc_q := 120) (as := [.int (i32 (p)), .int (i32 ((b447 - 2)))]) (st := [.int (i32 (t)), .int (i32 (p)), .ref 66]) rfl rfl rfl rfl ⟨rfl, rfl, Nat.le_of_ble_eq_true rfl⟩ rfl rfl (c_load (dd := d) (hd := by omega) (hW := hW) (p := p) (a := (b447 - 2))   (h_p := ⟨(Int.le_trans (by decide : (-2147483648 : Int) ≤ -2147483648) h_p.1), (Int.le_trans h_p.2 (by decide : (2147483647 : Int) ≤ 2147483647))⟩) (h_a := ⟨(by omega), (by omega)⟩)  (p_0 := by omega) (p_1 := by omega)) (fun o V_q hq => ?_)
                  obtain ⟨r448, rfl, rfl, b449, p450, -⟩ := hq
                  refine .inr ⟨_, rfl, ?_⟩
                  refine jx_vr (pc_q := 123) (as := [.int (i32 (p)), .int (i32 (t)), .int (i32 (r448))]) (st := []) rfl rfl rfl rfl ⟨rfl, rfl, Nat.le_of_ble_eq_true rfl⟩ rfl rfl (c_store (dd := d) (hd := by omega) (hW := hW) (p := p) (a := t) (v := r448)   (h_p := ⟨(Int.le_trans (by decide : (-2147483648 : Int) ≤ -2147483648) h_p.1), (Int.le_trans h_p.2 (by decide : (2147483647 : Int) ≤ 2147483647))⟩) (h_a := ⟨(Int.le_trans (by decide : (-2147483648 : Int) ≤ -2147483648) h_t.1), (Int.le_trans h_t.2 (by decide : (2147483647 : Int) ≤ 2147483647))⟩) (h_v := ⟨(Int.le_trans (by decide : (-2147483648 : Int) ≤ -2147483648) b449.1), (Int.le_trans b449.2 (by decide : (2147483647 : Int) ≤ 2147483647))⟩)  (p_0 := by omega) (p_1 := by omega)) (fun o V_q hq => ?_)
                  obtain ⟨G452, A453, rfl, rfl, hW454, hF455, p456, -⟩ := hq
                  have hF458 := Fr_tr hF0 hF455 (Fr_sub (by decide)) (Fr_sub (by decide))
                  refine .inl ⟨rfl, ?_⟩
                  refine jx_ld (pc_q := 124) (l_q := L379) (st_q := [.ref 66]) rfl (jl_aloadn gL379_0) ?_
                  refine jx_ld (pc_q := 125) (l_q := L379) (st_q := [.int (i32 (p)), .ref 66]) rfl (jl_iloadn gL379_1) ?_
                  refine jx_ld (pc_q := 126) (l_q := L379) (st_q := [.int (i32 (a)), .int (i32 (p)), .ref 66]) rfl (jl_iloadn gL379_2) ?_
                  refine jx_ar (pc_q := 127) (st_q := [.int (i32 (-1)), .int (i32 (a)), .int (i32 (p)), .ref 66]) rfl rfl rfl rfl ?_
                  refine jx_vr (pc_q := 130) (as := [.int (i32 (p)), .int (i32 (a)), .int (i32 (-1))]) (st := []) rfl rfl rfl rfl ⟨rfl, rfl, Nat.le_of_ble_eq_true rfl⟩ rfl rfl (c_store (dd := d) (hd := by omega) (hW := hW454) (p := p) (a := a) (v := -1)   (h_p := ⟨(Int.le_trans (by decide : (-2147483648 : Int) ≤ -2147483648) h_p.1), (Int.le_trans h_p.2 (by decide : (2147483647 : Int) ≤ 2147483647))⟩) (h_a := ⟨(Int.le_trans (by decide : (-2147483648 : Int) ≤ -2147483648) h_a.1), (Int.le_trans h_a.2 (by decide : (2147483647 : Int) ≤ 2147483647))⟩) (h_v := ⟨(by decide), (by decide)⟩)  (p_0 := by omega) (p_1 := by omega)) (fun o V_q hq => ?_)
                  obtain ⟨G459, A460, rfl, rfl, hW461, hF462, p463, -⟩ := hq
                  have hF465 := Fr_tr hF458 hF462 (Fr_sub (by decide)) (Fr_sub (by decide))
                  refine .inl ⟨rfl, ?_⟩
                  refine jx_ld (pc_q := 131) (l_q := L379) (st_q := [.ref 66]) rfl (jl_aloadn gL379_0) ?_
                  refine jx_ld (pc_q := 132) (l_q := L379) (st_q := [.int (i32 (p)), .ref 66]) rfl (jl_iloadn gL379_1) ?_
                  refine jx_ld (pc_q := 134) (l_q := L379) (st_q := [.int (i32 (r375)), .int (i32 (p)), .ref 66]) rfl (jl_iload gL379_4) ?_
                  refine jx_vr (pc_q := 137) (as := [.int (i32 (p)), .int (i32 (r375))]) (st := []) rfl rfl rfl rfl ⟨rfl, rfl, Nat.le_of_ble_eq_true rfl⟩ rfl rfl (c_makeReady (dd := d) (hd := by omega) (hW := hW461) (p := p) (d2 := r375) (m0 := m0) (e_m0 := show A460 72 ((2 * p)).toNat = m0 from (congrFun ((hF462.2 72 rfl).trans (hF455.2 72 rfl)) _).trans (e_m0)) (m1 := m1) (e_m1 := show A460 72 (((2 * p) + 1)).toNat = m1 from (congrFun ((hF462.2 72 rfl).trans (hF455.2 72 rfl)) _).trans (e_m1))  (h_p := ⟨(Int.le_trans (by decide : (-2147483648 : Int) ≤ -2147483648) h_p.1), (Int.le_trans h_p.2 (by decide : (2147483647 : Int) ≤ 2147483647))⟩) (h_d2 := ⟨(Int.le_trans (by decide : (-2147483648 : Int) ≤ -2147483648) b376.1), (Int.le_trans b376.2 (by decide : (2147483647 : Int) ≤ 2147483647))⟩)  (p_0 := by omega) (p_1 := by omega) (p_2 := by omega) (p_3 := by omega) (p_4 := by omega) (p_5 := by omega)) (fun o V_q hq => ?_)
                  obtain ⟨G466, A467, rfl, rfl, hW468, hF469, p470, -⟩ := hq
                  have hF472 := Fr_tr hF465 hF469 (Fr_sub (by decide)) (Fr_sub (by decide))
                  refine .inl ⟨rfl, ?_⟩
                  refine jx_rt (v := none) rfl rfl rfl rfl rfl rfl ?_
                  exact ⟨_, _, it, rfl, rfl, hW468, hF472, ((hF469.1 111 rfl).trans ((hF462.1 111 rfl).trans ((hF455.1 111 rfl).trans (e_it)))), by omega, by omega, (by first | exact inR_tak _ _ _ _ _ (by omega) p377 (by omega) hb447 p450 p456 p463 p470 | omega), trivial⟩
          · have _q := h374
            exact absurd h374 (by omega)
      · have _q := h245
        exact absurd h245 (by omega)
