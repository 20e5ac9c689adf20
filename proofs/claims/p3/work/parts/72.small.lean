/-- the core p has no process -/
def goneM (A : Nat → Nat → Int) (p : Int) : Nat → Nat → Int := uA A 66 p.toNat (-1)
/-- A goes, B and C move up; v comes, A and B move down -/
def takeM (A : Nat → Nat → Int) (p : Int) : Nat → Nat → Int := uA (uA A 60 p.toNat (A 61 p.toNat)) 61 p.toNat (A 62 p.toNat)
def comeM (A : Nat → Nat → Int) (p v : Int) : Nat → Nat → Int := uA (uA (uA A 62 p.toNat (A 61 p.toNat)) 61 p.toNat (A 60 p.toNat)) 60 p.toNat v
def twoM (A : Nat → Nat → Int) (p v : Int) : Nat → Nat → Int := comeM (takeM (takeM A p) p) p v
/-- the process waits: where it stands is kept below its frame -/
def waitM (A : Nat → Nat → Int) (p : Int) : Nat → Nat → Int := goneM (stM A p (A 64 p.toNat - 1) (A 63 p.toNat)) p
/-- a step that cannot be -/
def faultM (A : Nat → Nat → Int) (p : Int) : Nat → Nat → Int := goneM (uA A 67 p.toNat 1) p

set_option maxRecDepth 20000 in
set_option maxHeartbeats 4000000 in
theorem c_gone {X : jX} {dd : Nat} {c0 c1 : jC} {G : Nat → Int} {A : Nat → Nat → Int} {T : jH} {p : Int} (hd : 1 ≤ dd) (hW : Wk G A) (h_p : (-2147483648 : Int) ≤ p ∧ p ≤ 2147483647) (p_0 : 0 ≤ p) (p_1 : p ≤ 5) : wk X dd 375 [.ref 66, .int (i32 p)] (rV c0 c1 G A T) (fun o V_q => ∃ (G_q : Nat → Int) (A_q : Nat → Nat → Int), V_q = rV c0 c1 G_q A_q T ∧ o = .inl none ∧ Wk G_q A_q ∧ Fr [] [66] G A G_q A_q ∧ (A_q = goneM A (p)) ∧ True) := by
  obtain ⟨d, rfl⟩ : ∃ d, dd = d + 1 := ⟨dd - 1, by omega⟩
  refine wk_of (e := jm375) rfl (Nat.le_of_ble_eq_true rfl) ?_
  show wj X d jm375 (0, [(0, .ref 66), (1, .int (i32 (p)))], [], rV c0 c1 G A T) _
  have hF0 : Fr [] [66] G A G A := Fr_rf
  refine jx_ld (pc_q := 1) (l_q := [(0, .ref 66), (1, .int (i32 (p)))]) (st_q := [.ref 66]) rfl (jl_aloadn rfl) ?_
  refine jr_get (pc_q := 4) (i := 97) (v := .ref 133) rfl rfl (by decide) rfl rfl ?_
  refine jx_ld (pc_q := 5) (l_q := [(0, .ref 66), (1, .int (i32 (p)))]) (st_q := [.int (i32 (p)), .ref 133]) rfl (jl_iloadn rfl) ?_
  refine jx_ar (pc_q := 6) (st_q := [.int (i32 (-1)), .int (i32 (p)), .ref 133]) rfl rfl rfl rfl ?_
  refine jr_st (pc_q := 7) (i := 66) (m := 6) (z := p) (y := -1) rfl (by decide) rfl (by decide) (by omega) (by omega) rfl ?_
  have hW2 : Wk G (uA A 66 (p).toNat (-1)) := Wk_a hW (show (-2147483648 : Int) ≤ -1 by omega) (show -1 ≤ (2147483647 : Int) by omega)
  have hF3 := Fr_a (z := -1) (k := 66) (n := (p).toNat) hF0 (by decide)
  obtain ⟨A1, eA1⟩ : ∃ q, q = uA A 66 (p).toNat (-1) := ⟨_, rfl⟩
  rw [← eA1]
  rw [← eA1] at hW2 hF3
  have q4 : A1 66 (p).toNat = -1 := by rw [eA1]; exact uA_eq
  refine jx_rt (v := none) rfl rfl rfl rfl rfl rfl ?_
  exact ⟨_, _, rfl, rfl, hW2, hF3, (by rw [eA1]; rfl), trivial⟩
set_option maxRecDepth 20000 in
set_option maxHeartbeats 4000000 in
theorem c_take {X : jX} {dd : Nat} {c0 c1 : jC} {G : Nat → Int} {A : Nat → Nat → Int} {T : jH} {p : Int} (hd : 1 ≤ dd) (hW : Wk G A) (h_p : (-2147483648 : Int) ≤ p ∧ p ≤ 2147483647) (p_0 : 0 ≤ p) (p_1 : p ≤ 5) : wk X dd 377 [.ref 66, .int (i32 p)] (rV c0 c1 G A T) (fun o V_q => ∃ (G_q : Nat → Int) (A_q : Nat → Nat → Int), V_q = rV c0 c1 G_q A_q T ∧ o = .inl none ∧ Wk G_q A_q ∧ Fr [] [60, 61] G A G_q A_q ∧ (A_q = takeM A (p)) ∧ True) := by
  obtain ⟨d, rfl⟩ : ∃ d, dd = d + 1 := ⟨dd - 1, by omega⟩
  refine wk_of (e := jm377) rfl (Nat.le_of_ble_eq_true rfl) ?_
  show wj X d jm377 (0, [(0, .ref 66), (1, .int (i32 (p)))], [], rV c0 c1 G A T) _
  have hF0 : Fr [] [60, 61] G A G A := Fr_rf
  refine jx_ld (pc_q := 1) (l_q := [(0, .ref 66), (1, .int (i32 (p)))]) (st_q := [.ref 66]) rfl (jl_aloadn rfl) ?_
  refine jr_get (pc_q := 4) (i := 91) (v := .ref 127) rfl rfl (by decide) rfl rfl ?_
  refine jx_ld (pc_q := 5) (l_q := [(0, .ref 66), (1, .int (i32 (p)))]) (st_q := [.int (i32 (p)), .ref 127]) rfl (jl_iloadn rfl) ?_
  refine jx_ld (pc_q := 6) (l_q := [(0, .ref 66), (1, .int (i32 (p)))]) (st_q := [.ref 66, .int (i32 (p)), .ref 127]) rfl (jl_aloadn rfl) ?_
  refine jr_get (pc_q := 9) (i := 92) (v := .ref 128) rfl rfl (by decide) rfl rfl ?_
  refine jx_ld (pc_q := 10) (l_q := [(0, .ref 66), (1, .int (i32 (p)))]) (st_q := [.int (i32 (p)), .ref 128, .int (i32 (p)), .ref 127]) rfl (jl_iloadn rfl) ?_
  have b1 : (-2147483648 : Int) ≤ A 61 (p).toNat ∧ A 61 (p).toNat ≤ 2147483647 := hW.2 61 _
  refine jr_ldv (pc_q := 11) (i := 61) (m := 6) (z := p) (y := A 61 (p).toNat) rfl (by decide) rfl (by decide) (by omega) (by omega) rfl (show A 61 (p).toNat = A 61 (p).toNat from rfl) ?_
  refine jr_st (pc_q := 12) (i := 60) (m := 6) (z := p) (y := A 61 (p).toNat) rfl (by decide) rfl (by decide) (by omega) (by omega) rfl ?_
  have hW3 : Wk G (uA A 60 (p).toNat (A 61 (p).toNat)) := Wk_a hW (show (-2147483648 : Int) ≤ A 61 (p).toNat by omega) (show A 61 (p).toNat ≤ (2147483647 : Int) by omega)
  have hF4 := Fr_a (z := A 61 (p).toNat) (k := 60) (n := (p).toNat) hF0 (by decide)
  obtain ⟨A2, eA2⟩ : ∃ q, q = uA A 60 (p).toNat (A 61 (p).toNat) := ⟨_, rfl⟩
  rw [← eA2]
  rw [← eA2] at hW3 hF4
  have q5 : A2 60 (p).toNat = A 61 (p).toNat := by rw [eA2]; exact uA_eq
  refine jx_ld (pc_q := 13) (l_q := [(0, .ref 66), (1, .int (i32 (p)))]) (st_q := [.ref 66]) rfl (jl_aloadn rfl) ?_
  refine jr_get (pc_q := 16) (i := 92) (v := .ref 128) rfl rfl (by decide) rfl rfl ?_
  refine jx_ld (pc_q := 17) (l_q := [(0, .ref 66), (1, .int (i32 (p)))]) (st_q := [.int (i32 (p)), .ref 128]) rfl (jl_iloadn rfl) ?_
  refine jx_ld (pc_q := 18) (l_q := [(0, .ref 66), (1, .int (i32 (p)))]) (st_q := [.ref 66, .int (i32 (p)), .ref 128]) rfl (jl_aloadn rfl) ?_
  refine jr_get (pc_q := 21) (i := 93) (v := .ref 129) rfl rfl (by decide) rfl rfl ?_
  refine jx_ld (pc_q := 22) (l_q := [(0, .ref 66), (1, .int (i32 (p)))]) (st_q := [.int (i32 (p)), .ref 129, .int (i32 (p)), .ref 128]) rfl (jl_iloadn rfl) ?_
  have b6 : (-2147483648 : Int) ≤ A 62 (p).toNat ∧ A 62 (p).toNat ≤ 2147483647 := hW.2 62 _
  refine jr_ldv (pc_q := 23) (i := 62) (m := 6) (z := p) (y := A 62 (p).toNat) rfl (by decide) rfl (by decide) (by omega) (by omega) rfl (show A2 62 (p).toNat = A 62 (p).toNat from (congrFun ((congrFun eA2 62).trans (uA_ne (by decide))) _)) ?_
  refine jr_st (pc_q := 24) (i := 61) (m := 6) (z := p) (y := A 62 (p).toNat) rfl (by decide) rfl (by decide) (by omega) (by omega) rfl ?_
  have hW8 : Wk G (uA A2 61 (p).toNat (A 62 (p).toNat)) := Wk_a hW3 (show (-2147483648 : Int) ≤ A 62 (p).toNat by omega) (show A 62 (p).toNat ≤ (2147483647 : Int) by omega)
  have hF9 := Fr_a (z := A 62 (p).toNat) (k := 61) (n := (p).toNat) hF4 (by decide)
  obtain ⟨A7, eA7⟩ : ∃ q, q = uA A2 61 (p).toNat (A 62 (p).toNat) := ⟨_, rfl⟩
  rw [← eA7]
  rw [← eA7] at hW8 hF9
  have q10 : A7 61 (p).toNat = A 62 (p).toNat := by rw [eA7]; exact uA_eq
  refine jx_rt (v := none) rfl rfl rfl rfl rfl rfl ?_
  exact ⟨_, _, rfl, rfl, hW8, hF9, (by rw [eA7, eA2]; rfl), trivial⟩
set_option maxRecDepth 20000 in
set_option maxHeartbeats 4000000 in
theorem c_come {X : jX} {dd : Nat} {c0 c1 : jC} {G : Nat → Int} {A : Nat → Nat → Int} {T : jH} {p v : Int} (hd : 1 ≤ dd) (hW : Wk G A) (h_p : (-2147483648 : Int) ≤ p ∧ p ≤ 2147483647) (h_v : (-2147483648 : Int) ≤ v ∧ v ≤ 2147483647) (p_0 : 0 ≤ p) (p_1 : p ≤ 5) : wk X dd 378 [.ref 66, .int (i32 p), .int (i32 v)] (rV c0 c1 G A T) (fun o V_q => ∃ (G_q : Nat → Int) (A_q : Nat → Nat → Int), V_q = rV c0 c1 G_q A_q T ∧ o = .inl none ∧ Wk G_q A_q ∧ Fr [] [60, 61, 62] G A G_q A_q ∧ (A_q = comeM A (p) (v)) ∧ True) := by
  obtain ⟨d, rfl⟩ : ∃ d, dd = d + 1 := ⟨dd - 1, by omega⟩
  refine wk_of (e := jm378) rfl (Nat.le_of_ble_eq_true rfl) ?_
  show wj X d jm378 (0, [(0, .ref 66), (1, .int (i32 (p))), (2, .int (i32 (v)))], [], rV c0 c1 G A T) _
  have hF0 : Fr [] [60, 61, 62] G A G A := Fr_rf
  refine jx_ld (pc_q := 1) (l_q := [(0, .ref 66), (1, .int (i32 (p))), (2, .int (i32 (v)))]) (st_q := [.ref 66]) rfl (jl_aloadn rfl) ?_
  refine jr_get (pc_q := 4) (i := 93) (v := .ref 129) rfl rfl (by decide) rfl rfl ?_
  refine jx_ld (pc_q := 5) (l_q := [(0, .ref 66), (1, .int (i32 (p))), (2, .int (i32 (v)))]) (st_q := [.int (i32 (p)), .ref 129]) rfl (jl_iloadn rfl) ?_
  refine jx_ld (pc_q := 6) (l_q := [(0, .ref 66), (1, .int (i32 (p))), (2, .int (i32 (v)))]) (st_q := [.ref 66, .int (i32 (p)), .ref 129]) rfl (jl_aloadn rfl) ?_
  refine jr_get (pc_q := 9) (i := 92) (v := .ref 128) rfl rfl (by decide) rfl rfl ?_
  refine jx_ld (pc_q := 10) (l_q := [(0, .ref 66), (1, .int (i32 (p))), (2, .int (i32 (v)))]) (st_q := [.int (i32 (p)), .ref 128, .int (i32 (p)), .ref 129]) rfl (jl_iloadn rfl) ?_
  have b1 : (-2147483648 : Int) ≤ A 61 (p).toNat ∧ A 61 (p).toNat ≤ 2147483647 := hW.2 61 _
  refine jr_ldv (pc_q := 11) (i := 61) (m := 6) (z := p) (y := A 61 (p).toNat) rfl (by decide) rfl (by decide) (by omega) (by omega) rfl (show A 61 (p).toNat = A 61 (p).toNat from rfl) ?_
  refine jr_st (pc_q := 12) (i := 62) (m := 6) (z := p) (y := A 61 (p).toNat) rfl (by decide) rfl (by decide) (by omega) (by omega) rfl ?_
  have hW3 : Wk G (uA A 62 (p).toNat (A 61 (p).toNat)) := Wk_a hW (show (-2147483648 : Int) ≤ A 61 (p).toNat by omega) (show A 61 (p).toNat ≤ (2147483647 : Int) by omega)
  have hF4 := Fr_a (z := A 61 (p).toNat) (k := 62) (n := (p).toNat) hF0 (by decide)
  obtain ⟨A2, eA2⟩ : ∃ q, q = uA A 62 (p).toNat (A 61 (p).toNat) := ⟨_, rfl⟩
  rw [← eA2]
  rw [← eA2] at hW3 hF4
  have q5 : A2 62 (p).toNat = A 61 (p).toNat := by rw [eA2]; exact uA_eq
  refine jx_ld (pc_q := 13) (l_q := [(0, .ref 66), (1, .int (i32 (p))), (2, .int (i32 (v)))]) (st_q := [.ref 66]) rfl (jl_aloadn rfl) ?_
  refine jr_get (pc_q := 16) (i := 92) (v := .ref 128) rfl rfl (by decide) rfl rfl ?_
  refine jx_ld (pc_q := 17) (l_q := [(0, .ref 66), (1, .int (i32 (p))), (2, .int (i32 (v)))]) (st_q := [.int (i32 (p)), .ref 128]) rfl (jl_iloadn rfl) ?_
  refine jx_ld (pc_q := 18) (l_q := [(0, .ref 66), (1, .int (i32 (p))), (2, .int (i32 (v)))]) (st_q := [.ref 66, .int (i32 (p)), .ref 128]) rfl (jl_aloadn rfl) ?_
  refine jr_get (pc_q := 21) (i := 91) (v := .ref 127) rfl rfl (by decide) rfl rfl ?_
  refine jx_ld (pc_q := 22) (l_q := [(0, .ref 66), (1, .int (i32 (p))), (2, .int (i32 (v)))]) (st_q := [.int (i32 (p)), .ref 127, .int (i32 (p)), .ref 128]) rfl (jl_iloadn rfl) ?_
  have b6 : (-2147483648 : Int) ≤ A 60 (p).toNat ∧ A 60 (p).toNat ≤ 2147483647 := hW.2 60 _
  refine jr_ldv (pc_q := 23) (i := 60) (m := 6) (z := p) (y := A 60 (p).toNat) rfl (by decide) rfl (by decide) (by omega) (by omega) rfl (show A2 60 (p).toNat = A 60 (p).toNat from (congrFun ((congrFun eA2 60).trans (uA_ne (by decide))) _)) ?_
  refine jr_st (pc_q := 24) (i := 61) (m := 6) (z := p) (y := A 60 (p).toNat) rfl (by decide) rfl (by decide) (by omega) (by omega) rfl ?_
  have hW8 : Wk G (uA A2 61 (p).toNat (A 60 (p).toNat)) := Wk_a hW3 (show (-2147483648 : Int) ≤ A 60 (p).toNat by omega) (show A 60 (p).toNat ≤ (2147483647 : Int) by omega)
  have hF9 := Fr_a (z := A 60 (p).toNat) (k := 61) (n := (p).toNat) hF4 (by decide)
  obtain ⟨A7, eA7⟩ : ∃ q, q = uA A2 61 (p).toNat (A 60 (p).toNat) := ⟨_, rfl⟩
  rw [← eA7]
  rw [← eA7] at hW8 hF9
  have q10 : A7 61 (p).toNat = A 60 (p).toNat := by rw [eA7]; exact uA_eq
  refine jx_ld (pc_q := 25) (l_q := [(0, .ref 66), (1, .int (i32 (p))), (2, .int (i32 (v)))]) (st_q := [.ref 66]) rfl (jl_aloadn rfl) ?_
  refine jr_get (pc_q := 28) (i := 91) (v := .ref 127) rfl rfl (by decide) rfl rfl ?_
  refine jx_ld (pc_q := 29) (l_q := [(0, .ref 66), (1, .int (i32 (p))), (2, .int (i32 (v)))]) (st_q := [.int (i32 (p)), .ref 127]) rfl (jl_iloadn rfl) ?_
  refine jx_ld (pc_q := 30) (l_q := [(0, .ref 66), (1, .int (i32 (p))), (2, .int (i32 (v)))]) (st_q := [.int (i32 (v)), .int (i32 (p)), .ref 127]) rfl (jl_iloadn rfl) ?_
  refine jr_st (pc_q := 31) (i := 60) (m := 6) (z := p) (y := v) rfl (by decide) rfl (by decide) (by omega) (by omega) rfl ?_
  have hW12 : Wk G (uA A7 60 (p).toNat (v)) := Wk_a hW8 (show (-2147483648 : Int) ≤ v by omega) (show v ≤ (2147483647 : Int) by omega)
  have hF13 := Fr_a (z := v) (k := 60) (n := (p).toNat) hF9 (by decide)
  obtain ⟨A11, eA11⟩ : ∃ q, q = uA A7 60 (p).toNat (v) := ⟨_, rfl⟩
  rw [← eA11]
  rw [← eA11] at hW12 hF13
  have q14 : A11 60 (p).toNat = v := by rw [eA11]; exact uA_eq
  refine jx_rt (v := none) rfl rfl rfl rfl rfl rfl ?_
  exact ⟨_, _, rfl, rfl, hW12, hF13, (by rw [eA11, eA7, eA2]; rfl), trivial⟩
set_option maxRecDepth 20000 in
set_option maxHeartbeats 4000000 in
theorem c_two {X : jX} {dd : Nat} {c0 c1 : jC} {G : Nat → Int} {A : Nat → Nat → Int} {T : jH} {p v : Int} (hd : 2 ≤ dd) (hW : Wk G A) (h_p : (-2147483648 : Int) ≤ p ∧ p ≤ 2147483647) (h_v : (-2147483648 : Int) ≤ v ∧ v ≤ 2147483647) (p_0 : 0 ≤ p) (p_1 : p ≤ 5) : wk X dd 381 [.ref 66, .int (i32 p), .int (i32 v)] (rV c0 c1 G A T) (fun o V_q => ∃ (G_q : Nat → Int) (A_q : Nat → Nat → Int), V_q = rV c0 c1 G_q A_q T ∧ o = .inl none ∧ Wk G_q A_q ∧ Fr [] [60, 61, 62] G A G_q A_q ∧ (A_q = twoM A (p) (v)) ∧ True) := by
  obtain ⟨d, rfl⟩ : ∃ d, dd = d + 1 := ⟨dd - 1, by omega⟩
  refine wk_of (e := jm381) rfl (Nat.le_of_ble_eq_true rfl) ?_
  show wj X d jm381 (0, [(0, .ref 66), (1, .int (i32 (p))), (2, .int (i32 (v)))], [], rV c0 c1 G A T) _
  have hF0 : Fr [] [60, 61, 62] G A G A := Fr_rf
  refine jx_ld (pc_q := 1) (l_q := [(0, .ref 66), (1, .int (i32 (p))), (2, .int (i32 (v)))]) (st_q := [.ref 66]) rfl (jl_aloadn rfl) ?_
  refine jx_ld (pc_q := 2) (l_q := [(0, .ref 66), (1, .int (i32 (p))), (2, .int (i32 (v)))]) (st_q := [.int (i32 (p)), .ref 66]) rfl (jl_iloadn rfl) ?_
  refine jx_vr (pc_q := 5) (as := [.int (i32 (p))]) (st := []) rfl rfl rfl rfl ⟨rfl, rfl, Nat.le_of_ble_eq_true rfl⟩ rfl rfl (c_take (dd := d) (hd := by omega) (hW := hW) (p := p)   (h_p := ⟨(Int.le_trans (by decide : (-2147483648 : Int) ≤ -2147483648) h_p.1), (Int.le_trans h_p.2 (by decide : (2147483647 : Int) ≤ 2147483647))⟩)  (p_0 := by omega) (p_1 := by omega)) (fun o V_q hq => ?_)
  obtain ⟨G1, A2, rfl, rfl, hW3, hF4, p5, -⟩ := hq
  have hF7 := Fr_tr hF0 hF4 (Fr_sub (by decide)) (Fr_sub (by decide))
  refine .inl ⟨rfl, ?_⟩
  refine jx_ld (pc_q := 6) (l_q := [(0, .ref 66), (1, .int (i32 (p))), (2, .int (i32 (v)))]) (st_q := [.ref 66]) rfl (jl_aloadn rfl) ?_
  refine jx_ld (pc_q := 7) (l_q := [(0, .ref 66), (1, .int (i32 (p))), (2, .int (i32 (v)))]) (st_q := [.int (i32 (p)), .ref 66]) rfl (jl_iloadn rfl) ?_
  refine jx_vr (pc_q := 10) (as := [.int (i32 (p))]) (st := []) rfl rfl rfl rfl ⟨rfl, rfl, Nat.le_of_ble_eq_true rfl⟩ rfl rfl (c_take (dd := d) (hd := by omega) (hW := hW3) (p := p)   (h_p := ⟨(Int.le_trans (by decide : (-2147483648 : Int) ≤ -2147483648) h_p.1), (Int.le_trans h_p.2 (by decide : (2147483647 : Int) ≤ 2147483647))⟩)  (p_0 := by omega) (p_1 := by omega)) (fun o V_q hq => ?_)
  obtain ⟨G8, A9, rfl, rfl, hW10, hF11, p12, -⟩ := hq
  have hF14 := Fr_tr hF7 hF11 (Fr_sub (by decide)) (Fr_sub (by decide))
  refine .inl ⟨rfl, ?_⟩
  refine jx_ld (pc_q := 11) (l_q := [(0, .ref 66), (1, .int (i32 (p))), (2, .int (i32 (v)))]) (st_q := [.ref 66]) rfl (jl_aloadn rfl) ?_
  refine jx_ld (pc_q := 12) (l_q := [(0, .ref 66), (1, .int (i32 (p))), (2, .int (i32 (v)))]) (st_q := [.int (i32 (p)), .ref 66]) rfl (jl_iloadn rfl) ?_
  refine jx_ld (pc_q := 13) (l_q := [(0, .ref 66), (1, .int (i32 (p))), (2, .int (i32 (v)))]) (st_q := [.int (i32 (v)), .int (i32 (p)), .ref 66]) rfl (jl_iloadn rfl) ?_
  refine jx_vr (pc_q := 16) (as := [.int (i32 (p)), .int (i32 (v))]) (st := []) rfl rfl rfl rfl ⟨rfl, rfl, Nat.le_of_ble_eq_true rfl⟩ rfl rfl (c_come (dd := d) (hd := by omega) (hW := hW10) (p := p) (v := v)   (h_p := ⟨(Int.le_trans (by decide : (-2147483648 : Int) ≤ -2147483648) h_p.1), (Int.le_trans h_p.2 (by decide : (2147483647 : Int) ≤ 2147483647))⟩) (h_v := ⟨(Int.le_trans (by decide : (-2147483648 : Int) ≤ -2147483648) h_v.1), (Int.le_trans h_v.2 (by decide : (2147483647 : Int) ≤ 2147483647))⟩)  (p_0 := by omega) (p_1 := by omega)) (fun o V_q hq => ?_)
  obtain ⟨G15, A16, rfl, rfl, hW17, hF18, p19, -⟩ := hq
  have hF21 := Fr_tr hF14 hF18 (Fr_sub (by decide)) (Fr_sub (by decide))
  refine .inl ⟨rfl, ?_⟩
  refine jx_rt (v := none) rfl rfl rfl rfl rfl rfl ?_
  exact ⟨_, _, rfl, rfl, hW17, hF21, (by rw [p19, p12, p5]; rfl), trivial⟩
set_option maxRecDepth 20000 in
set_option maxHeartbeats 4000000 in
theorem c_wait0 {X : jX} {dd : Nat} {c0 c1 : jC} {G : Nat → Int} {A : Nat → Nat → Int} {T : jH} {p : Int} (hd : 3 ≤ dd) (hW : Wk G A) (h_p : (-2147483648 : Int) ≤ p ∧ p ≤ 2147483647) (p_0 : 0 ≤ p) (p_1 : p ≤ 5) (p_2 : -2147483647 ≤ A 64 (p).toNat) : wk X dd 374 [.ref 66, .int (i32 p)] (rV c0 c1 G A T) (fun o V_q => ∃ (G_q : Nat → Int) (A_q : Nat → Nat → Int), V_q = rV c0 c1 G_q A_q T ∧ o = .inl none ∧ Wk G_q A_q ∧ Fr [] [59, 66] G A G_q A_q ∧ (A_q = waitM A (p)) ∧ True) := by
  obtain ⟨d, rfl⟩ : ∃ d, dd = d + 1 := ⟨dd - 1, by omega⟩
  refine wk_of (e := jm374) rfl (Nat.le_of_ble_eq_true rfl) ?_
  show wj X d jm374 (0, [(0, .ref 66), (1, .int (i32 (p)))], [], rV c0 c1 G A T) _
  have hF0 : Fr [] [59, 66] G A G A := Fr_rf
  refine jx_ld (pc_q := 1) (l_q := [(0, .ref 66), (1, .int (i32 (p)))]) (st_q := [.ref 66]) rfl (jl_aloadn rfl) ?_
  refine jx_ld (pc_q := 2) (l_q := [(0, .ref 66), (1, .int (i32 (p)))]) (st_q := [.int (i32 (p)), .ref 66]) rfl (jl_iloadn rfl) ?_
  refine jx_ld (pc_q := 3) (l_q := [(0, .ref 66), (1, .int (i32 (p)))]) (st_q := [.ref 66, .int (i32 (p)), .ref 66]) rfl (jl_aloadn rfl) ?_
  refine jr_get (pc_q := 6) (i := 95) (v := .ref 131) rfl rfl (by decide) rfl rfl ?_
  refine jx_ld (pc_q := 7) (l_q := [(0, .ref 66), (1, .int (i32 (p)))]) (st_q := [.int (i32 (p)), .ref 131, .int (i32 (p)), .ref 66]) rfl (jl_iloadn rfl) ?_
  have b1 : (-2147483648 : Int) ≤ A 64 (p).toNat ∧ A 64 (p).toNat ≤ 2147483647 := hW.2 64 _
  refine jr_ldv (pc_q := 8) (i := 64) (m := 6) (z := p) (y := A 64 (p).toNat) rfl (by decide) rfl (by decide) (by omega) (by omega) rfl (show A 64 (p).toNat = A 64 (p).toNat from rfl) ?_
  refine jx_ar (pc_q := 9) (st_q := [.int (i32 (1)), .int (i32 (A 64 (p).toNat)), .int (i32 (p)), .ref 66]) rfl rfl rfl rfl ?_
  refine jx_sub (pc_q := 10) rfl rfl ?_
  refine jx_ld (pc_q := 11) (l_q := [(0, .ref 66), (1, .int (i32 (p)))]) (st_q := [.ref 66, .int (i32 ((A 64 (p).toNat - 1))), .int (i32 (p)), .ref 66]) rfl (jl_aloadn rfl) ?_
  refine jr_get (pc_q := 14) (i := 94) (v := .ref 130) rfl rfl (by decide) rfl rfl ?_
  refine jx_ld (pc_q := 15) (l_q := [(0, .ref 66), (1, .int (i32 (p)))]) (st_q := [.int (i32 (p)), .ref 130, .int (i32 ((A 64 (p).toNat - 1))), .int (i32 (p)), .ref 66]) rfl (jl_iloadn rfl) ?_
  have b2 : (-2147483648 : Int) ≤ A 63 (p).toNat ∧ A 63 (p).toNat ≤ 2147483647 := hW.2 63 _
  refine jr_ldv (pc_q := 16) (i := 63) (m := 6) (z := p) (y := A 63 (p).toNat) rfl (by decide) rfl (by decide) (by omega) (by omega) rfl (show A 63 (p).toNat = A 63 (p).toNat from rfl) ?_
  refine jx_vr (pc_q := 19) (as := [.int (i32 (p)), .int (i32 ((A 64 (p).toNat - 1))), .int (i32 (A 63 (p).toNat))]) (st := []) rfl rfl rfl rfl ⟨rfl, rfl, Nat.le_of_ble_eq_true rfl⟩ rfl rfl (c_store (dd := d) (hd := by omega) (hW := hW) (p := p) (a := (A 64 (p).toNat - 1)) (v := A 63 (p).toNat)   (h_p := ⟨(Int.le_trans (by decide : (-2147483648 : Int) ≤ -2147483648) h_p.1), (Int.le_trans h_p.2 (by decide : (2147483647 : Int) ≤ 2147483647))⟩) (h_a := ⟨(by omega), (by omega)⟩) (h_v := ⟨(Int.le_trans (by decide : (-2147483648 : Int) ≤ -2147483648) b2.1), (Int.le_trans b2.2 (by decide : (2147483647 : Int) ≤ 2147483647))⟩)  (p_0 := by omega) (p_1 := by omega)) (fun o V_q hq => ?_)
  obtain ⟨G3, A4, rfl, rfl, hW5, hF6, p7, -⟩ := hq
  have hF9 := Fr_tr hF0 hF6 (Fr_sub (by decide)) (Fr_sub (by decide))
  refine .inl ⟨rfl, ?_⟩
  refine jx_ld (pc_q := 20) (l_q := [(0, .ref 66), (1, .int (i32 (p)))]) (st_q := [.ref 66]) rfl (jl_aloadn rfl) ?_
  refine jx_ld (pc_q := 21) (l_q := [(0, .ref 66), (1, .int (i32 (p)))]) (st_q := [.int (i32 (p)), .ref 66]) rfl (jl_iloadn rfl) ?_
  refine jx_vr (pc_q := 24) (as := [.int (i32 (p))]) (st := []) rfl rfl rfl rfl ⟨rfl, rfl, Nat.le_of_ble_eq_true rfl⟩ rfl rfl (c_gone (dd := d) (hd := by omega) (hW := hW5) (p := p)   (h_p := ⟨(Int.le_trans (by decide : (-2147483648 : Int) ≤ -2147483648) h_p.1), (Int.le_trans h_p.2 (by decide : (2147483647 : Int) ≤ 2147483647))⟩)  (p_0 := by omega) (p_1 := by omega)) (fun o V_q hq => ?_)
  obtain ⟨G10, A11, rfl, rfl, hW12, hF13, p14, -⟩ := hq
  have hF16 := Fr_tr hF9 hF13 (Fr_sub (by decide)) (Fr_sub (by decide))
  refine .inl ⟨rfl, ?_⟩
  refine jx_rt (v := none) rfl rfl rfl rfl rfl rfl ?_
  exact ⟨_, _, rfl, rfl, hW12, hF16, (by rw [p14, p7]; rfl), trivial⟩
set_option maxRecDepth 20000 in
set_option maxHeartbeats 4000000 in
theorem c_isLinkIn {X : jX} {dd : Nat} {c0 c1 : jC} {G : Nat → Int} {A : Nat → Nat → Int} {T : jH} {a : Int} (hd : 1 ≤ dd) (hW : Wk G A) (h_a : (-2147483648 : Int) ≤ a ∧ a ≤ 2147483647) : wk X dd 385 [.ref 66, .int (i32 a)] (rV c0 c1 G A T) (fun o V_q => ∃ (r : Int), V_q = rV c0 c1 G A T ∧ o = .inl (some (.int (i32 r))) ∧ ((0 : Int) ≤ r ∧ r ≤ 1) ∧ ((r = 1 ∧ (0 ≤ a) ∧ (a ≤ 11)) ∨ (r = 0 ∧ (a < 0 ∨ 12 ≤ a)))) := by
  obtain ⟨d, rfl⟩ : ∃ d, dd = d + 1 := ⟨dd - 1, by omega⟩
  refine wk_of (e := jm385) rfl (Nat.le_of_ble_eq_true rfl) ?_
  show wj X d jm385 (0, [(0, .ref 66), (1, .int (i32 (a)))], [], rV c0 c1 G A T) _
  refine jx_ld (pc_q := 1) (l_q := [(0, .ref 66), (1, .int (i32 (a)))]) (st_q := [.int (i32 (a))]) rfl (jl_iloadn rfl) ?_
  refine jx_if_lt (pc_q := 4) (tg := 14) rfl rfl rfl (Int.le_trans (by decide : (-2147483648 : Int) ≤ -2147483648) h_a.1) (Int.le_trans h_a.2 (by decide : (2147483647 : Int) ≤ 2147483647)) (fun h1 => ?_) (fun h1 => ?_)
  · have _q := h1
    refine jx_ar (pc_q := 15) (st_q := [.int (i32 (0))]) rfl rfl rfl rfl ?_
    refine jx_rt (v := some (.int (i32 (0)))) rfl rfl rfl rfl rfl (by first | rfl | exact jRet_b (by omega)) ?_
    exact ⟨_, rfl, rfl, by omega, by first | exact Or.inl (⟨by omega, by omega, by omega⟩) | exact Or.inr ((⟨by omega, by omega⟩))⟩
  · have _q := h1
    refine jx_ld (pc_q := 5) (l_q := [(0, .ref 66), (1, .int (i32 (a)))]) (st_q := [.int (i32 (a))]) rfl (jl_iloadn rfl) ?_
    refine jx_ar (pc_q := 7) (st_q := [.int (i32 (12)), .int (i32 (a))]) rfl rfl rfl rfl ?_
    refine jx_icmp_ge (pc_q := 10) (tg := 14) rfl rfl rfl (Int.le_trans (by decide : (-2147483648 : Int) ≤ -2147483648) h_a.1) (Int.le_trans h_a.2 (by decide : (2147483647 : Int) ≤ 2147483647)) (by decide) (by decide) (fun h2 => ?_) (fun h2 => ?_)
    · have _q := h2
      refine jx_ar (pc_q := 15) (st_q := [.int (i32 (0))]) rfl rfl rfl rfl ?_
      refine jx_rt (v := some (.int (i32 (0)))) rfl rfl rfl rfl rfl (by first | rfl | exact jRet_b (by omega)) ?_
      exact ⟨_, rfl, rfl, by omega, by first | exact Or.inl (⟨by omega, by omega, by omega⟩) | exact Or.inr ((⟨by omega, by omega⟩))⟩
    · have _q := h2
      refine jx_ar (pc_q := 11) (st_q := [.int (i32 (1))]) rfl rfl rfl rfl ?_
      refine jx_go (tg := 15) rfl rfl ?_
      refine jx_rt (v := some (.int (i32 (1)))) rfl rfl rfl rfl rfl (by first | rfl | exact jRet_b (by omega)) ?_
      exact ⟨_, rfl, rfl, by omega, by first | exact Or.inl (⟨by omega, by omega, by omega⟩) | exact Or.inr ((⟨by omega, by omega⟩))⟩
set_option maxRecDepth 20000 in
set_option maxHeartbeats 4000000 in
theorem c_isOutside {X : jX} {dd : Nat} {c0 c1 : jC} {G : Nat → Int} {A : Nat → Nat → Int} {T : jH} {a : Int} (hd : 2 ≤ dd) (hW : Wk G A) (h_a : (-2147483648 : Int) ≤ a ∧ a ≤ 2147483647) : wk X dd 387 [.ref 66, .int (i32 a)] (rV c0 c1 G A T) (fun o V_q => ∃ (r : Int), V_q = rV c0 c1 G A T ∧ o = .inl (some (.int (i32 r))) ∧ ((0 : Int) ≤ r ∧ r ≤ 1) ∧ ((r = 1 ∧ (0 ≤ a) ∧ (a ≤ 13)) ∨ (r = 0 ∧ (a < 0 ∨ 14 ≤ a)))) := by
  obtain ⟨d, rfl⟩ : ∃ d, dd = d + 1 := ⟨dd - 1, by omega⟩
  refine wk_of (e := jm387) rfl (Nat.le_of_ble_eq_true rfl) ?_
  show wj X d jm387 (0, [(0, .ref 66), (1, .int (i32 (a)))], [], rV c0 c1 G A T) _
  refine jx_ld (pc_q := 1) (l_q := [(0, .ref 66), (1, .int (i32 (a)))]) (st_q := [.int (i32 (a))]) rfl (jl_iloadn rfl) ?_
  refine jx_ar (pc_q := 2) (st_q := [.int (i32 (0)), .int (i32 (a))]) rfl rfl rfl rfl ?_
  refine jx_ar (pc_q := 4) (st_q := [.int (i32 (13)), .int (i32 (0)), .int (i32 (a))]) rfl rfl rfl rfl ?_
  refine jx_st (pc_q := 7) (as := [.int (i32 (a)), .int (i32 (0)), .int (i32 (13))]) (st := []) rfl rfl ⟨rfl, Nat.le_of_ble_eq_true rfl⟩ rfl rfl rfl (c_in (dd := d) (hd := by omega) (v := a) (a := 0) (b := 13)   (h_v := ⟨(Int.le_trans (by decide : (-2147483648 : Int) ≤ -2147483648) h_a.1), (Int.le_trans h_a.2 (by decide : (2147483647 : Int) ≤ 2147483647))⟩) (h_a := ⟨(by decide), (by decide)⟩) (h_b := ⟨(by decide), (by decide)⟩)  ) (fun o V_q hq => ?_)
  obtain ⟨r1, rfl, rfl, b2, q3⟩ := hq
  refine .inr ⟨_, rfl, ?_⟩
  rcases q3 with ⟨rfl, a4, a5⟩ | ⟨rfl, a6⟩
  · have _q : True := trivial
    refine jx_rt (v := some (.int (i32 (1)))) rfl rfl rfl rfl rfl (by first | rfl | exact jRet_b (by omega)) ?_
    exact ⟨_, rfl, rfl, by omega, by first | exact Or.inl (⟨by omega, by omega, by omega⟩) | exact Or.inr ((⟨by omega, by omega⟩))⟩
  · have _q : True := trivial
    refine jx_rt (v := some (.int (i32 (0)))) rfl rfl rfl rfl rfl (by first | rfl | exact jRet_b (by omega)) ?_
    exact ⟨_, rfl, rfl, by omega, by first | exact Or.inl (⟨by omega, by omega, by omega⟩) | exact Or.inr ((⟨by omega, by omega⟩))⟩
