/-! BEGIN -/
theorem el_lo : ∀ {as : List Nat} {k : Nat}, as.all (fun j => decide (59 ≤ j)) = true → k < 59 → as.elem k = false := fun {as k} h hk => by
  cases e : as.elem k with
  | false => rfl
  | true =>
    have := List.all_eq_true.mp h k (List.elem_iff.mp e)
    have := of_decide_eq_true this
    omega
set_option maxRecDepth 20000 in
set_option maxHeartbeats 4000000 in
theorem c_begin {X : jX} {dd : Nat} {c0 c1 : jC} {G : Nat → Int} {A : Nat → Nat → Int} {T : jH} {pg lk im it om : Int} (hd : 2 ≤ dd) (hW : Wk G A) (e_pg : G 58 = pg) (e_lk : G 52 = lk) (e_im : G 110 = im) (e_it : G 111 = it) (e_om : G 113 = om) (p_0 : (pg) = 1 → GZ (lk) A) (p_1 : (pg) = 1 → RD (lk) A) : wk X dd 396 [.ref 66] (rV c0 c1 G A T) (fun o V_q => ∃ (G_q : Nat → Int) (A_q : Nat → Nat → Int) (im2 : Int) (it2 : Int) (om2 : Int), V_q = rV c0 c1 G_q A_q T ∧ o = .inl none ∧ Wk G_q A_q ∧ Fr [0, 110, 111, 113, 120, 121] [59, 60, 61, 62, 63, 64, 65, 66, 67, 68, 69, 70, 72, 73, 80, 81, 82, 83, 84, 85] G A G_q A_q ∧ G_q 110 = im2 ∧ G_q 111 = it2 ∧ G_q 113 = om2 ∧ (((pg = 0) ∧ (im2 = im) ∧ (it2 = it) ∧ (om2 = om) ∧ ((pg) = 1 → GZ (lk) A_q)) ∨ ((pg = 1) ∧ (im2 = 0) ∧ (it2 = 0) ∧ (om2 = 0) ∧ ((pg) = 1 → GZ (lk) A_q)))) := by
  obtain ⟨d, rfl⟩ : ∃ d, dd = d + 1 := ⟨dd - 1, by omega⟩
  refine wk_of (e := jm396) rfl (Nat.le_of_ble_eq_true rfl) ?_
  show wj X d jm396 (0, [(0, .ref 66)], [], rV c0 c1 G A T) _
  have hF0 : Fr [0, 110, 111, 113, 120, 121] [59, 60, 61, 62, 63, 64, 65, 66, 67, 68, 69, 70, 72, 73, 80, 81, 82, 83, 84, 85] G A G A := Fr_rf
  have b_pg : (0 : Int) ≤ pg ∧ pg ≤ 1 := e_pg ▸ hW.1 58
  have b_lk : (0 : Int) ≤ lk ∧ lk ≤ 12 := e_lk ▸ hW.1 52
  have b_im : (-2147483648 : Int) ≤ im ∧ im ≤ 2147483647 := e_im ▸ hW.1 110
  have b_it : (-2147483648 : Int) ≤ it ∧ it ≤ 2147483647 := e_it ▸ hW.1 111
  have b_om : (-2147483648 : Int) ≤ om ∧ om ≤ 2147483647 := e_om ▸ hW.1 113
  refine jx_ld (pc_q := 1) (l_q := [(0, .ref 66)]) (st_q := [.ref 66]) rfl (jl_aloadn rfl) ?_
  refine jx_ld (pc_q := 2) (l_q := [(0, .ref 66)]) (st_q := [.ref 66, .ref 66]) rfl (jl_aloadn rfl) ?_
  refine jr_get (pc_q := 5) (i := 58) (v := .int (i32 (pg))) rfl rfl (by decide) (rFv_eq (by decide) (show G 58 = pg from (e_pg))) rfl ?_
  refine jx_if_ne (pc_q := 8) (tg := 12) rfl rfl rfl (Int.le_trans (by decide : (-2147483648 : Int) ≤ 0) b_pg.1) (Int.le_trans b_pg.2 (by decide : (1 : Int) ≤ 2147483647)) (fun h1 => ?_) (fun h1 => ?_)
  · have _q := h1
    refine jx_ar (pc_q := 13) (st_q := [.int (i32 (0)), .ref 66]) rfl rfl rfl rfl ?_
    refine jx_ar (pc_q := 14) (st_q := [.int (i32 (0)), .int (i32 (0)), .ref 66]) rfl rfl rfl rfl ?_
    refine jx_ar (pc_q := 15) (st_q := [.int (i32 (0)), .int (i32 (0)), .int (i32 (0)), .ref 66]) rfl rfl rfl rfl ?_
    refine jx_vr (pc_q := 18) (as := [.int (i32 (0)), .int (i32 (0)), .int (i32 (0))]) (st := []) rfl rfl rfl rfl ⟨rfl, rfl, Nat.le_of_ble_eq_true rfl⟩ rfl rfl (c_refuse (dd := d) (hd := by omega) (hW := hW) (a := 0) (b := 0) (c := 0)   (h_a := ⟨(by decide), (by decide)⟩) (h_b := ⟨(by decide), (by decide)⟩) (h_c := ⟨(by decide), (by decide)⟩)  ) (fun o V_q hq => ?_)
    obtain ⟨G2, A3, r4, th2_5, rfl, rfl, hW6, hF7, b8, e9, q10⟩ := hq
    have hF11 := Fr_tr hF0 hF7 (Fr_sub (by decide)) (Fr_sub (by decide))
    have sf12 : (pg) = 1 → GZ (lk) A3 := (show A3 = A from funext (fun k => hF7.2 k rfl)) ▸ p_0
    have sf13 : (pg) = 1 → RD (lk) A3 := (show A3 = A from funext (fun k => hF7.2 k rfl)) ▸ p_1
    have bth2_5 : (0 : Int) ≤ th2_5 ∧ th2_5 ≤ 4 := e9 ▸ hW6.1 0
    refine .inr ⟨_, rfl, ?_⟩
    rcases q10 with ⟨rfl, a14, a15⟩ | ⟨rfl, a16, a17, a18⟩ | ⟨rfl, a19, a20, a21, a22⟩ | ⟨rfl, a23, a24, a25, a26⟩
    · have _q : True := trivial
      exfalso
      omega
    · have _q : True := trivial
      exfalso
      omega
    · have _q : True := trivial
      exfalso
      omega
    · have _q : True := trivial
      refine jx_if_ne (pc_q := 21) (tg := 25) rfl rfl rfl (by decide) (by decide) (fun h27 => ?_) (fun h27 => ?_)
      · have _q := h27
        exact absurd h27 (by omega)
      · have _q := h27
        refine jx_ld (pc_q := 22) (l_q := [(0, .ref 66)]) (st_q := [.ref 66]) rfl (jl_aloadn rfl) ?_
        refine jx_vr (pc_q := 25) (as := []) (st := []) rfl rfl rfl rfl ⟨rfl, rfl, Nat.le_of_ble_eq_true rfl⟩ rfl rfl (c_reset (dd := d) (hd := by omega) (hW := hW6)      ) (fun o V_q hq => ?_)
        obtain ⟨G28, A29, im2_30, it2_31, om2_32, rfl, rfl, hW33, hF34, e35, e36, e37, p38, p39, p40, p41, -⟩ := hq
        have hF43 := Fr_tr hF11 hF34 (Fr_sub (by decide)) (Fr_sub (by decide))
        have bim2_30 : (-2147483648 : Int) ≤ im2_30 ∧ im2_30 ≤ 2147483647 := e35 ▸ hW33.1 110
        have bit2_31 : (-2147483648 : Int) ≤ it2_31 ∧ it2_31 ≤ 2147483647 := e36 ▸ hW33.1 111
        have bom2_32 : (-2147483648 : Int) ≤ om2_32 ∧ om2_32 ≤ 2147483647 := e37 ▸ hW33.1 113
        refine .inl ⟨rfl, ?_⟩
        refine jx_rt (v := none) rfl rfl rfl rfl rfl rfl ?_
        exact ⟨_, _, im2_30, it2_31, om2_32, rfl, rfl, hW33, hF43, (e35), (e36), (e37), by first | exact Or.inl (⟨by omega, by omega, by omega, by omega, (fun q => GS_rs p41 (fun k hk => hF34.2 k (el_lo rfl hk)) (sf13 q))⟩) | exact Or.inr ((⟨by omega, by omega, by omega, by omega, (fun q => GS_rs p41 (fun k hk => hF34.2 k (el_lo rfl hk)) (sf13 q))⟩))⟩
  · have _q := h1
    refine jx_ar (pc_q := 9) (st_q := [.int (i32 (1)), .ref 66]) rfl rfl rfl rfl ?_
    refine jx_go (tg := 13) rfl rfl ?_
    refine jx_ar (pc_q := 14) (st_q := [.int (i32 (0)), .int (i32 (1)), .ref 66]) rfl rfl rfl rfl ?_
    refine jx_ar (pc_q := 15) (st_q := [.int (i32 (0)), .int (i32 (0)), .int (i32 (1)), .ref 66]) rfl rfl rfl rfl ?_
    refine jx_vr (pc_q := 18) (as := [.int (i32 (1)), .int (i32 (0)), .int (i32 (0))]) (st := []) rfl rfl rfl rfl ⟨rfl, rfl, Nat.le_of_ble_eq_true rfl⟩ rfl rfl (c_refuse (dd := d) (hd := by omega) (hW := hW) (a := 1) (b := 0) (c := 0)   (h_a := ⟨(by decide), (by decide)⟩) (h_b := ⟨(by decide), (by decide)⟩) (h_c := ⟨(by decide), (by decide)⟩)  ) (fun o V_q hq => ?_)
    obtain ⟨G44, A45, r46, th2_47, rfl, rfl, hW48, hF49, b50, e51, q52⟩ := hq
    have hF53 := Fr_tr hF0 hF49 (Fr_sub (by decide)) (Fr_sub (by decide))
    have sf54 : (pg) = 1 → GZ (lk) A45 := (show A45 = A from funext (fun k => hF49.2 k rfl)) ▸ p_0
    have sf55 : (pg) = 1 → RD (lk) A45 := (show A45 = A from funext (fun k => hF49.2 k rfl)) ▸ p_1
    have bth2_47 : (0 : Int) ≤ th2_47 ∧ th2_47 ≤ 4 := e51 ▸ hW48.1 0
    refine .inr ⟨_, rfl, ?_⟩
    rcases q52 with ⟨rfl, a56, a57⟩ | ⟨rfl, a58, a59, a60⟩ | ⟨rfl, a61, a62, a63, a64⟩ | ⟨rfl, a65, a66, a67, a68⟩
    · have _q : True := trivial
      refine jx_if_ne (pc_q := 21) (tg := 25) rfl rfl rfl (by decide) (by decide) (fun h69 => ?_) (fun h69 => ?_)
      · have _q := h69
        refine jx_rt (v := none) rfl rfl rfl rfl rfl rfl ?_
        exact ⟨_, _, im, it, om, rfl, rfl, hW48, hF53, ((hF49.1 110 rfl).trans (e_im)), ((hF49.1 111 rfl).trans (e_it)), ((hF49.1 113 rfl).trans (e_om)), by first | exact Or.inl (⟨by omega, by omega, by omega, by omega, sf54⟩) | exact Or.inr ((⟨by omega, by omega, by omega, by omega, sf54⟩))⟩
      · have _q := h69
        exact absurd h69 (by omega)
    · have _q : True := trivial
      exfalso
      omega
    · have _q : True := trivial
      exfalso
      omega
    · have _q : True := trivial
      exfalso
      omega
