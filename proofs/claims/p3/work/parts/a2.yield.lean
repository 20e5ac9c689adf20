/-- a row of ready processes moved down, from k on to m -/
def sdM (B : Nat → Nat → Int) (q k m : Int) : Nat → Nat → Int := fun r n => if r = 71 ∧ 1100 * q + k < (n : Int) ∧ (n : Int) ≤ 1100 * q + m then B 71 (n - 1) else B r n
theorem sdM_0 {B : Nat → Nat → Int} {q k m : Int} (h : m ≤ k) : B = sdM B q k m := funext (fun r => funext (fun n => (if_neg (by omega)).symm))
theorem sdM_k {B : Nat → Nat → Int} {q k m : Int} {r : Nat} (h : r ≠ 71) : sdM B q k m r = B r := funext (fun n => if_neg (fun w => h w.1))
theorem sdM_nx {A A_q B : Nat → Nat → Int} {q k k_q m z y : Int} (e0 : A = sdM B q k m) (e : A_q = uA A 71 z.toNat y) (hz : z = 1100 * q + k) (hq : 0 ≤ q) (hk : 1 ≤ k) (hm : k ≤ m) (hk' : k_q = k - 1) (hy : y = A 71 (1100 * q + k - 1).toNat) : A_q = sdM B q k_q m := by
  subst e0 hz hk' hy
  rw [e]
  funext r n
  unfold uA sdM
  by_cases h1 : r = 71
  · subst h1
    by_cases h2 : n = (1100 * q + k).toNat
    · subst h2
      rw [if_pos ⟨rfl, rfl⟩, if_neg (by omega), if_pos ⟨rfl, by omega, by omega⟩, show (1100 * q + k - 1).toNat = (1100 * q + k).toNat - 1 by omega]
    · rw [if_neg (fun w => h2 w.2)]
      by_cases h3 : 1100 * q + k < (n : Int) ∧ (n : Int) ≤ 1100 * q + m
      · rw [if_pos ⟨rfl, h3⟩, if_pos ⟨rfl, by omega, by omega⟩]
      · rw [if_neg (fun w => h3 w.2), if_neg (fun w => h3 ⟨by omega, w.2.2⟩)]
  · rw [if_neg (fun w => h1 w.1), if_neg (fun w => h1 w.1), if_neg (fun w => h1 w.1)]
/-- its place is kept -/
def svM (A : Nat → Nat → Int) (p : Int) : Nat → Nat → Int := stM A p (A 64 p.toNat - 1) (A 63 p.toNat)
/-- it stands first in row 1, its registers are kept -/
def ydM (A : Nat → Nat → Int) (p : Int) : Nat → Nat → Int := uA (uA (uA (uA (uA (uA (uA (sdM (svM A p) (2 * p + 1) 0 (A 72 (2 * p + 1).toNat)) 71 (1100 * (2 * p + 1)).toNat (A 66 p.toNat)) 72 (2 * p + 1).toNat (A 72 (2 * p + 1).toNat + 1)) 73 p.toNat 1) 74 p.toNat (A 60 p.toNat)) 75 p.toNat (A 61 p.toNat)) 76 p.toNat (A 62 p.toNat)) 77 p.toNat (A 65 p.toNat)
def yR (A A_q : Nat → Nat → Int) (p : Int) : Prop := ((A 66 p.toNat = -1 ∨ A 66 p.toNat % 2 = 0 ∨ A 72 (2 * p).toNat = 0) ∧ A_q = A) ∨ (A 66 p.toNat ≠ -1 ∧ A 66 p.toNat % 2 = 1 ∧ A 72 (2 * p).toNat ≠ 0 ∧ dispR (ydM A p) A_q p)
theorem sd_k {A : Nat → Nat → Int} {p k m : Int} {r : Nat} (h : r ≠ 71) (h_q : r ≠ 59) : sdM (svM A p) (2 * p + 1) k m r = A r := (sdM_k h).trans (stM_ne h_q)
theorem yd_eq {A Ax A3 A4 A5 A6 A7 A8 A9 : Nat → Nat → Int} {p q rn m a b c o : Int} (hx : Ax = sdM (svM A p) (2 * p + 1) 0 (A 72 (2 * p + 1).toNat)) (hq : q = 2 * p + 1) (h66 : Ax 66 p.toNat = rn) (h72 : Ax 72 q.toNat = m) (h60 : Ax 60 p.toNat = a) (h61 : Ax 61 p.toNat = b) (h62 : Ax 62 p.toNat = c) (h65 : Ax 65 p.toNat = o) (e3 : A3 = uA Ax 71 (1100 * q).toNat rn) (e4 : A4 = uA A3 72 q.toNat (m + 1)) (e5 : A5 = uA A4 73 p.toNat 1) (e6 : A6 = uA A5 74 p.toNat a) (e7 : A7 = uA A6 75 p.toNat b) (e8 : A8 = uA A7 76 p.toNat c) (e9 : A9 = uA A8 77 p.toNat o) : A9 = ydM A p := by
  subst hq
  have g : ∀ {r : Nat}, r ≠ 71 → r ≠ 59 → Ax r = A r := fun h h_q => hx ▸ sd_k h h_q
  rw [e9, e8, e7, e6, e5, e4, e3, ← h66, ← h72, ← h60, ← h61, ← h62, ← h65, g (r := 66) (by decide) (by decide), g (r := 72) (by decide) (by decide), g (r := 60) (by decide) (by decide), g (r := 61) (by decide) (by decide), g (r := 62) (by decide) (by decide), g (r := 65) (by decide) (by decide), hx]
  rfl
theorem yd_72 {A : Nat → Nat → Int} {p : Int} : ydM A p 72 (2 * p + 1).toNat = A 72 (2 * p + 1).toNat + 1 := by
  unfold ydM
  rw [uA_ne (by decide), uA_ne (by decide), uA_ne (by decide), uA_ne (by decide), uA_ne (by decide), uA_eq]
theorem yd_72o {A : Nat → Nat → Int} {p : Int} {n : Nat} (h : n ≠ (2 * p + 1).toNat) : ydM A p 72 n = A 72 n := by
  unfold ydM
  rw [uA_ne (by decide), uA_ne (by decide), uA_ne (by decide), uA_ne (by decide), uA_ne (by decide), uA_ni h, uA_ne (by decide), sd_k (by decide) (by decide)]

set_option maxRecDepth 20000 in
set_option maxHeartbeats 4000000 in
theorem c_yield0_at_65 {X : jX} {d : Nat} {c0 c1 : jC} {G : Nat → Int} {A : Nat → Nat → Int} {T : jH} {p : Int} {rn0 m0 m1 : Int} (hd : 4 ≤ d + 1) (hW : Wk G A) (e_rn0 : A 66 (p).toNat = rn0) (e_m0 : A 72 ((2 * p)).toNat = m0) (e_m1 : A 72 (((2 * p) + 1)).toNat = m1) (h_p : (-2147483648 : Int) ≤ p ∧ p ≤ 2147483647) (p_0 : 0 ≤ p) (p_1 : p ≤ 5) (p_2 : 0 ≤ m0) (p_3 : m0 ≤ 1099) (p_4 : 0 ≤ m1) (p_5 : m1 ≤ 1099) (p_6 : rn0 = -1 ∨ -2147483647 ≤ A 64 (p).toNat) : ∀ (m : Nat) (L : jL) (Gx : Nat → Int) (Ax : Nat → Nat → Int) (qr k mq rn ra rb rc ro : Int), (k).toNat = m → jGet L 0 = some (.ref 66) → jGet L 1 = some (.int (i32 (p))) → jGet L 2 = some (.int (i32 qr)) → jGet L 3 = some (.int (i32 k)) → Wk Gx Ax → Fr [] [59, 60, 61, 62, 63, 64, 65, 66, 70, 71, 72, 73, 74, 75, 76, 77] G A Gx Ax → Ax 72 (qr).toNat = mq → Ax 66 (p).toNat = rn → Ax 60 (p).toNat = ra → Ax 61 (p).toNat = rb → Ax 62 (p).toNat = rc → Ax 65 (p).toNat = ro → ((-2147483648 : Int) ≤ qr ∧ qr ≤ 2147483647) → ((-2147483648 : Int) ≤ k ∧ k ≤ 2147483647) → (rn0 % 2 = 1) → (1 ≤ m0) → (0 ≤ rn0 ∨ rn0 ≤ -2) → (qr = 2 * p + 1) → (0 ≤ k) → (k ≤ mq) → (0 ≤ mq) → (mq = m1) → (Ax = sdM (svM A p) (2 * p + 1) (k) (A 72 (2 * p + 1).toNat)) → wj X d jm373 (65, L, [], rV c0 c1 Gx Ax T) (fun o V_q => ∃ (G_q : Nat → Int) (A_q : Nat → Nat → Int), V_q = rV c0 c1 G_q A_q T ∧ o = .inl none ∧ Wk G_q A_q ∧ Fr [] [59, 60, 61, 62, 63, 64, 65, 66, 70, 71, 72, 73, 74, 75, 76, 77] G A G_q A_q ∧ (yR A A_q (p)) ∧ True) := by
  have hF0 : Fr [] [59, 60, 61, 62, 63, 64, 65, 66, 70, 71, 72, 73, 74, 75, 76, 77] G A G A := Fr_rf
  have b_rn0 : (-2147483648 : Int) ≤ rn0 ∧ rn0 ≤ 2147483647 := e_rn0 ▸ hW.2 66 _
  have b_m0 : (-2147483648 : Int) ≤ m0 ∧ m0 ≤ 2147483647 := e_m0 ▸ hW.2 72 _
  have b_m1 : (-2147483648 : Int) ≤ m1 ∧ m1 ≤ 2147483647 := e_m1 ▸ hW.2 72 _
  intro m
  induction m using Nat.strongRecOn with
  | ind m ih65 =>
    intro L Gx Ax qr k mq rn ra rb rc ro hm gL_0 gL_1 gL_2 gL_3 hWx hFx ex_mq ex_rn ex_ra ex_rb ex_rc ex_ro rx_qr rx_k iv_0 iv_1 iv_2 iv_3 iv_4 iv_5 iv_6 iv_7 iv_8
    have b_mq : (-2147483648 : Int) ≤ mq ∧ mq ≤ 2147483647 := ex_mq ▸ hWx.2 72 _
    have b_rn : (-2147483648 : Int) ≤ rn ∧ rn ≤ 2147483647 := ex_rn ▸ hWx.2 66 _
    have b_ra : (-2147483648 : Int) ≤ ra ∧ ra ≤ 2147483647 := ex_ra ▸ hWx.2 60 _
    have b_rb : (-2147483648 : Int) ≤ rb ∧ rb ≤ 2147483647 := ex_rb ▸ hWx.2 61 _
    have b_rc : (-2147483648 : Int) ≤ rc ∧ rc ≤ 2147483647 := ex_rc ▸ hWx.2 62 _
    have b_ro : (-2147483648 : Int) ≤ ro ∧ ro ≤ 2147483647 := ex_ro ▸ hWx.2 65 _
    refine jx_ld (pc_q := 66) (l_q := L) (st_q := [.int (i32 (k))]) rfl (jl_iloadn gL_3) ?_
    refine jx_if_le (pc_q := 69) (tg := 101) rfl rfl rfl (Int.le_trans (by decide : (-2147483648 : Int) ≤ -2147483648) rx_k.1) (Int.le_trans rx_k.2 (by decide : (2147483647 : Int) ≤ 2147483647)) (fun h1 => ?_) (fun h1 => ?_)
    · have _q := h1
      refine jx_ld (pc_q := 102) (l_q := L) (st_q := [.ref 66]) rfl (jl_aloadn gL_0) ?_
      refine jr_get (pc_q := 105) (i := 102) (v := .ref 138) rfl rfl (by decide) rfl rfl ?_
      refine jx_ar (pc_q := 108) (st_q := [.int (i32 (1100)), .ref 138]) rfl rfl rfl rfl ?_
      refine jx_ld (pc_q := 109) (l_q := L) (st_q := [.int (i32 (qr)), .int (i32 (1100)), .ref 138]) rfl (jl_iloadn gL_2) ?_
      refine jx_mul (pc_q := 110) rfl rfl ?_
      refine jx_ld (pc_q := 111) (l_q := L) (st_q := [.ref 66, .int (i32 ((1100 * qr))), .ref 138]) rfl (jl_aloadn gL_0) ?_
      refine jr_get (pc_q := 114) (i := 97) (v := .ref 133) rfl rfl (by decide) rfl rfl ?_
      refine jx_ld (pc_q := 115) (l_q := L) (st_q := [.int (i32 (p)), .ref 133, .int (i32 ((1100 * qr))), .ref 138]) rfl (jl_iloadn gL_1) ?_
      refine jr_ldv (pc_q := 116) (i := 66) (m := 6) (z := p) (y := rn) rfl (by decide) rfl (by decide) (by omega) (by omega) rfl (show Ax 66 (p).toNat = rn from (ex_rn)) ?_
      refine jr_st (pc_q := 117) (i := 71) (m := 13200) (z := (1100 * qr)) (y := rn) rfl (by decide) rfl (by decide) (by omega) (by omega) rfl ?_
      have hW3 : Wk Gx (uA Ax 71 ((1100 * qr)).toNat (rn)) := Wk_a hWx (show (-2147483648 : Int) ≤ rn by omega) (show rn ≤ (2147483647 : Int) by omega)
      have hF4 := Fr_a (z := rn) (k := 71) (n := ((1100 * qr)).toNat) hFx (by decide)
      obtain ⟨A2, eA2⟩ : ∃ q, q = uA Ax 71 ((1100 * qr)).toNat (rn) := ⟨_, rfl⟩
      rw [← eA2]
      rw [← eA2] at hW3 hF4
      have q5 : A2 71 ((1100 * qr)).toNat = rn := by rw [eA2]; exact uA_eq
      refine jx_ld (pc_q := 118) (l_q := L) (st_q := [.ref 66]) rfl (jl_aloadn gL_0) ?_
      refine jr_get (pc_q := 121) (i := 103) (v := .ref 139) rfl rfl (by decide) rfl rfl ?_
      refine jx_ld (pc_q := 122) (l_q := L) (st_q := [.int (i32 (qr)), .ref 139]) rfl (jl_iloadn gL_2) ?_
      refine jx_ar (pc_q := 123) (st_q := [.int (i32 (qr)), .ref 139, .int (i32 (qr)), .ref 139]) rfl rfl rfl rfl ?_
      refine jr_ldv (pc_q := 124) (i := 72) (m := 12) (z := qr) (y := mq) rfl (by decide) rfl (by decide) (by omega) (by omega) rfl (show A2 72 (qr).toNat = mq from (congrFun ((congrFun eA2 72).trans (uA_ne (by decide))) _).trans (ex_mq)) ?_
      refine jx_ar (pc_q := 125) (st_q := [.int (i32 (1)), .int (i32 (mq)), .int (i32 (qr)), .ref 139]) rfl rfl rfl rfl ?_
      refine jx_add (pc_q := 126) rfl rfl ?_
      refine jr_st (pc_q := 127) (i := 72) (m := 12) (z := qr) (y := (mq + 1)) rfl (by decide) rfl (by decide) (by omega) (by omega) rfl ?_
      have hW7 : Wk Gx (uA A2 72 (qr).toNat ((mq + 1))) := Wk_a hW3 (show (-2147483648 : Int) ≤ (mq + 1) by omega) (show (mq + 1) ≤ (2147483647 : Int) by omega)
      have hF8 := Fr_a (z := (mq + 1)) (k := 72) (n := (qr).toNat) hF4 (by decide)
      obtain ⟨A6, eA6⟩ : ∃ q, q = uA A2 72 (qr).toNat ((mq + 1)) := ⟨_, rfl⟩
      rw [← eA6]
      rw [← eA6] at hW7 hF8
      have q9 : A6 72 (qr).toNat = (mq + 1) := by rw [eA6]; exact uA_eq
      refine jx_ld (pc_q := 128) (l_q := L) (st_q := [.ref 66]) rfl (jl_aloadn gL_0) ?_
      refine jr_get (pc_q := 131) (i := 104) (v := .ref 140) rfl rfl (by decide) rfl rfl ?_
      refine jx_ld (pc_q := 132) (l_q := L) (st_q := [.int (i32 (p)), .ref 140]) rfl (jl_iloadn gL_1) ?_
      refine jx_ar (pc_q := 133) (st_q := [.int (i32 (1)), .int (i32 (p)), .ref 140]) rfl rfl rfl rfl ?_
      refine jr_sb (pc_q := 134) (i := 73) (m := 6) (z := p) (y := 1) rfl (by decide) rfl (by decide) (by omega) (by omega) (by omega) rfl ?_
      have hW11 : Wk Gx (uA A6 73 (p).toNat (1)) := Wk_a hW7 (show (0 : Int) ≤ 1 by omega) (show 1 ≤ (1 : Int) by omega)
      have hF12 := Fr_a (z := 1) (k := 73) (n := (p).toNat) hF8 (by decide)
      obtain ⟨A10, eA10⟩ : ∃ q, q = uA A6 73 (p).toNat (1) := ⟨_, rfl⟩
      rw [← eA10]
      rw [← eA10] at hW11 hF12
      have q13 : A10 73 (p).toNat = 1 := by rw [eA10]; exact uA_eq
      refine jx_ld (pc_q := 135) (l_q := L) (st_q := [.ref 66]) rfl (jl_aloadn gL_0) ?_
      refine jr_get (pc_q := 138) (i := 105) (v := .ref 141) rfl rfl (by decide) rfl rfl ?_
      refine jx_ld (pc_q := 139) (l_q := L) (st_q := [.int (i32 (p)), .ref 141]) rfl (jl_iloadn gL_1) ?_
      refine jx_ld (pc_q := 140) (l_q := L) (st_q := [.ref 66, .int (i32 (p)), .ref 141]) rfl (jl_aloadn gL_0) ?_
      refine jr_get (pc_q := 143) (i := 91) (v := .ref 127) rfl rfl (by decide) rfl rfl ?_
      refine jx_ld (pc_q := 144) (l_q := L) (st_q := [.int (i32 (p)), .ref 127, .int (i32 (p)), .ref 141]) rfl (jl_iloadn gL_1) ?_
      refine jr_ldv (pc_q := 145) (i := 60) (m := 6) (z := p) (y := ra) rfl (by decide) rfl (by decide) (by omega) (by omega) rfl (show A10 60 (p).toNat = ra from (congrFun (((congrFun eA10 60).trans (uA_ne (by decide))).trans (((congrFun eA6 60).trans (uA_ne (by decide))).trans ((congrFun eA2 60).trans (uA_ne (by decide))))) _).trans (ex_ra)) ?_
      refine jr_st (pc_q := 146) (i := 74) (m := 6) (z := p) (y := ra) rfl (by decide) rfl (by decide) (by omega) (by omega) rfl ?_
      have hW15 : Wk Gx (uA A10 74 (p).toNat (ra)) := Wk_a hW11 (show (-2147483648 : Int) ≤ ra by omega) (show ra ≤ (2147483647 : Int) by omega)
      have hF16 := Fr_a (z := ra) (k := 74) (n := (p).toNat) hF12 (by decide)
      obtain ⟨A14, eA14⟩ : ∃ q, q = uA A10 74 (p).toNat (ra) := ⟨_, rfl⟩
      rw [← eA14]
      rw [← eA14] at hW15 hF16
      have q17 : A14 74 (p).toNat = ra := by rw [eA14]; exact uA_eq
      refine jx_ld (pc_q := 147) (l_q := L) (st_q := [.ref 66]) rfl (jl_aloadn gL_0) ?_
      refine jr_get (pc_q := 150) (i := 106) (v := .ref 142) rfl rfl (by decide) rfl rfl ?_
      refine jx_ld (pc_q := 151) (l_q := L) (st_q := [.int (i32 (p)), .ref 142]) rfl (jl_iloadn gL_1) ?_
      refine jx_ld (pc_q := 152) (l_q := L) (st_q := [.ref 66, .int (i32 (p)), .ref 142]) rfl (jl_aloadn gL_0) ?_
      refine jr_get (pc_q := 155) (i := 92) (v := .ref 128) rfl rfl (by decide) rfl rfl ?_
      refine jx_ld (pc_q := 156) (l_q := L) (st_q := [.int (i32 (p)), .ref 128, .int (i32 (p)), .ref 142]) rfl (jl_iloadn gL_1) ?_
      refine jr_ldv (pc_q := 157) (i := 61) (m := 6) (z := p) (y := rb) rfl (by decide) rfl (by decide) (by omega) (by omega) rfl (show A14 61 (p).toNat = rb from (congrFun (((congrFun eA14 61).trans (uA_ne (by decide))).trans (((congrFun eA10 61).trans (uA_ne (by decide))).trans (((congrFun eA6 61).trans (uA_ne (by decide))).trans ((congrFun eA2 61).trans (uA_ne (by decide)))))) _).trans (ex_rb)) ?_
      refine jr_st (pc_q := 158) (i := 75) (m := 6) (z := p) (y := rb) rfl (by decide) rfl (by decide) (by omega) (by omega) rfl ?_
      have hW19 : Wk Gx (uA A14 75 (p).toNat (rb)) := Wk_a hW15 (show (-2147483648 : Int) ≤ rb by omega) (show rb ≤ (2147483647 : Int) by omega)
      have hF20 := Fr_a (z := rb) (k := 75) (n := (p).toNat) hF16 (by decide)
      obtain ⟨A18, eA18⟩ : ∃ q, q = uA A14 75 (p).toNat (rb) := ⟨_, rfl⟩
      rw [← eA18]
      rw [← eA18] at hW19 hF20
      have q21 : A18 75 (p).toNat = rb := by rw [eA18]; exact uA_eq
      refine jx_ld (pc_q := 159) (l_q := L) (st_q := [.ref 66]) rfl (jl_aloadn gL_0) ?_
      refine jr_get (pc_q := 162) (i := 107) (v := .ref 143) rfl rfl (by decide) rfl rfl ?_
      refine jx_ld (pc_q := 163) (l_q := L) (st_q := [.int (i32 (p)), .ref 143]) rfl (jl_iloadn gL_1) ?_
      refine jx_ld (pc_q := 164) (l_q := L) (st_q := [.ref 66, .int (i32 (p)), .ref 143]) rfl (jl_aloadn gL_0) ?_
      refine jr_get (pc_q := 167) (i := 93) (v := .ref 129) rfl rfl (by decide) rfl rfl ?_
      refine jx_ld (pc_q := 168) (l_q := L) (st_q := [.int (i32 (p)), .ref 129, .int (i32 (p)), .ref 143]) rfl (jl_iloadn gL_1) ?_
      refine jr_ldv (pc_q := 169) (i := 62) (m := 6) (z := p) (y := rc) rfl (by decide) rfl (by decide) (by omega) (by omega) rfl (show A18 62 (p).toNat = rc from (congrFun (((congrFun eA18 62).trans (uA_ne (by decide))).trans (((congrFun eA14 62).trans (uA_ne (by decide))).trans (((congrFun eA10 62).trans (uA_ne (by decide))).trans (((congrFun eA6 62).trans (uA_ne (by decide))).trans ((congrFun eA2 62).trans (uA_ne (by decide))))))) _).trans (ex_rc)) ?_
      refine jr_st (pc_q := 170) (i := 76) (m := 6) (z := p) (y := rc) rfl (by decide) rfl (by decide) (by omega) (by omega) rfl ?_
      have hW23 : Wk Gx (uA A18 76 (p).toNat (rc)) := Wk_a hW19 (show (-2147483648 : Int) ≤ rc by omega) (show rc ≤ (2147483647 : Int) by omega)
      have hF24 := Fr_a (z := rc) (k := 76) (n := (p).toNat) hF20 (by decide)
      obtain ⟨A22, eA22⟩ : ∃ q, q = uA A18 76 (p).toNat (rc) := ⟨_, rfl⟩
      rw [← eA22]
      rw [← eA22] at hW23 hF24
      have q25 : A22 76 (p).toNat = rc := by rw [eA22]; exact uA_eq
      refine jx_ld (pc_q := 171) (l_q := L) (st_q := [.ref 66]) rfl (jl_aloadn gL_0) ?_
      refine jr_get (pc_q := 174) (i := 108) (v := .ref 144) rfl rfl (by decide) rfl rfl ?_
      refine jx_ld (pc_q := 175) (l_q := L) (st_q := [.int (i32 (p)), .ref 144]) rfl (jl_iloadn gL_1) ?_
      refine jx_ld (pc_q := 176) (l_q := L) (st_q := [.ref 66, .int (i32 (p)), .ref 144]) rfl (jl_aloadn gL_0) ?_
      refine jr_get (pc_q := 179) (i := 96) (v := .ref 132) rfl rfl (by decide) rfl rfl ?_
      refine jx_ld (pc_q := 180) (l_q := L) (st_q := [.int (i32 (p)), .ref 132, .int (i32 (p)), .ref 144]) rfl (jl_iloadn gL_1) ?_
      refine jr_ldv (pc_q := 181) (i := 65) (m := 6) (z := p) (y := ro) rfl (by decide) rfl (by decide) (by omega) (by omega) rfl (show A22 65 (p).toNat = ro from (congrFun (((congrFun eA22 65).trans (uA_ne (by decide))).trans (((congrFun eA18 65).trans (uA_ne (by decide))).trans (((congrFun eA14 65).trans (uA_ne (by decide))).trans (((congrFun eA10 65).trans (uA_ne (by decide))).trans (((congrFun eA6 65).trans (uA_ne (by decide))).trans ((congrFun eA2 65).trans (uA_ne (by decide)))))))) _).trans (ex_ro)) ?_
      refine jr_st (pc_q := 182) (i := 77) (m := 6) (z := p) (y := ro) rfl (by decide) rfl (by decide) (by omega) (by omega) rfl ?_
      have hW27 : Wk Gx (uA A22 77 (p).toNat (ro)) := Wk_a hW23 (show (-2147483648 : Int) ≤ ro by omega) (show ro ≤ (2147483647 : Int) by omega)
      have hF28 := Fr_a (z := ro) (k := 77) (n := (p).toNat) hF24 (by decide)
      obtain ⟨A26, eA26⟩ : ∃ q, q = uA A22 77 (p).toNat (ro) := ⟨_, rfl⟩
      rw [← eA26]
      rw [← eA26] at hW27 hF28
      have q29 : A26 77 (p).toNat = ro := by rw [eA26]; exact uA_eq
      have hyd : A26 = ydM A p := yd_eq (show _ = _ from (by have h0 : k = 0 := (by omega); subst h0; exact iv_8)) (by omega) ex_rn ex_mq ex_ra ex_rb ex_rc ex_ro eA2 eA6 eA10 eA14 eA18 eA22 eA26; have hc1 : A6 72 (2 * p + 1).toNat = mq + 1 := (by rw [eA6, show (2 * p + 1) = qr by omega]; exact uA_eq); have hc0 : A6 72 (2 * p).toNat = m0 := (by rw [eA6, uA_ni (by omega), eA2, uA_ne (by decide), iv_8, sd_k (by decide) (by decide)]; exact e_m0)
      refine jx_ld (pc_q := 183) (l_q := L) (st_q := [.ref 66]) rfl (jl_aloadn gL_0) ?_
      refine jx_ld (pc_q := 184) (l_q := L) (st_q := [.int (i32 (p)), .ref 66]) rfl (jl_iloadn gL_1) ?_
      have b30 : (-2147483648 : Int) ≤ A6 72 ((2 * p)).toNat ∧ A6 72 ((2 * p)).toNat ≤ 2147483647 := hW7.2 72 _
      have b31 : (-2147483648 : Int) ≤ A6 72 (((2 * p) + 1)).toNat ∧ A6 72 (((2 * p) + 1)).toNat ≤ 2147483647 := hW7.2 72 _
      refine jx_vr (pc_q := 187) (as := [.int (i32 (p))]) (st := []) rfl rfl rfl rfl ⟨rfl, rfl, Nat.le_of_ble_eq_true rfl⟩ rfl rfl (c_dispatch (dd := d) (hd := by omega) (hW := hW27) (p := p) (m0 := A6 72 ((2 * p)).toNat) (e_m0 := show A26 72 ((2 * p)).toNat = A6 72 ((2 * p)).toNat from (congrFun (((congrFun eA26 72).trans (uA_ne (by decide))).trans (((congrFun eA22 72).trans (uA_ne (by decide))).trans (((congrFun eA18 72).trans (uA_ne (by decide))).trans (((congrFun eA14 72).trans (uA_ne (by decide))).trans ((congrFun eA10 72).trans (uA_ne (by decide))))))) _)) (m1 := A6 72 (((2 * p) + 1)).toNat) (e_m1 := show A26 72 (((2 * p) + 1)).toNat = A6 72 (((2 * p) + 1)).toNat from (congrFun (((congrFun eA26 72).trans (uA_ne (by decide))).trans (((congrFun eA22 72).trans (uA_ne (by decide))).trans (((congrFun eA18 72).trans (uA_ne (by decide))).trans (((congrFun eA14 72).trans (uA_ne (by decide))).trans ((congrFun eA10 72).trans (uA_ne (by decide))))))) _))  (h_p := ⟨(Int.le_trans (by decide : (-2147483648 : Int) ≤ -2147483648) h_p.1), (Int.le_trans h_p.2 (by decide : (2147483647 : Int) ≤ 2147483647))⟩)  (p_0 := by omega) (p_1 := by omega) (p_2 := by omega) (p_3 := by omega) (p_4 := by omega) (p_5 := by omega)) (fun o V_q hq => ?_)
      obtain ⟨G32, A33, rfl, rfl, hW34, hF35, p36, -⟩ := hq
      have hF38 := Fr_tr hF28 hF35 (Fr_sub (by decide)) (Fr_sub (by decide))
      refine .inl ⟨rfl, ?_⟩
      refine jx_rt (v := none) rfl rfl rfl rfl rfl rfl ?_
      exact ⟨_, _, rfl, rfl, hW34, hF38, (.inr ⟨by omega, by omega, by omega, hyd ▸ p36⟩), trivial⟩
    · have _q := h1
      refine jx_ld (pc_q := 70) (l_q := L) (st_q := [.ref 66]) rfl (jl_aloadn gL_0) ?_
      refine jr_get (pc_q := 73) (i := 102) (v := .ref 138) rfl rfl (by decide) rfl rfl ?_
      refine jx_ar (pc_q := 76) (st_q := [.int (i32 (1100)), .ref 138]) rfl rfl rfl rfl ?_
      refine jx_ld (pc_q := 77) (l_q := L) (st_q := [.int (i32 (qr)), .int (i32 (1100)), .ref 138]) rfl (jl_iloadn gL_2) ?_
      refine jx_mul (pc_q := 78) rfl rfl ?_
      refine jx_ld (pc_q := 79) (l_q := L) (st_q := [.int (i32 (k)), .int (i32 ((1100 * qr))), .ref 138]) rfl (jl_iloadn gL_3) ?_
      refine jx_add (pc_q := 80) rfl rfl ?_
      refine jx_ld (pc_q := 81) (l_q := L) (st_q := [.ref 66, .int (i32 (((1100 * qr) + k))), .ref 138]) rfl (jl_aloadn gL_0) ?_
      refine jr_get (pc_q := 84) (i := 102) (v := .ref 138) rfl rfl (by decide) rfl rfl ?_
      refine jx_ar (pc_q := 87) (st_q := [.int (i32 (1100)), .ref 138, .int (i32 (((1100 * qr) + k))), .ref 138]) rfl rfl rfl rfl ?_
      refine jx_ld (pc_q := 88) (l_q := L) (st_q := [.int (i32 (qr)), .int (i32 (1100)), .ref 138, .int (i32 (((1100 * qr) + k))), .ref 138]) rfl (jl_iloadn gL_2) ?_
      refine jx_mul (pc_q := 89) rfl rfl ?_
      refine jx_ld (pc_q := 90) (l_q := L) (st_q := [.int (i32 (k)), .int (i32 ((1100 * qr))), .ref 138, .int (i32 (((1100 * qr) + k))), .ref 138]) rfl (jl_iloadn gL_3) ?_
      refine jx_add (pc_q := 91) rfl rfl ?_
      refine jx_ar (pc_q := 92) (st_q := [.int (i32 (1)), .int (i32 (((1100 * qr) + k))), .ref 138, .int (i32 (((1100 * qr) + k))), .ref 138]) rfl rfl rfl rfl ?_
      refine jx_sub (pc_q := 93) rfl rfl ?_
      have b39 : (-2147483648 : Int) ≤ Ax 71 ((((1100 * qr) + k) - 1)).toNat ∧ Ax 71 ((((1100 * qr) + k) - 1)).toNat ≤ 2147483647 := hWx.2 71 _
      refine jr_ldv (pc_q := 94) (i := 71) (m := 13200) (z := (((1100 * qr) + k) - 1)) (y := Ax 71 ((((1100 * qr) + k) - 1)).toNat) rfl (by decide) rfl (by decide) (by omega) (by omega) rfl (show Ax 71 ((((1100 * qr) + k) - 1)).toNat = Ax 71 ((((1100 * qr) + k) - 1)).toNat from rfl) ?_
      refine jr_st (pc_q := 95) (i := 71) (m := 13200) (z := ((1100 * qr) + k)) (y := Ax 71 ((((1100 * qr) + k) - 1)).toNat) rfl (by decide) rfl (by decide) (by omega) (by omega) rfl ?_
      have hW41 : Wk Gx (uA Ax 71 (((1100 * qr) + k)).toNat (Ax 71 ((((1100 * qr) + k) - 1)).toNat)) := Wk_a hWx (show (-2147483648 : Int) ≤ Ax 71 ((((1100 * qr) + k) - 1)).toNat by omega) (show Ax 71 ((((1100 * qr) + k) - 1)).toNat ≤ (2147483647 : Int) by omega)
      have hF42 := Fr_a (z := Ax 71 ((((1100 * qr) + k) - 1)).toNat) (k := 71) (n := (((1100 * qr) + k)).toNat) hFx (by decide)
      obtain ⟨A40, eA40⟩ : ∃ q, q = uA Ax 71 (((1100 * qr) + k)).toNat (Ax 71 ((((1100 * qr) + k) - 1)).toNat) := ⟨_, rfl⟩
      rw [← eA40]
      rw [← eA40] at hW41 hF42
      have q43 : A40 71 (((1100 * qr) + k)).toNat = Ax 71 ((((1100 * qr) + k) - 1)).toNat := by rw [eA40]; exact uA_eq
      refine jx_inc (pc_q := 98) (l_q := jSto1 L 3 (.int (i32 ((k + (-1)))))) (x := k) rfl gL_3 (by decide) rfl rfl ?_
      obtain ⟨L44, eL44⟩ : ∃ q, q = jSto1 L 3 (.int (i32 ((k + (-1))))) := ⟨_, rfl⟩
      rw [← eL44]
      have gL44_0 : jGet L44 0 = some (.ref 66) := eL44 ▸ jg_ne (by decide) gL_0 rfl
      have gL44_1 : jGet L44 1 = some (.int (i32 (p))) := eL44 ▸ jg_ne (by decide) gL_1 rfl
      have gL44_2 : jGet L44 2 = some (.int (i32 (qr))) := eL44 ▸ jg_ne (by decide) gL_2 rfl
      have gL44_3 : jGet L44 3 = some (.int (i32 ((k + (-1))))) := eL44 ▸ jg_eq
      refine jx_go (tg := 65) rfl rfl ?_
      exact ih65 _ (by omega) L44 Gx A40 (qr) ((k + (-1))) (mq) (rn) (ra) (rb) (rc) (ro) rfl gL44_0 gL44_1 gL44_2 gL44_3 hW41 hF42 ((congrFun ((congrFun eA40 72).trans (uA_ne (by decide))) _).trans (ex_mq)) ((congrFun ((congrFun eA40 66).trans (uA_ne (by decide))) _).trans (ex_rn)) ((congrFun ((congrFun eA40 60).trans (uA_ne (by decide))) _).trans (ex_ra)) ((congrFun ((congrFun eA40 61).trans (uA_ne (by decide))) _).trans (ex_rb)) ((congrFun ((congrFun eA40 62).trans (uA_ne (by decide))) _).trans (ex_rc)) ((congrFun ((congrFun eA40 65).trans (uA_ne (by decide))) _).trans (ex_ro)) (by omega) (by omega) (by omega) (by omega) (by omega) (by omega) (by omega) (by omega) (by omega) (by omega) ((sdM_nx iv_8 eA40 (by omega) (by omega) (by omega) (by omega) (by omega) (by rw [show 1100 * (2 * p + 1) + k - 1 = 1100 * qr + k - 1 by omega])))
set_option maxRecDepth 20000 in
set_option maxHeartbeats 4000000 in
theorem c_yield0 {X : jX} {dd : Nat} {c0 c1 : jC} {G : Nat → Int} {A : Nat → Nat → Int} {T : jH} {p : Int} {rn0 m0 m1 : Int} (hd : 4 ≤ dd) (hW : Wk G A) (e_rn0 : A 66 (p).toNat = rn0) (e_m0 : A 72 ((2 * p)).toNat = m0) (e_m1 : A 72 (((2 * p) + 1)).toNat = m1) (h_p : (-2147483648 : Int) ≤ p ∧ p ≤ 2147483647) (p_0 : 0 ≤ p) (p_1 : p ≤ 5) (p_2 : 0 ≤ m0) (p_3 : m0 ≤ 1099) (p_4 : 0 ≤ m1) (p_5 : m1 ≤ 1099) (p_6 : rn0 = -1 ∨ -2147483647 ≤ A 64 (p).toNat) : wk X dd 373 [.ref 66, .int (i32 p)] (rV c0 c1 G A T) (fun o V_q => ∃ (G_q : Nat → Int) (A_q : Nat → Nat → Int), V_q = rV c0 c1 G_q A_q T ∧ o = .inl none ∧ Wk G_q A_q ∧ Fr [] [59, 60, 61, 62, 63, 64, 65, 66, 70, 71, 72, 73, 74, 75, 76, 77] G A G_q A_q ∧ (yR A A_q (p)) ∧ True) := by
  obtain ⟨d, rfl⟩ : ∃ d, dd = d + 1 := ⟨dd - 1, by omega⟩
  refine wk_of (e := jm373) rfl (Nat.le_of_ble_eq_true rfl) ?_
  show wj X d jm373 (0, [(0, .ref 66), (1, .int (i32 (p)))], [], rV c0 c1 G A T) _
  have hF0 : Fr [] [59, 60, 61, 62, 63, 64, 65, 66, 70, 71, 72, 73, 74, 75, 76, 77] G A G A := Fr_rf
  have b_rn0 : (-2147483648 : Int) ≤ rn0 ∧ rn0 ≤ 2147483647 := e_rn0 ▸ hW.2 66 _
  have b_m0 : (-2147483648 : Int) ≤ m0 ∧ m0 ≤ 2147483647 := e_m0 ▸ hW.2 72 _
  have b_m1 : (-2147483648 : Int) ≤ m1 ∧ m1 ≤ 2147483647 := e_m1 ▸ hW.2 72 _
  refine jx_ld (pc_q := 1) (l_q := [(0, .ref 66), (1, .int (i32 (p)))]) (st_q := [.ref 66]) rfl (jl_aloadn rfl) ?_
  refine jr_get (pc_q := 4) (i := 97) (v := .ref 133) rfl rfl (by decide) rfl rfl ?_
  refine jx_ld (pc_q := 5) (l_q := [(0, .ref 66), (1, .int (i32 (p)))]) (st_q := [.int (i32 (p)), .ref 133]) rfl (jl_iloadn rfl) ?_
  refine jr_ldv (pc_q := 6) (i := 66) (m := 6) (z := p) (y := rn0) rfl (by decide) rfl (by decide) (by omega) (by omega) rfl (show A 66 (p).toNat = rn0 from (e_rn0)) ?_
  refine jx_ar (pc_q := 7) (st_q := [.int (i32 (-1)), .int (i32 (rn0))]) rfl rfl rfl rfl ?_
  refine jx_icmp_eq (pc_q := 10) (tg := 32) rfl rfl rfl (Int.le_trans (by decide : (-2147483648 : Int) ≤ -2147483648) b_rn0.1) (Int.le_trans b_rn0.2 (by decide : (2147483647 : Int) ≤ 2147483647)) (by decide) (by decide) (fun h45 => ?_) (fun h45 => ?_)
  · have _q := h45
    refine jx_rt (v := none) rfl rfl rfl rfl rfl rfl ?_
    exact ⟨_, _, rfl, rfl, hW, hF0, (.inl ⟨by omega, rfl⟩), trivial⟩
  · have _q := h45
    refine jx_ld (pc_q := 11) (l_q := [(0, .ref 66), (1, .int (i32 (p)))]) (st_q := [.ref 66]) rfl (jl_aloadn rfl) ?_
    refine jr_get (pc_q := 14) (i := 97) (v := .ref 133) rfl rfl (by decide) rfl rfl ?_
    refine jx_ld (pc_q := 15) (l_q := [(0, .ref 66), (1, .int (i32 (p)))]) (st_q := [.int (i32 (p)), .ref 133]) rfl (jl_iloadn rfl) ?_
    refine jr_ldv (pc_q := 16) (i := 66) (m := 6) (z := p) (y := rn0) rfl (by decide) rfl (by decide) (by omega) (by omega) rfl (show A 66 (p).toNat = rn0 from (e_rn0)) ?_
    refine jx_ar (pc_q := 17) (st_q := [.int (i32 (1)), .int (i32 (rn0))]) rfl rfl rfl rfl ?_
    refine jx_and (pc_q := 18) rfl rfl ?_
    obtain ⟨b46, eb46⟩ : ∃ z, z = (i32 (rn0) &&& i32 (1)).toInt := ⟨_, rfl⟩
    rw [← eb46]
    have rb46 : (-2147483648 : Int) ≤ b46 ∧ b46 ≤ 2147483647 := eb46 ▸ i32_rg _
    have hb46 := (show b46 = (i32 rn0 &&& i32 1).toInt from eb46).trans (and_1f (by omega) (by omega))
    refine jx_if_eq (pc_q := 21) (tg := 32) rfl rfl rfl (Int.le_trans (by decide : (-2147483648 : Int) ≤ -2147483648) rb46.1) (Int.le_trans rb46.2 (by decide : (2147483647 : Int) ≤ 2147483647)) (fun h47 => ?_) (fun h47 => ?_)
    · have _q := h47
      refine jx_rt (v := none) rfl rfl rfl rfl rfl rfl ?_
      exact ⟨_, _, rfl, rfl, hW, hF0, (.inl ⟨by omega, rfl⟩), trivial⟩
    · have _q := h47
      refine jx_ld (pc_q := 22) (l_q := [(0, .ref 66), (1, .int (i32 (p)))]) (st_q := [.ref 66]) rfl (jl_aloadn rfl) ?_
      refine jr_get (pc_q := 25) (i := 103) (v := .ref 139) rfl rfl (by decide) rfl rfl ?_
      refine jx_ar (pc_q := 26) (st_q := [.int (i32 (2)), .ref 139]) rfl rfl rfl rfl ?_
      refine jx_ld (pc_q := 27) (l_q := [(0, .ref 66), (1, .int (i32 (p)))]) (st_q := [.int (i32 (p)), .int (i32 (2)), .ref 139]) rfl (jl_iloadn rfl) ?_
      refine jx_mul (pc_q := 28) rfl rfl ?_
      refine jr_ldv (pc_q := 29) (i := 72) (m := 12) (z := (2 * p)) (y := m0) rfl (by decide) rfl (by decide) (by omega) (by omega) rfl (show A 72 ((2 * p)).toNat = m0 from (e_m0)) ?_
      refine jx_if_ne (pc_q := 32) (tg := 33) rfl rfl rfl (Int.le_trans (by decide : (-2147483648 : Int) ≤ -2147483648) b_m0.1) (Int.le_trans b_m0.2 (by decide : (2147483647 : Int) ≤ 2147483647)) (fun h48 => ?_) (fun h48 => ?_)
      · have _q := h48
        refine jx_ld (pc_q := 34) (l_q := [(0, .ref 66), (1, .int (i32 (p)))]) (st_q := [.ref 66]) rfl (jl_aloadn rfl) ?_
        refine jx_ld (pc_q := 35) (l_q := [(0, .ref 66), (1, .int (i32 (p)))]) (st_q := [.int (i32 (p)), .ref 66]) rfl (jl_iloadn rfl) ?_
        refine jx_ld (pc_q := 36) (l_q := [(0, .ref 66), (1, .int (i32 (p)))]) (st_q := [.ref 66, .int (i32 (p)), .ref 66]) rfl (jl_aloadn rfl) ?_
        refine jr_get (pc_q := 39) (i := 95) (v := .ref 131) rfl rfl (by decide) rfl rfl ?_
        refine jx_ld (pc_q := 40) (l_q := [(0, .ref 66), (1, .int (i32 (p)))]) (st_q := [.int (i32 (p)), .ref 131, .int (i32 (p)), .ref 66]) rfl (jl_iloadn rfl) ?_
        have b49 : (-2147483648 : Int) ≤ A 64 (p).toNat ∧ A 64 (p).toNat ≤ 2147483647 := hW.2 64 _
        refine jr_ldv (pc_q := 41) (i := 64) (m := 6) (z := p) (y := A 64 (p).toNat) rfl (by decide) rfl (by decide) (by omega) (by omega) rfl (show A 64 (p).toNat = A 64 (p).toNat from rfl) ?_
        refine jx_ar (pc_q := 42) (st_q := [.int (i32 (1)), .int (i32 (A 64 (p).toNat)), .int (i32 (p)), .ref 66]) rfl rfl rfl rfl ?_
        refine jx_sub (pc_q := 43) rfl rfl ?_
        refine jx_ld (pc_q := 44) (l_q := [(0, .ref 66), (1, .int (i32 (p)))]) (st_q := [.ref 66, .int (i32 ((A 64 (p).toNat - 1))), .int (i32 (p)), .ref 66]) rfl (jl_aloadn rfl) ?_
        refine jr_get (pc_q := 47) (i := 94) (v := .ref 130) rfl rfl (by decide) rfl rfl ?_
        refine jx_ld (pc_q := 48) (l_q := [(0, .ref 66), (1, .int (i32 (p)))]) (st_q := [.int (i32 (p)), .ref 130, .int (i32 ((A 64 (p).toNat - 1))), .int (i32 (p)), .ref 66]) rfl (jl_iloadn rfl) ?_
        have b50 : (-2147483648 : Int) ≤ A 63 (p).toNat ∧ A 63 (p).toNat ≤ 2147483647 := hW.2 63 _
        refine jr_ldv (pc_q := 49) (i := 63) (m := 6) (z := p) (y := A 63 (p).toNat) rfl (by decide) rfl (by decide) (by omega) (by omega) rfl (show A 63 (p).toNat = A 63 (p).toNat from rfl) ?_
        refine jx_vr (pc_q := 52) (as := [.int (i32 (p)), .int (i32 ((A 64 (p).toNat - 1))), .int (i32 (A 63 (p).toNat))]) (st := []) rfl rfl rfl rfl ⟨rfl, rfl, Nat.le_of_ble_eq_true rfl⟩ rfl rfl (c_store (dd := d) (hd := by omega) (hW := hW) (p := p) (a := (A 64 (p).toNat - 1)) (v := A 63 (p).toNat)   (h_p := ⟨(Int.le_trans (by decide : (-2147483648 : Int) ≤ -2147483648) h_p.1), (Int.le_trans h_p.2 (by decide : (2147483647 : Int) ≤ 2147483647))⟩) (h_a := ⟨(by omega), (by omega)⟩) (h_v := ⟨(Int.le_trans (by decide : (-2147483648 : Int) ≤ -2147483648) b50.1), (Int.le_trans b50.2 (by decide : (2147483647 : Int) ≤ 2147483647))⟩)  (p_0 := by omega) (p_1 := by omega)) (fun o V_q hq => ?_)
        obtain ⟨G51, A52, rfl, rfl, hW53, hF54, p55, -⟩ := hq
        have hF57 := Fr_tr hF0 hF54 (Fr_sub (by decide)) (Fr_sub (by decide))
        refine .inl ⟨rfl, ?_⟩
        refine jx_ar (pc_q := 53) (st_q := [.int (i32 (2))]) rfl rfl rfl rfl ?_
        refine jx_ld (pc_q := 54) (l_q := [(0, .ref 66), (1, .int (i32 (p)))]) (st_q := [.int (i32 (p)), .int (i32 (2))]) rfl (jl_iloadn rfl) ?_
        refine jx_mul (pc_q := 55) rfl rfl ?_
        refine jx_ar (pc_q := 56) (st_q := [.int (i32 (1)), .int (i32 ((2 * p)))]) rfl rfl rfl rfl ?_
        refine jx_add (pc_q := 57) rfl rfl ?_
        refine jx_ld (pc_q := 58) (l_q := jSto1 [(0, .ref 66), (1, .int (i32 (p)))] 2 (.int (i32 (((2 * p) + 1))))) (st_q := []) rfl rfl ?_
        obtain ⟨L58, eL58⟩ : ∃ q, q = jSto1 [(0, .ref 66), (1, .int (i32 (p)))] 2 (.int (i32 (((2 * p) + 1)))) := ⟨_, rfl⟩
        rw [← eL58]
        have gL58_0 : jGet L58 0 = some (.ref 66) := eL58 ▸ jg_ne (by decide) (rfl : jGet [(0, .ref 66), (1, .int (i32 (p)))] 0 = some (.ref 66)) rfl
        have gL58_1 : jGet L58 1 = some (.int (i32 (p))) := eL58 ▸ jg_ne (by decide) (rfl : jGet [(0, .ref 66), (1, .int (i32 (p)))] 1 = some (.int (i32 (p)))) rfl
        have gL58_2 : jGet L58 2 = some (.int (i32 (((2 * p) + 1)))) := eL58 ▸ jg_eq
        refine jx_ld (pc_q := 59) (l_q := L58) (st_q := [.ref 66]) rfl (jl_aloadn gL58_0) ?_
        refine jr_get (pc_q := 62) (i := 103) (v := .ref 139) rfl rfl (by decide) rfl rfl ?_
        refine jx_ld (pc_q := 63) (l_q := L58) (st_q := [.int (i32 (((2 * p) + 1))), .ref 139]) rfl (jl_iloadn gL58_2) ?_
        refine jr_ldv (pc_q := 64) (i := 72) (m := 12) (z := ((2 * p) + 1)) (y := m1) rfl (by decide) rfl (by decide) (by omega) (by omega) rfl (show A52 72 (((2 * p) + 1)).toNat = m1 from (congrFun (hF54.2 72 rfl) _).trans (e_m1)) ?_
        refine jx_ld (pc_q := 65) (l_q := jSto1 L58 3 (.int (i32 (m1)))) (st_q := []) rfl rfl ?_
        obtain ⟨L59, eL59⟩ : ∃ q, q = jSto1 L58 3 (.int (i32 (m1))) := ⟨_, rfl⟩
        rw [← eL59]
        have gL59_0 : jGet L59 0 = some (.ref 66) := eL59 ▸ jg_ne (by decide) gL58_0 rfl
        have gL59_1 : jGet L59 1 = some (.int (i32 (p))) := eL59 ▸ jg_ne (by decide) gL58_1 rfl
        have gL59_2 : jGet L59 2 = some (.int (i32 (((2 * p) + 1)))) := eL59 ▸ jg_ne (by decide) gL58_2 rfl
        have gL59_3 : jGet L59 3 = some (.int (i32 (m1))) := eL59 ▸ jg_eq
        exact c_yield0_at_65 (X := X) (d := d) (c0 := c0) (c1 := c1) (G := G) (A := A) (T := T) (p := p) (rn0 := rn0) (m0 := m0) (m1 := m1) (hd := hd) (hW := hW) (e_rn0 := e_rn0) (e_m0 := e_m0) (e_m1 := e_m1) (h_p := h_p) (p_0 := p_0) (p_1 := p_1) (p_2 := p_2) (p_3 := p_3) (p_4 := p_4) (p_5 := p_5) (p_6 := p_6) _ L59 G51 A52 (((2 * p) + 1)) (m1) (m1) (rn0) (A 60 (p).toNat) (A 61 (p).toNat) (A 62 (p).toNat) (A 65 (p).toNat) rfl gL59_0 gL59_1 gL59_2 gL59_3 hW53 hF57 ((congrFun (hF54.2 72 rfl) _).trans (e_m1)) ((congrFun (hF54.2 66 rfl) _).trans (e_rn0)) ((congrFun (hF54.2 60 rfl) _)) ((congrFun (hF54.2 61 rfl) _)) ((congrFun (hF54.2 62 rfl) _)) ((congrFun (hF54.2 65 rfl) _)) (by omega) (by omega) (by omega) (by omega) (by omega) (by omega) (by omega) (by omega) (by omega) (by omega) (((show _ = svM A p from p55).trans (sdM_0 (by omega))))
      · have _q := h48
        refine jx_rt (v := none) rfl rfl rfl rfl rfl rfl ?_
        exact ⟨_, _, rfl, rfl, hW, hF0, (.inl ⟨by omega, rfl⟩), trivial⟩
