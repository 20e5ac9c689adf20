theorem shr_1 {x : Int} (h0 : -2147483648 ≤ x) (h1 : x ≤ 2147483647) : (i32 x >>> (i32 1 &&& 31)).toInt = x / 2 := by
  have e : (i32 x >>> (i32 1 &&& 31)).toInt = ((i32 x).toBitVec.sshiftRight 1).toInt := rfl
  rw [e, BitVec.toInt_sshiftRight, Int.shiftRight_eq_div_pow]
  have e2 : (i32 x).toBitVec.toInt = x := i32_to h0 h1
  rw [e2]
  rfl
/-- a row of ready processes moved up, the first i -/
def shM (B : Nat → Nat → Int) (q i : Int) : Nat → Nat → Int := fun k n => if k = 71 ∧ 1100 * q ≤ (n : Int) ∧ (n : Int) < 1100 * q + i then B 71 (n + 1) else B k n
theorem shM_0 {B : Nat → Nat → Int} {q i : Int} (h : i ≤ 0) : B = shM B q i := funext (fun k => funext (fun n => (if_neg (by omega)).symm))
theorem shM_nx {A A_q B : Nat → Nat → Int} {q i i_q z y : Int} (e0 : A = shM B q i) (e : A_q = uA A 71 z.toNat y) (hz : z = 1100 * q + i) (hq : 0 ≤ q) (hi : 0 ≤ i) (hi_q : i_q = i + 1) (hy : y = A 71 (1100 * q + i + 1).toNat) : A_q = shM B q i_q := by
  subst e0 hz hi_q hy
  rw [e]
  funext k n
  unfold uA shM
  by_cases h1 : k = 71
  · subst h1
    by_cases h2 : n = (1100 * q + i).toNat
    · subst h2
      rw [if_pos ⟨rfl, rfl⟩, if_neg (by omega), if_pos ⟨rfl, by omega, by omega⟩, show (1100 * q + i + 1).toNat = (1100 * q + i).toNat + 1 by omega]
    · rw [if_neg (fun w => h2 w.2)]
      by_cases h3 : 1100 * q ≤ (n : Int) ∧ (n : Int) < 1100 * q + i
      · rw [if_pos ⟨rfl, h3⟩, if_pos ⟨rfl, by omega, by omega⟩]
      · rw [if_neg (fun w => h3 w.2), if_neg (fun w => h3 ⟨w.2.1, by omega⟩)]
  · rw [if_neg (fun w => h1 w.1), if_neg (fun w => h1 w.1), if_neg (fun w => h1 w.1)]
theorem shM_k {A B : Nat → Nat → Int} {q i : Int} {k : Nat} (e : A = shM B q i) (h : k ≠ 71) : A k = B k := by
  rw [e]
  exact funext (fun n => if_neg (fun w => h w.1))
/-- the registers are cleared -/
def clM (A : Nat → Nat → Int) (p : Int) : Nat → Nat → Int := uA (uA (uA (uA (uA A 60 p.toNat 0) 61 p.toNat 0) 62 p.toNat 0) 65 p.toNat 0) 70 p.toNat 0
/-- the first of the row q is taken out (its count one less) -/
def tkM (A : Nat → Nat → Int) (p q : Int) : Nat → Nat → Int := uA (uA (clM A p) 66 p.toNat (A 71 (1100 * q).toNat)) 72 q.toNat (A 72 q.toNat - 1)
/-- it runs: its frame, the place kept below it -/
def gtM (C : Nat → Nat → Int) (p : Int) : Nat → Nat → Int := uA (uA C 64 p.toNat (i32 (C 66 p.toNat) >>> (i32 1 &&& 31)).toInt) 63 p.toNat (ldM (uA C 64 p.toNat (i32 (C 66 p.toNat) >>> (i32 1 &&& 31)).toInt) p ((i32 (C 66 p.toNat) >>> (i32 1 &&& 31)).toInt - 1))
/-- the kept registers come back -/
def kpM (D : Nat → Nat → Int) (p : Int) : Nat → Nat → Int := uA (uA (uA (uA (uA D 73 p.toNat 0) 60 p.toNat (D 74 p.toNat)) 61 p.toNat (D 75 p.toNat)) 62 p.toNat (D 76 p.toNat)) 65 p.toNat (D 77 p.toNat)
def noM (A : Nat → Nat → Int) (p : Int) : Nat → Nat → Int := uA (uA (uA (clM A p) 66 p.toNat (-1)) 63 p.toNat 0) 64 p.toNat 0
def rdQ (A : Nat → Nat → Int) (p q : Int) : Prop := (0 < A 72 (2 * p).toNat ∧ q = 2 * p) ∨ (A 72 (2 * p).toNat ≤ 0 ∧ A 72 (2 * p + 1).toNat ≠ 0 ∧ q = 2 * p + 1)
/-- what dispatch makes -/
def dispR (A A_q : Nat → Nat → Int) (p : Int) : Prop := (A 72 (2 * p).toNat ≤ 0 ∧ A 72 (2 * p + 1).toNat = 0 ∧ A_q = noM A p) ∨ ∃ q i : Int, rdQ A p q ∧ i = A 72 q.toNat - 1 ∧ ((¬ (q = 2 * p + 1 ∧ A 73 p.toNat ≠ 0) ∧ A_q = gtM (shM (tkM A p q) q i) p) ∨ (q = 2 * p + 1 ∧ A 73 p.toNat ≠ 0 ∧ A_q = kpM (gtM (shM (tkM A p q) q i) p) p))
theorem tk_73 {A : Nat → Nat → Int} {p q i : Int} : shM (tkM A p q) q i 73 = A 73 := (shM_k rfl (by decide)).trans (by
  unfold tkM clM
  rw [uA_ne (by decide), uA_ne (by decide), uA_ne (by decide), uA_ne (by decide), uA_ne (by decide), uA_ne (by decide), uA_ne (by decide)])
theorem tk_72 {A : Nat → Nat → Int} {p q i : Int} : shM (tkM A p q) q i 72 q.toNat = A 72 q.toNat - 1 := (congrFun (shM_k rfl (by decide)) _).trans uA_eq
theorem gt_eq {Ax A1 A2 : Nat → Nat → Int} {p w r x : Int} (e1 : A1 = uA Ax 64 p.toNat w) (e2 : A2 = uA A1 63 p.toNat r) (hr : r = ldM A1 p (w - 1)) (hw : w = (i32 x >>> (i32 1 &&& 31)).toInt) (hx : Ax 66 p.toNat = x) : A2 = gtM Ax p := by
  rw [e2, hr, e1, hw, ← hx]
  rfl
theorem kp_eq {A D A3 A4 A5 A6 A7 : Nat → Nat → Int} {p : Int} (h74 : D 74 = A 74) (h75 : D 75 = A 75) (h76 : D 76 = A 76) (h77 : D 77 = A 77) (e3 : A3 = uA D 73 p.toNat 0) (e4 : A4 = uA A3 60 p.toNat (A 74 p.toNat)) (e5 : A5 = uA A4 61 p.toNat (A 75 p.toNat)) (e6 : A6 = uA A5 62 p.toNat (A 76 p.toNat)) (e7 : A7 = uA A6 65 p.toNat (A 77 p.toNat)) : A7 = kpM D p := by
  unfold kpM
  rw [h74, h75, h76, h77, e7, e6, e5, e4, e3]
theorem dp_n {A B Ax A2 : Nat → Nat → Int} {p q i : Int} (hA : Ax = shM B q i) (hB : B = tkM A p q) (g : A2 = gtM Ax p) : A2 = gtM (shM (tkM A p q) q i) p := by
  rw [g, hA, hB]

set_option maxRecDepth 20000 in
set_option maxHeartbeats 4000000 in
theorem c_dispatch_at_117 {X : jX} {d : Nat} {c0 c1 : jC} {G : Nat → Int} {A : Nat → Nat → Int} {T : jH} {p : Int} {m0 m1 : Int} (hd : 3 ≤ d + 1) (hW : Wk G A) (e_m0 : A 72 ((2 * p)).toNat = m0) (e_m1 : A 72 (((2 * p) + 1)).toNat = m1) (h_p : (-2147483648 : Int) ≤ p ∧ p ≤ 2147483647) (p_0 : 0 ≤ p) (p_1 : p ≤ 5) (p_2 : 0 ≤ m0) (p_3 : m0 ≤ 1100) (p_4 : 0 ≤ m1) (p_5 : m1 ≤ 1100) : ∀ (m : Nat) (L : jL) (Gx : Nat → Int) (Ax : Nat → Nat → Int) (qr i mq rn : Int) (B : Nat → Nat → Int), (mq - i).toNat = m → jGet L 0 = some (.ref 66) → jGet L 1 = some (.int (i32 (p))) → jGet L 2 = some (.int (i32 qr)) → jGet L 3 = some (.int (i32 i)) → Wk Gx Ax → Fr [] [60, 61, 62, 63, 64, 65, 66, 70, 71, 72, 73] G A Gx Ax → Ax 72 (qr).toNat = mq → Ax 66 (p).toNat = rn → ((-2147483648 : Int) ≤ qr ∧ qr ≤ 2147483647) → ((-2147483648 : Int) ≤ i ∧ i ≤ 2147483647) → ((1 ≤ m0 ∧ qr = 2 * p) ∨ (m0 = 0 ∧ 1 ≤ m1 ∧ qr = 2 * p + 1)) → (0 ≤ i) → (i ≤ mq) → (0 ≤ mq) → (mq ≤ 1099) → (Ax = shM B (qr) (i)) → (B = tkM A p (qr)) → wj X d jm372 (117, L, [], rV c0 c1 Gx Ax T) (fun o V_q => ∃ (G_q : Nat → Int) (A_q : Nat → Nat → Int), V_q = rV c0 c1 G_q A_q T ∧ o = .inl none ∧ Wk G_q A_q ∧ Fr [] [60, 61, 62, 63, 64, 65, 66, 70, 71, 72, 73] G A G_q A_q ∧ (dispR A A_q (p)) ∧ True) := by
  have hF0 : Fr [] [60, 61, 62, 63, 64, 65, 66, 70, 71, 72, 73] G A G A := Fr_rf
  have b_m0 : (-2147483648 : Int) ≤ m0 ∧ m0 ≤ 2147483647 := e_m0 ▸ hW.2 72 _
  have b_m1 : (-2147483648 : Int) ≤ m1 ∧ m1 ≤ 2147483647 := e_m1 ▸ hW.2 72 _
  intro m
  induction m using Nat.strongRecOn with
  | ind m ih117 =>
    intro L Gx Ax qr i mq rn B hm gL_0 gL_1 gL_2 gL_3 hWx hFx ex_mq ex_rn rx_qr rx_i iv_0 iv_1 iv_2 iv_3 iv_4 iv_5 iv_6
    have b_mq : (-2147483648 : Int) ≤ mq ∧ mq ≤ 2147483647 := ex_mq ▸ hWx.2 72 _
    have b_rn : (-2147483648 : Int) ≤ rn ∧ rn ≤ 2147483647 := ex_rn ▸ hWx.2 66 _
    have h73 : Ax 73 = A 73 := (by rw [iv_5, iv_6]; exact tk_73); have h73p : Ax 73 (p).toNat = A 73 (p).toNat := congrFun h73 _; have h72 : mq = A 72 (qr).toNat - 1 := (by rw [← ex_mq, iv_5, iv_6]; exact tk_72); have hrd : rdQ A p qr := (by unfold rdQ; rw [show A 72 (2 * p).toNat = m0 from e_m0, show A 72 (2 * p + 1).toNat = m1 from e_m1]; omega)
    refine jx_ld (pc_q := 118) (l_q := L) (st_q := [.int (i32 (i))]) rfl (jl_iloadn gL_3) ?_
    refine jx_ld (pc_q := 119) (l_q := L) (st_q := [.ref 66, .int (i32 (i))]) rfl (jl_aloadn gL_0) ?_
    refine jr_get (pc_q := 122) (i := 103) (v := .ref 139) rfl rfl (by decide) rfl rfl ?_
    refine jx_ld (pc_q := 123) (l_q := L) (st_q := [.int (i32 (qr)), .ref 139, .int (i32 (i))]) rfl (jl_iloadn gL_2) ?_
    refine jr_ldv (pc_q := 124) (i := 72) (m := 12) (z := qr) (y := mq) rfl (by decide) rfl (by decide) (by omega) (by omega) rfl (show Ax 72 (qr).toNat = mq from (ex_mq)) ?_
    refine jx_icmp_ge (pc_q := 127) (tg := 159) rfl rfl rfl (Int.le_trans (by decide : (-2147483648 : Int) ≤ -2147483648) rx_i.1) (Int.le_trans rx_i.2 (by decide : (2147483647 : Int) ≤ 2147483647)) (Int.le_trans (by decide : (-2147483648 : Int) ≤ -2147483648) b_mq.1) (Int.le_trans b_mq.2 (by decide : (2147483647 : Int) ≤ 2147483647)) (fun h1 => ?_) (fun h1 => ?_)
    · have _q := h1
      refine jx_ld (pc_q := 160) (l_q := L) (st_q := [.ref 66]) rfl (jl_aloadn gL_0) ?_
      refine jr_get (pc_q := 163) (i := 95) (v := .ref 131) rfl rfl (by decide) rfl rfl ?_
      refine jx_ld (pc_q := 164) (l_q := L) (st_q := [.int (i32 (p)), .ref 131]) rfl (jl_iloadn gL_1) ?_
      refine jx_ld (pc_q := 165) (l_q := L) (st_q := [.ref 66, .int (i32 (p)), .ref 131]) rfl (jl_aloadn gL_0) ?_
      refine jr_get (pc_q := 168) (i := 97) (v := .ref 133) rfl rfl (by decide) rfl rfl ?_
      refine jx_ld (pc_q := 169) (l_q := L) (st_q := [.int (i32 (p)), .ref 133, .int (i32 (p)), .ref 131]) rfl (jl_iloadn gL_1) ?_
      refine jr_ldv (pc_q := 170) (i := 66) (m := 6) (z := p) (y := rn) rfl (by decide) rfl (by decide) (by omega) (by omega) rfl (show Ax 66 (p).toNat = rn from (ex_rn)) ?_
      refine jx_ar (pc_q := 171) (st_q := [.int (i32 (1)), .int (i32 (rn)), .int (i32 (p)), .ref 131]) rfl rfl rfl rfl ?_
      refine jx_shr (pc_q := 172) rfl rfl ?_
      obtain ⟨b2, eb2⟩ : ∃ z, z = (i32 (rn) >>> (i32 (1) &&& 31)).toInt := ⟨_, rfl⟩
      rw [← eb2]
      have rb2 : (-2147483648 : Int) ≤ b2 ∧ b2 ≤ 2147483647 := eb2 ▸ i32_rg _
      have hb2 := (show b2 = (i32 rn >>> (i32 1 &&& 31)).toInt from eb2).trans (shr_1 (by omega) (by omega))
      refine jr_st (pc_q := 173) (i := 64) (m := 6) (z := p) (y := b2) rfl (by decide) rfl (by decide) (by omega) (by omega) rfl ?_
      have hW4 : Wk Gx (uA Ax 64 (p).toNat (b2)) := Wk_a hWx (show (-2147483648 : Int) ≤ b2 by omega) (show b2 ≤ (2147483647 : Int) by omega)
      have hF5 := Fr_a (z := b2) (k := 64) (n := (p).toNat) hFx (by decide)
      obtain ⟨A3, eA3⟩ : ∃ q, q = uA Ax 64 (p).toNat (b2) := ⟨_, rfl⟩
      rw [← eA3]
      rw [← eA3] at hW4 hF5
      have q6 : A3 64 (p).toNat = b2 := by rw [eA3]; exact uA_eq
      refine jx_ld (pc_q := 174) (l_q := L) (st_q := [.ref 66]) rfl (jl_aloadn gL_0) ?_
      refine jr_get (pc_q := 177) (i := 94) (v := .ref 130) rfl rfl (by decide) rfl rfl ?_
      refine jx_ld (pc_q := 178) (l_q := L) (st_q := [.int (i32 (p)), .ref 130]) rfl (jl_iloadn gL_1) ?_
      refine jx_ld (pc_q := 179) (l_q := L) (st_q := [.ref 66, .int (i32 (p)), .ref 130]) rfl (jl_aloadn gL_0) ?_
      refine jx_ld (pc_q := 180) (l_q := L) (st_q := [.int (i32 (p)), .ref 66, .int (i32 (p)), .ref 130]) rfl (jl_iloadn gL_1) ?_
      refine jx_ld (pc_q := 181) (l_q := L) (st_q := [.ref 66, .int (i32 (p)), .ref 66, .int (i32 (p)), .ref 130]) rfl (jl_aloadn gL_0) ?_
      refine jr_get (pc_q := 184) (i := 95) (v := .ref 131) rfl rfl (by decide) rfl rfl ?_
      refine jx_ld (pc_q := 185) (l_q := L) (st_q := [.int (i32 (p)), .ref 131, .int (i32 (p)), .ref 66, .int (i32 (p)), .ref 130]) rfl (jl_iloadn gL_1) ?_
      refine jr_ldv (pc_q := 186) (i := 64) (m := 6) (z := p) (y := b2) rfl (by decide) rfl (by decide) (by omega) (by omega) rfl (show A3 64 (p).toNat = b2 from (q6)) ?_
      refine jx_ar (pc_q := 187) (st_q := [.int (i32 (1)), .int (i32 (b2)), .int (i32 (p)), .ref 66, .int (i32 (p)), .ref 130]) rfl rfl rfl rfl ?_
      refine jx_sub (pc_q := 188) rfl rfl ?_
      refine jx_vr (pc_q := 191) (as := [.int (i32 (p)), .int (i32 ((b2 - 1)))]) (st := [.int (i32 (p)), .ref 130]) rfl rfl rfl rfl ⟨rfl, rfl, Nat.le_of_ble_eq_true rfl⟩ rfl rfl (c_load (dd := d) (hd := by omega) (hW := hW4) (p := p) (a := (b2 - 1))   (h_p := ⟨(Int.le_trans (by decide : (-2147483648 : Int) ≤ -2147483648) h_p.1), (Int.le_trans h_p.2 (by decide : (2147483647 : Int) ≤ 2147483647))⟩) (h_a := ⟨(by omega), (by omega)⟩)  (p_0 := by omega) (p_1 := by omega)) (fun o V_q hq => ?_)
      obtain ⟨r7, rfl, rfl, b8, p9, -⟩ := hq
      refine .inr ⟨_, rfl, ?_⟩
      refine jr_st (pc_q := 192) (i := 63) (m := 6) (z := p) (y := r7) rfl (by decide) rfl (by decide) (by omega) (by omega) rfl ?_
      have hW12 : Wk Gx (uA A3 63 (p).toNat (r7)) := Wk_a hW4 (show (-2147483648 : Int) ≤ r7 by omega) (show r7 ≤ (2147483647 : Int) by omega)
      have hF13 := Fr_a (z := r7) (k := 63) (n := (p).toNat) hF5 (by decide)
      obtain ⟨A11, eA11⟩ : ∃ q, q = uA A3 63 (p).toNat (r7) := ⟨_, rfl⟩
      rw [← eA11]
      rw [← eA11] at hW12 hF13
      have q14 : A11 63 (p).toNat = r7 := by rw [eA11]; exact uA_eq
      refine jx_ld (pc_q := 193) (l_q := L) (st_q := [.int (i32 (qr))]) rfl (jl_iloadn gL_2) ?_
      refine jx_ar (pc_q := 194) (st_q := [.int (i32 (2)), .int (i32 (qr))]) rfl rfl rfl rfl ?_
      refine jx_ld (pc_q := 195) (l_q := L) (st_q := [.int (i32 (p)), .int (i32 (2)), .int (i32 (qr))]) rfl (jl_iloadn gL_1) ?_
      refine jx_mul (pc_q := 196) rfl rfl ?_
      refine jx_ar (pc_q := 197) (st_q := [.int (i32 (1)), .int (i32 ((2 * p))), .int (i32 (qr))]) rfl rfl rfl rfl ?_
      refine jx_add (pc_q := 198) rfl rfl ?_
      refine jx_icmp_ne (pc_q := 201) (tg := 265) rfl rfl rfl (Int.le_trans (by decide : (-2147483648 : Int) ≤ -2147483648) rx_qr.1) (Int.le_trans rx_qr.2 (by decide : (2147483647 : Int) ≤ 2147483647)) (by omega) (by omega) (fun h15 => ?_) (fun h15 => ?_)
      · have _q := h15
        refine jx_rt (v := none) rfl rfl rfl rfl rfl rfl ?_
        exact ⟨_, _, rfl, rfl, hW12, hF13, (.inr ⟨qr, i, hrd, by omega, .inl ⟨by omega, (dp_n iv_5 iv_6 (gt_eq eA3 eA11 p9 eb2 ex_rn))⟩⟩), trivial⟩
      · have _q := h15
        refine jx_ld (pc_q := 202) (l_q := L) (st_q := [.ref 66]) rfl (jl_aloadn gL_0) ?_
        refine jr_get (pc_q := 205) (i := 104) (v := .ref 140) rfl rfl (by decide) rfl rfl ?_
        refine jx_ld (pc_q := 206) (l_q := L) (st_q := [.int (i32 (p)), .ref 140]) rfl (jl_iloadn gL_1) ?_
        have b16 : (0 : Int) ≤ Ax 73 (p).toNat ∧ Ax 73 (p).toNat ≤ 1 := hWx.2 73 _
        refine jr_lbv (pc_q := 207) (i := 73) (m := 6) (z := p) (y := Ax 73 (p).toNat) rfl (by decide) rfl (by decide) (by omega) (by omega) rfl (show A11 73 (p).toNat = Ax 73 (p).toNat from (congrFun (((congrFun eA11 73).trans (uA_ne (by decide))).trans ((congrFun eA3 73).trans (uA_ne (by decide)))) _)) ?_
        refine jx_if_eq (pc_q := 210) (tg := 265) rfl rfl rfl (Int.le_trans (by decide : (-2147483648 : Int) ≤ 0) b16.1) (Int.le_trans b16.2 (by decide : (1 : Int) ≤ 2147483647)) (fun h17 => ?_) (fun h17 => ?_)
        · have _q := h17
          refine jx_rt (v := none) rfl rfl rfl rfl rfl rfl ?_
          exact ⟨_, _, rfl, rfl, hW12, hF13, (.inr ⟨qr, i, hrd, by omega, .inl ⟨by omega, (dp_n iv_5 iv_6 (gt_eq eA3 eA11 p9 eb2 ex_rn))⟩⟩), trivial⟩
        · have _q := h17
          have _q : True := trivial
          refine jx_ld (pc_q := 211) (l_q := L) (st_q := [.ref 66]) rfl (jl_aloadn gL_0) ?_
          refine jr_get (pc_q := 214) (i := 104) (v := .ref 140) rfl rfl (by decide) rfl rfl ?_
          refine jx_ld (pc_q := 215) (l_q := L) (st_q := [.int (i32 (p)), .ref 140]) rfl (jl_iloadn gL_1) ?_
          refine jx_ar (pc_q := 216) (st_q := [.int (i32 (0)), .int (i32 (p)), .ref 140]) rfl rfl rfl rfl ?_
          refine jr_sb (pc_q := 217) (i := 73) (m := 6) (z := p) (y := 0) rfl (by decide) rfl (by decide) (by omega) (by omega) (by omega) rfl ?_
          have hW19 : Wk Gx (uA A11 73 (p).toNat (0)) := Wk_a hW12 (show (0 : Int) ≤ 0 by omega) (show 0 ≤ (1 : Int) by omega)
          have hF20 := Fr_a (z := 0) (k := 73) (n := (p).toNat) hF13 (by decide)
          obtain ⟨A18, eA18⟩ : ∃ q, q = uA A11 73 (p).toNat (0) := ⟨_, rfl⟩
          rw [← eA18]
          rw [← eA18] at hW19 hF20
          have q21 : A18 73 (p).toNat = 0 := by rw [eA18]; exact uA_eq
          refine jx_ld (pc_q := 218) (l_q := L) (st_q := [.ref 66]) rfl (jl_aloadn gL_0) ?_
          refine jr_get (pc_q := 221) (i := 91) (v := .ref 127) rfl rfl (by decide) rfl rfl ?_
          refine jx_ld (pc_q := 222) (l_q := L) (st_q := [.int (i32 (p)), .ref 127]) rfl (jl_iloadn gL_1) ?_
          refine jx_ld (pc_q := 223) (l_q := L) (st_q := [.ref 66, .int (i32 (p)), .ref 127]) rfl (jl_aloadn gL_0) ?_
          refine jr_get (pc_q := 226) (i := 105) (v := .ref 141) rfl rfl (by decide) rfl rfl ?_
          refine jx_ld (pc_q := 227) (l_q := L) (st_q := [.int (i32 (p)), .ref 141, .int (i32 (p)), .ref 127]) rfl (jl_iloadn gL_1) ?_
          have b22 : (-2147483648 : Int) ≤ A 74 (p).toNat ∧ A 74 (p).toNat ≤ 2147483647 := hW.2 74 _
          refine jr_ldv (pc_q := 228) (i := 74) (m := 6) (z := p) (y := A 74 (p).toNat) rfl (by decide) rfl (by decide) (by omega) (by omega) rfl (show A18 74 (p).toNat = A 74 (p).toNat from (congrFun (((congrFun eA18 74).trans (uA_ne (by decide))).trans (((congrFun eA11 74).trans (uA_ne (by decide))).trans (((congrFun eA3 74).trans (uA_ne (by decide))).trans (hFx.2 74 rfl)))) _)) ?_
          refine jr_st (pc_q := 229) (i := 60) (m := 6) (z := p) (y := A 74 (p).toNat) rfl (by decide) rfl (by decide) (by omega) (by omega) rfl ?_
          have hW24 : Wk Gx (uA A18 60 (p).toNat (A 74 (p).toNat)) := Wk_a hW19 (show (-2147483648 : Int) ≤ A 74 (p).toNat by omega) (show A 74 (p).toNat ≤ (2147483647 : Int) by omega)
          have hF25 := Fr_a (z := A 74 (p).toNat) (k := 60) (n := (p).toNat) hF20 (by decide)
          obtain ⟨A23, eA23⟩ : ∃ q, q = uA A18 60 (p).toNat (A 74 (p).toNat) := ⟨_, rfl⟩
          rw [← eA23]
          rw [← eA23] at hW24 hF25
          have q26 : A23 60 (p).toNat = A 74 (p).toNat := by rw [eA23]; exact uA_eq
          refine jx_ld (pc_q := 230) (l_q := L) (st_q := [.ref 66]) rfl (jl_aloadn gL_0) ?_
          refine jr_get (pc_q := 233) (i := 92) (v := .ref 128) rfl rfl (by decide) rfl rfl ?_
          refine jx_ld (pc_q := 234) (l_q := L) (st_q := [.int (i32 (p)), .ref 128]) rfl (jl_iloadn gL_1) ?_
          refine jx_ld (pc_q := 235) (l_q := L) (st_q := [.ref 66, .int (i32 (p)), .ref 128]) rfl (jl_aloadn gL_0) ?_
          refine jr_get (pc_q := 238) (i := 106) (v := .ref 142) rfl rfl (by decide) rfl rfl ?_
          refine jx_ld (pc_q := 239) (l_q := L) (st_q := [.int (i32 (p)), .ref 142, .int (i32 (p)), .ref 128]) rfl (jl_iloadn gL_1) ?_
          have b27 : (-2147483648 : Int) ≤ A 75 (p).toNat ∧ A 75 (p).toNat ≤ 2147483647 := hW.2 75 _
          refine jr_ldv (pc_q := 240) (i := 75) (m := 6) (z := p) (y := A 75 (p).toNat) rfl (by decide) rfl (by decide) (by omega) (by omega) rfl (show A23 75 (p).toNat = A 75 (p).toNat from (congrFun (((congrFun eA23 75).trans (uA_ne (by decide))).trans (((congrFun eA18 75).trans (uA_ne (by decide))).trans (((congrFun eA11 75).trans (uA_ne (by decide))).trans (((congrFun eA3 75).trans (uA_ne (by decide))).trans (hFx.2 75 rfl))))) _)) ?_
          refine jr_st (pc_q := 241) (i := 61) (m := 6) (z := p) (y := A 75 (p).toNat) rfl (by decide) rfl (by decide) (by omega) (by omega) rfl ?_
          have hW29 : Wk Gx (uA A23 61 (p).toNat (A 75 (p).toNat)) := Wk_a hW24 (show (-2147483648 : Int) ≤ A 75 (p).toNat by omega) (show A 75 (p).toNat ≤ (2147483647 : Int) by omega)
          have hF30 := Fr_a (z := A 75 (p).toNat) (k := 61) (n := (p).toNat) hF25 (by decide)
          obtain ⟨A28, eA28⟩ : ∃ q, q = uA A23 61 (p).toNat (A 75 (p).toNat) := ⟨_, rfl⟩
          rw [← eA28]
          rw [← eA28] at hW29 hF30
          have q31 : A28 61 (p).toNat = A 75 (p).toNat := by rw [eA28]; exact uA_eq
          refine jx_ld (pc_q := 242) (l_q := L) (st_q := [.ref 66]) rfl (jl_aloadn gL_0) ?_
          refine jr_get (pc_q := 245) (i := 93) (v := .ref 129) rfl rfl (by decide) rfl rfl ?_
          refine jx_ld (pc_q := 246) (l_q := L) (st_q := [.int (i32 (p)), .ref 129]) rfl (jl_iloadn gL_1) ?_
          refine jx_ld (pc_q := 247) (l_q := L) (st_q := [.ref 66, .int (i32 (p)), .ref 129]) rfl (jl_aloadn gL_0) ?_
          refine jr_get (pc_q := 250) (i := 107) (v := .ref 143) rfl rfl (by decide) rfl rfl ?_
          refine jx_ld (pc_q := 251) (l_q := L) (st_q := [.int (i32 (p)), .ref 143, .int (i32 (p)), .ref 129]) rfl (jl_iloadn gL_1) ?_
          have b32 : (-2147483648 : Int) ≤ A 76 (p).toNat ∧ A 76 (p).toNat ≤ 2147483647 := hW.2 76 _
          refine jr_ldv (pc_q := 252) (i := 76) (m := 6) (z := p) (y := A 76 (p).toNat) rfl (by decide) rfl (by decide) (by omega) (by omega) rfl (show A28 76 (p).toNat = A 76 (p).toNat from (congrFun (((congrFun eA28 76).trans (uA_ne (by decide))).trans (((congrFun eA23 76).trans (uA_ne (by decide))).trans (((congrFun eA18 76).trans (uA_ne (by decide))).trans (((congrFun eA11 76).trans (uA_ne (by decide))).trans (((congrFun eA3 76).trans (uA_ne (by decide))).trans (hFx.2 76 rfl)))))) _)) ?_
          refine jr_st (pc_q := 253) (i := 62) (m := 6) (z := p) (y := A 76 (p).toNat) rfl (by decide) rfl (by decide) (by omega) (by omega) rfl ?_
          have hW34 : Wk Gx (uA A28 62 (p).toNat (A 76 (p).toNat)) := Wk_a hW29 (show (-2147483648 : Int) ≤ A 76 (p).toNat by omega) (show A 76 (p).toNat ≤ (2147483647 : Int) by omega)
          have hF35 := Fr_a (z := A 76 (p).toNat) (k := 62) (n := (p).toNat) hF30 (by decide)
          obtain ⟨A33, eA33⟩ : ∃ q, q = uA A28 62 (p).toNat (A 76 (p).toNat) := ⟨_, rfl⟩
          rw [← eA33]
          rw [← eA33] at hW34 hF35
          have q36 : A33 62 (p).toNat = A 76 (p).toNat := by rw [eA33]; exact uA_eq
          refine jx_ld (pc_q := 254) (l_q := L) (st_q := [.ref 66]) rfl (jl_aloadn gL_0) ?_
          refine jr_get (pc_q := 257) (i := 96) (v := .ref 132) rfl rfl (by decide) rfl rfl ?_
          refine jx_ld (pc_q := 258) (l_q := L) (st_q := [.int (i32 (p)), .ref 132]) rfl (jl_iloadn gL_1) ?_
          refine jx_ld (pc_q := 259) (l_q := L) (st_q := [.ref 66, .int (i32 (p)), .ref 132]) rfl (jl_aloadn gL_0) ?_
          refine jr_get (pc_q := 262) (i := 108) (v := .ref 144) rfl rfl (by decide) rfl rfl ?_
          refine jx_ld (pc_q := 263) (l_q := L) (st_q := [.int (i32 (p)), .ref 144, .int (i32 (p)), .ref 132]) rfl (jl_iloadn gL_1) ?_
          have b37 : (-2147483648 : Int) ≤ A 77 (p).toNat ∧ A 77 (p).toNat ≤ 2147483647 := hW.2 77 _
          refine jr_ldv (pc_q := 264) (i := 77) (m := 6) (z := p) (y := A 77 (p).toNat) rfl (by decide) rfl (by decide) (by omega) (by omega) rfl (show A33 77 (p).toNat = A 77 (p).toNat from (congrFun (((congrFun eA33 77).trans (uA_ne (by decide))).trans (((congrFun eA28 77).trans (uA_ne (by decide))).trans (((congrFun eA23 77).trans (uA_ne (by decide))).trans (((congrFun eA18 77).trans (uA_ne (by decide))).trans (((congrFun eA11 77).trans (uA_ne (by decide))).trans (((congrFun eA3 77).trans (uA_ne (by decide))).trans (hFx.2 77 rfl))))))) _)) ?_
          refine jr_st (pc_q := 265) (i := 65) (m := 6) (z := p) (y := A 77 (p).toNat) rfl (by decide) rfl (by decide) (by omega) (by omega) rfl ?_
          have hW39 : Wk Gx (uA A33 65 (p).toNat (A 77 (p).toNat)) := Wk_a hW34 (show (-2147483648 : Int) ≤ A 77 (p).toNat by omega) (show A 77 (p).toNat ≤ (2147483647 : Int) by omega)
          have hF40 := Fr_a (z := A 77 (p).toNat) (k := 65) (n := (p).toNat) hF35 (by decide)
          obtain ⟨A38, eA38⟩ : ∃ q, q = uA A33 65 (p).toNat (A 77 (p).toNat) := ⟨_, rfl⟩
          rw [← eA38]
          rw [← eA38] at hW39 hF40
          have q41 : A38 65 (p).toNat = A 77 (p).toNat := by rw [eA38]; exact uA_eq
          refine jx_rt (v := none) rfl rfl rfl rfl rfl rfl ?_
          exact ⟨_, _, rfl, rfl, hW39, hF40, (.inr ⟨qr, i, hrd, by omega, .inr ⟨by omega, by omega, (kp_eq (hF13.2 74 rfl) (hF13.2 75 rfl) (hF13.2 76 rfl) (hF13.2 77 rfl) eA18 eA23 eA28 eA33 eA38).trans (by rw [show A11 = _ from (dp_n iv_5 iv_6 (gt_eq eA3 eA11 p9 eb2 ex_rn))])⟩⟩), trivial⟩
    · have _q := h1
      refine jx_ld (pc_q := 128) (l_q := L) (st_q := [.ref 66]) rfl (jl_aloadn gL_0) ?_
      refine jr_get (pc_q := 131) (i := 102) (v := .ref 138) rfl rfl (by decide) rfl rfl ?_
      refine jx_ar (pc_q := 134) (st_q := [.int (i32 (1100)), .ref 138]) rfl rfl rfl rfl ?_
      refine jx_ld (pc_q := 135) (l_q := L) (st_q := [.int (i32 (qr)), .int (i32 (1100)), .ref 138]) rfl (jl_iloadn gL_2) ?_
      refine jx_mul (pc_q := 136) rfl rfl ?_
      refine jx_ld (pc_q := 137) (l_q := L) (st_q := [.int (i32 (i)), .int (i32 ((1100 * qr))), .ref 138]) rfl (jl_iloadn gL_3) ?_
      refine jx_add (pc_q := 138) rfl rfl ?_
      refine jx_ld (pc_q := 139) (l_q := L) (st_q := [.ref 66, .int (i32 (((1100 * qr) + i))), .ref 138]) rfl (jl_aloadn gL_0) ?_
      refine jr_get (pc_q := 142) (i := 102) (v := .ref 138) rfl rfl (by decide) rfl rfl ?_
      refine jx_ar (pc_q := 145) (st_q := [.int (i32 (1100)), .ref 138, .int (i32 (((1100 * qr) + i))), .ref 138]) rfl rfl rfl rfl ?_
      refine jx_ld (pc_q := 146) (l_q := L) (st_q := [.int (i32 (qr)), .int (i32 (1100)), .ref 138, .int (i32 (((1100 * qr) + i))), .ref 138]) rfl (jl_iloadn gL_2) ?_
      refine jx_mul (pc_q := 147) rfl rfl ?_
      refine jx_ld (pc_q := 148) (l_q := L) (st_q := [.int (i32 (i)), .int (i32 ((1100 * qr))), .ref 138, .int (i32 (((1100 * qr) + i))), .ref 138]) rfl (jl_iloadn gL_3) ?_
      refine jx_add (pc_q := 149) rfl rfl ?_
      refine jx_ar (pc_q := 150) (st_q := [.int (i32 (1)), .int (i32 (((1100 * qr) + i))), .ref 138, .int (i32 (((1100 * qr) + i))), .ref 138]) rfl rfl rfl rfl ?_
      refine jx_add (pc_q := 151) rfl rfl ?_
      have b42 : (-2147483648 : Int) ≤ Ax 71 ((((1100 * qr) + i) + 1)).toNat ∧ Ax 71 ((((1100 * qr) + i) + 1)).toNat ≤ 2147483647 := hWx.2 71 _
      refine jr_ldv (pc_q := 152) (i := 71) (m := 13200) (z := (((1100 * qr) + i) + 1)) (y := Ax 71 ((((1100 * qr) + i) + 1)).toNat) rfl (by decide) rfl (by decide) (by omega) (by omega) rfl (show Ax 71 ((((1100 * qr) + i) + 1)).toNat = Ax 71 ((((1100 * qr) + i) + 1)).toNat from rfl) ?_
      refine jr_st (pc_q := 153) (i := 71) (m := 13200) (z := ((1100 * qr) + i)) (y := Ax 71 ((((1100 * qr) + i) + 1)).toNat) rfl (by decide) rfl (by decide) (by omega) (by omega) rfl ?_
      have hW44 : Wk Gx (uA Ax 71 (((1100 * qr) + i)).toNat (Ax 71 ((((1100 * qr) + i) + 1)).toNat)) := Wk_a hWx (show (-2147483648 : Int) ≤ Ax 71 ((((1100 * qr) + i) + 1)).toNat by omega) (show Ax 71 ((((1100 * qr) + i) + 1)).toNat ≤ (2147483647 : Int) by omega)
      have hF45 := Fr_a (z := Ax 71 ((((1100 * qr) + i) + 1)).toNat) (k := 71) (n := (((1100 * qr) + i)).toNat) hFx (by decide)
      obtain ⟨A43, eA43⟩ : ∃ q, q = uA Ax 71 (((1100 * qr) + i)).toNat (Ax 71 ((((1100 * qr) + i) + 1)).toNat) := ⟨_, rfl⟩
      rw [← eA43]
      rw [← eA43] at hW44 hF45
      have q46 : A43 71 (((1100 * qr) + i)).toNat = Ax 71 ((((1100 * qr) + i) + 1)).toNat := by rw [eA43]; exact uA_eq
      refine jx_inc (pc_q := 156) (l_q := jSto1 L 3 (.int (i32 ((i + (1)))))) (x := i) rfl gL_3 (by decide) rfl rfl ?_
      obtain ⟨L47, eL47⟩ : ∃ q, q = jSto1 L 3 (.int (i32 ((i + (1))))) := ⟨_, rfl⟩
      rw [← eL47]
      have gL47_0 : jGet L47 0 = some (.ref 66) := eL47 ▸ jg_ne (by decide) gL_0 rfl
      have gL47_1 : jGet L47 1 = some (.int (i32 (p))) := eL47 ▸ jg_ne (by decide) gL_1 rfl
      have gL47_2 : jGet L47 2 = some (.int (i32 (qr))) := eL47 ▸ jg_ne (by decide) gL_2 rfl
      have gL47_3 : jGet L47 3 = some (.int (i32 ((i + (1))))) := eL47 ▸ jg_eq
      refine jx_go (tg := 117) rfl rfl ?_
      exact ih117 _ (by omega) L47 Gx A43 (qr) ((i + (1))) (mq) (rn) (B) rfl gL47_0 gL47_1 gL47_2 gL47_3 hW44 hF45 ((congrFun ((congrFun eA43 72).trans (uA_ne (by decide))) _).trans (ex_mq)) ((congrFun ((congrFun eA43 66).trans (uA_ne (by decide))) _).trans (ex_rn)) (by omega) (by omega) (by omega) (by omega) (by omega) (by omega) (by omega) ((shM_nx iv_5 eA43 (by omega) (by omega) (by omega) (by omega) rfl)) (iv_6)
set_option maxRecDepth 20000 in
set_option maxHeartbeats 4000000 in
theorem c_dispatch {X : jX} {dd : Nat} {c0 c1 : jC} {G : Nat → Int} {A : Nat → Nat → Int} {T : jH} {p : Int} {m0 m1 : Int} (hd : 3 ≤ dd) (hW : Wk G A) (e_m0 : A 72 ((2 * p)).toNat = m0) (e_m1 : A 72 (((2 * p) + 1)).toNat = m1) (h_p : (-2147483648 : Int) ≤ p ∧ p ≤ 2147483647) (p_0 : 0 ≤ p) (p_1 : p ≤ 5) (p_2 : 0 ≤ m0) (p_3 : m0 ≤ 1100) (p_4 : 0 ≤ m1) (p_5 : m1 ≤ 1100) : wk X dd 372 [.ref 66, .int (i32 p)] (rV c0 c1 G A T) (fun o V_q => ∃ (G_q : Nat → Int) (A_q : Nat → Nat → Int), V_q = rV c0 c1 G_q A_q T ∧ o = .inl none ∧ Wk G_q A_q ∧ Fr [] [60, 61, 62, 63, 64, 65, 66, 70, 71, 72, 73] G A G_q A_q ∧ (dispR A A_q (p)) ∧ True) := by
  obtain ⟨d, rfl⟩ : ∃ d, dd = d + 1 := ⟨dd - 1, by omega⟩
  refine wk_of (e := jm372) rfl (Nat.le_of_ble_eq_true rfl) ?_
  show wj X d jm372 (0, [(0, .ref 66), (1, .int (i32 (p)))], [], rV c0 c1 G A T) _
  have hF0 : Fr [] [60, 61, 62, 63, 64, 65, 66, 70, 71, 72, 73] G A G A := Fr_rf
  have b_m0 : (-2147483648 : Int) ≤ m0 ∧ m0 ≤ 2147483647 := e_m0 ▸ hW.2 72 _
  have b_m1 : (-2147483648 : Int) ≤ m1 ∧ m1 ≤ 2147483647 := e_m1 ▸ hW.2 72 _
  refine jx_ld (pc_q := 1) (l_q := [(0, .ref 66), (1, .int (i32 (p)))]) (st_q := [.ref 66]) rfl (jl_aloadn rfl) ?_
  refine jr_get (pc_q := 4) (i := 103) (v := .ref 139) rfl rfl (by decide) rfl rfl ?_
  refine jx_ar (pc_q := 5) (st_q := [.int (i32 (2)), .ref 139]) rfl rfl rfl rfl ?_
  refine jx_ld (pc_q := 6) (l_q := [(0, .ref 66), (1, .int (i32 (p)))]) (st_q := [.int (i32 (p)), .int (i32 (2)), .ref 139]) rfl (jl_iloadn rfl) ?_
  refine jx_mul (pc_q := 7) rfl rfl ?_
  refine jr_ldv (pc_q := 8) (i := 72) (m := 12) (z := (2 * p)) (y := m0) rfl (by decide) rfl (by decide) (by omega) (by omega) rfl (show A 72 ((2 * p)).toNat = m0 from (e_m0)) ?_
  refine jx_if_le (pc_q := 11) (tg := 17) rfl rfl rfl (Int.le_trans (by decide : (-2147483648 : Int) ≤ -2147483648) b_m0.1) (Int.le_trans b_m0.2 (by decide : (2147483647 : Int) ≤ 2147483647)) (fun h48 => ?_) (fun h48 => ?_)
  · have _q := h48
    refine jx_ar (pc_q := 18) (st_q := [.int (i32 (2))]) rfl rfl rfl rfl ?_
    refine jx_ld (pc_q := 19) (l_q := [(0, .ref 66), (1, .int (i32 (p)))]) (st_q := [.int (i32 (p)), .int (i32 (2))]) rfl (jl_iloadn rfl) ?_
    refine jx_mul (pc_q := 20) rfl rfl ?_
    refine jx_ar (pc_q := 21) (st_q := [.int (i32 (1)), .int (i32 ((2 * p)))]) rfl rfl rfl rfl ?_
    refine jx_add (pc_q := 22) rfl rfl ?_
    refine jx_ld (pc_q := 23) (l_q := jSto1 [(0, .ref 66), (1, .int (i32 (p)))] 2 (.int (i32 (((2 * p) + 1))))) (st_q := []) rfl rfl ?_
    obtain ⟨L49, eL49⟩ : ∃ q, q = jSto1 [(0, .ref 66), (1, .int (i32 (p)))] 2 (.int (i32 (((2 * p) + 1)))) := ⟨_, rfl⟩
    rw [← eL49]
    have gL49_0 : jGet L49 0 = some (.ref 66) := eL49 ▸ jg_ne (by decide) (rfl : jGet [(0, .ref 66), (1, .int (i32 (p)))] 0 = some (.ref 66)) rfl
    have gL49_1 : jGet L49 1 = some (.int (i32 (p))) := eL49 ▸ jg_ne (by decide) (rfl : jGet [(0, .ref 66), (1, .int (i32 (p)))] 1 = some (.int (i32 (p)))) rfl
    have gL49_2 : jGet L49 2 = some (.int (i32 (((2 * p) + 1)))) := eL49 ▸ jg_eq
    refine jx_ld (pc_q := 24) (l_q := L49) (st_q := [.ref 66]) rfl (jl_aloadn gL49_0) ?_
    refine jr_get (pc_q := 27) (i := 91) (v := .ref 127) rfl rfl (by decide) rfl rfl ?_
    refine jx_ld (pc_q := 28) (l_q := L49) (st_q := [.int (i32 (p)), .ref 127]) rfl (jl_iloadn gL49_1) ?_
    refine jx_ar (pc_q := 29) (st_q := [.int (i32 (0)), .int (i32 (p)), .ref 127]) rfl rfl rfl rfl ?_
    refine jr_st (pc_q := 30) (i := 60) (m := 6) (z := p) (y := 0) rfl (by decide) rfl (by decide) (by omega) (by omega) rfl ?_
    have hW51 : Wk G (uA A 60 (p).toNat (0)) := Wk_a hW (show (-2147483648 : Int) ≤ 0 by omega) (show 0 ≤ (2147483647 : Int) by omega)
    have hF52 := Fr_a (z := 0) (k := 60) (n := (p).toNat) hF0 (by decide)
    obtain ⟨A50, eA50⟩ : ∃ q, q = uA A 60 (p).toNat (0) := ⟨_, rfl⟩
    rw [← eA50]
    rw [← eA50] at hW51 hF52
    have q53 : A50 60 (p).toNat = 0 := by rw [eA50]; exact uA_eq
    refine jx_ld (pc_q := 31) (l_q := L49) (st_q := [.ref 66]) rfl (jl_aloadn gL49_0) ?_
    refine jr_get (pc_q := 34) (i := 92) (v := .ref 128) rfl rfl (by decide) rfl rfl ?_
    refine jx_ld (pc_q := 35) (l_q := L49) (st_q := [.int (i32 (p)), .ref 128]) rfl (jl_iloadn gL49_1) ?_
    refine jx_ar (pc_q := 36) (st_q := [.int (i32 (0)), .int (i32 (p)), .ref 128]) rfl rfl rfl rfl ?_
    refine jr_st (pc_q := 37) (i := 61) (m := 6) (z := p) (y := 0) rfl (by decide) rfl (by decide) (by omega) (by omega) rfl ?_
    have hW55 : Wk G (uA A50 61 (p).toNat (0)) := Wk_a hW51 (show (-2147483648 : Int) ≤ 0 by omega) (show 0 ≤ (2147483647 : Int) by omega)
    have hF56 := Fr_a (z := 0) (k := 61) (n := (p).toNat) hF52 (by decide)
    obtain ⟨A54, eA54⟩ : ∃ q, q = uA A50 61 (p).toNat (0) := ⟨_, rfl⟩
    rw [← eA54]
    rw [← eA54] at hW55 hF56
    have q57 : A54 61 (p).toNat = 0 := by rw [eA54]; exact uA_eq
    refine jx_ld (pc_q := 38) (l_q := L49) (st_q := [.ref 66]) rfl (jl_aloadn gL49_0) ?_
    refine jr_get (pc_q := 41) (i := 93) (v := .ref 129) rfl rfl (by decide) rfl rfl ?_
    refine jx_ld (pc_q := 42) (l_q := L49) (st_q := [.int (i32 (p)), .ref 129]) rfl (jl_iloadn gL49_1) ?_
    refine jx_ar (pc_q := 43) (st_q := [.int (i32 (0)), .int (i32 (p)), .ref 129]) rfl rfl rfl rfl ?_
    refine jr_st (pc_q := 44) (i := 62) (m := 6) (z := p) (y := 0) rfl (by decide) rfl (by decide) (by omega) (by omega) rfl ?_
    have hW59 : Wk G (uA A54 62 (p).toNat (0)) := Wk_a hW55 (show (-2147483648 : Int) ≤ 0 by omega) (show 0 ≤ (2147483647 : Int) by omega)
    have hF60 := Fr_a (z := 0) (k := 62) (n := (p).toNat) hF56 (by decide)
    obtain ⟨A58, eA58⟩ : ∃ q, q = uA A54 62 (p).toNat (0) := ⟨_, rfl⟩
    rw [← eA58]
    rw [← eA58] at hW59 hF60
    have q61 : A58 62 (p).toNat = 0 := by rw [eA58]; exact uA_eq
    refine jx_ld (pc_q := 45) (l_q := L49) (st_q := [.ref 66]) rfl (jl_aloadn gL49_0) ?_
    refine jr_get (pc_q := 48) (i := 96) (v := .ref 132) rfl rfl (by decide) rfl rfl ?_
    refine jx_ld (pc_q := 49) (l_q := L49) (st_q := [.int (i32 (p)), .ref 132]) rfl (jl_iloadn gL49_1) ?_
    refine jx_ar (pc_q := 50) (st_q := [.int (i32 (0)), .int (i32 (p)), .ref 132]) rfl rfl rfl rfl ?_
    refine jr_st (pc_q := 51) (i := 65) (m := 6) (z := p) (y := 0) rfl (by decide) rfl (by decide) (by omega) (by omega) rfl ?_
    have hW63 : Wk G (uA A58 65 (p).toNat (0)) := Wk_a hW59 (show (-2147483648 : Int) ≤ 0 by omega) (show 0 ≤ (2147483647 : Int) by omega)
    have hF64 := Fr_a (z := 0) (k := 65) (n := (p).toNat) hF60 (by decide)
    obtain ⟨A62, eA62⟩ : ∃ q, q = uA A58 65 (p).toNat (0) := ⟨_, rfl⟩
    rw [← eA62]
    rw [← eA62] at hW63 hF64
    have q65 : A62 65 (p).toNat = 0 := by rw [eA62]; exact uA_eq
    refine jx_ld (pc_q := 52) (l_q := L49) (st_q := [.ref 66]) rfl (jl_aloadn gL49_0) ?_
    refine jr_get (pc_q := 55) (i := 101) (v := .ref 137) rfl rfl (by decide) rfl rfl ?_
    refine jx_ld (pc_q := 56) (l_q := L49) (st_q := [.int (i32 (p)), .ref 137]) rfl (jl_iloadn gL49_1) ?_
    refine jx_ar (pc_q := 57) (st_q := [.int (i32 (0)), .int (i32 (p)), .ref 137]) rfl rfl rfl rfl ?_
    refine jr_st (pc_q := 58) (i := 70) (m := 6) (z := p) (y := 0) rfl (by decide) rfl (by decide) (by omega) (by omega) rfl ?_
    have hW67 : Wk G (uA A62 70 (p).toNat (0)) := Wk_a hW63 (show (-2147483648 : Int) ≤ 0 by omega) (show 0 ≤ (2147483647 : Int) by omega)
    have hF68 := Fr_a (z := 0) (k := 70) (n := (p).toNat) hF64 (by decide)
    obtain ⟨A66, eA66⟩ : ∃ q, q = uA A62 70 (p).toNat (0) := ⟨_, rfl⟩
    rw [← eA66]
    rw [← eA66] at hW67 hF68
    have q69 : A66 70 (p).toNat = 0 := by rw [eA66]; exact uA_eq
    refine jx_ld (pc_q := 59) (l_q := L49) (st_q := [.ref 66]) rfl (jl_aloadn gL49_0) ?_
    refine jr_get (pc_q := 62) (i := 103) (v := .ref 139) rfl rfl (by decide) rfl rfl ?_
    refine jx_ld (pc_q := 63) (l_q := L49) (st_q := [.int (i32 (((2 * p) + 1))), .ref 139]) rfl (jl_iloadn gL49_2) ?_
    refine jr_ldv (pc_q := 64) (i := 72) (m := 12) (z := ((2 * p) + 1)) (y := m1) rfl (by decide) rfl (by decide) (by omega) (by omega) rfl (show A66 72 (((2 * p) + 1)).toNat = m1 from (congrFun (((congrFun eA66 72).trans (uA_ne (by decide))).trans (((congrFun eA62 72).trans (uA_ne (by decide))).trans (((congrFun eA58 72).trans (uA_ne (by decide))).trans (((congrFun eA54 72).trans (uA_ne (by decide))).trans ((congrFun eA50 72).trans (uA_ne (by decide))))))) _).trans (e_m1)) ?_
    refine jx_if_ne (pc_q := 67) (tg := 89) rfl rfl rfl (Int.le_trans (by decide : (-2147483648 : Int) ≤ -2147483648) b_m1.1) (Int.le_trans b_m1.2 (by decide : (2147483647 : Int) ≤ 2147483647)) (fun h70 => ?_) (fun h70 => ?_)
    · have _q := h70
      refine jx_ld (pc_q := 90) (l_q := L49) (st_q := [.ref 66]) rfl (jl_aloadn gL49_0) ?_
      refine jr_get (pc_q := 93) (i := 97) (v := .ref 133) rfl rfl (by decide) rfl rfl ?_
      refine jx_ld (pc_q := 94) (l_q := L49) (st_q := [.int (i32 (p)), .ref 133]) rfl (jl_iloadn gL49_1) ?_
      refine jx_ld (pc_q := 95) (l_q := L49) (st_q := [.ref 66, .int (i32 (p)), .ref 133]) rfl (jl_aloadn gL49_0) ?_
      refine jr_get (pc_q := 98) (i := 102) (v := .ref 138) rfl rfl (by decide) rfl rfl ?_
      refine jx_ar (pc_q := 101) (st_q := [.int (i32 (1100)), .ref 138, .int (i32 (p)), .ref 133]) rfl rfl rfl rfl ?_
      refine jx_ld (pc_q := 102) (l_q := L49) (st_q := [.int (i32 (((2 * p) + 1))), .int (i32 (1100)), .ref 138, .int (i32 (p)), .ref 133]) rfl (jl_iloadn gL49_2) ?_
      refine jx_mul (pc_q := 103) rfl rfl ?_
      have b71 : (-2147483648 : Int) ≤ A 71 ((1100 * ((2 * p) + 1))).toNat ∧ A 71 ((1100 * ((2 * p) + 1))).toNat ≤ 2147483647 := hW.2 71 _
      refine jr_ldv (pc_q := 104) (i := 71) (m := 13200) (z := (1100 * ((2 * p) + 1))) (y := A 71 ((1100 * ((2 * p) + 1))).toNat) rfl (by decide) rfl (by decide) (by omega) (by omega) rfl (show A66 71 ((1100 * ((2 * p) + 1))).toNat = A 71 ((1100 * ((2 * p) + 1))).toNat from (congrFun (((congrFun eA66 71).trans (uA_ne (by decide))).trans (((congrFun eA62 71).trans (uA_ne (by decide))).trans (((congrFun eA58 71).trans (uA_ne (by decide))).trans (((congrFun eA54 71).trans (uA_ne (by decide))).trans ((congrFun eA50 71).trans (uA_ne (by decide))))))) _)) ?_
      refine jr_st (pc_q := 105) (i := 66) (m := 6) (z := p) (y := A 71 ((1100 * ((2 * p) + 1))).toNat) rfl (by decide) rfl (by decide) (by omega) (by omega) rfl ?_
      have hW73 : Wk G (uA A66 66 (p).toNat (A 71 ((1100 * ((2 * p) + 1))).toNat)) := Wk_a hW67 (show (-2147483648 : Int) ≤ A 71 ((1100 * ((2 * p) + 1))).toNat by omega) (show A 71 ((1100 * ((2 * p) + 1))).toNat ≤ (2147483647 : Int) by omega)
      have hF74 := Fr_a (z := A 71 ((1100 * ((2 * p) + 1))).toNat) (k := 66) (n := (p).toNat) hF68 (by decide)
      obtain ⟨A72, eA72⟩ : ∃ q, q = uA A66 66 (p).toNat (A 71 ((1100 * ((2 * p) + 1))).toNat) := ⟨_, rfl⟩
      rw [← eA72]
      rw [← eA72] at hW73 hF74
      have q75 : A72 66 (p).toNat = A 71 ((1100 * ((2 * p) + 1))).toNat := by rw [eA72]; exact uA_eq
      refine jx_ld (pc_q := 106) (l_q := L49) (st_q := [.ref 66]) rfl (jl_aloadn gL49_0) ?_
      refine jr_get (pc_q := 109) (i := 103) (v := .ref 139) rfl rfl (by decide) rfl rfl ?_
      refine jx_ld (pc_q := 110) (l_q := L49) (st_q := [.int (i32 (((2 * p) + 1))), .ref 139]) rfl (jl_iloadn gL49_2) ?_
      refine jx_ar (pc_q := 111) (st_q := [.int (i32 (((2 * p) + 1))), .ref 139, .int (i32 (((2 * p) + 1))), .ref 139]) rfl rfl rfl rfl ?_
      refine jr_ldv (pc_q := 112) (i := 72) (m := 12) (z := ((2 * p) + 1)) (y := m1) rfl (by decide) rfl (by decide) (by omega) (by omega) rfl (show A72 72 (((2 * p) + 1)).toNat = m1 from (congrFun (((congrFun eA72 72).trans (uA_ne (by decide))).trans (((congrFun eA66 72).trans (uA_ne (by decide))).trans (((congrFun eA62 72).trans (uA_ne (by decide))).trans (((congrFun eA58 72).trans (uA_ne (by decide))).trans (((congrFun eA54 72).trans (uA_ne (by decide))).trans ((congrFun eA50 72).trans (uA_ne (by decide)))))))) _).trans (e_m1)) ?_
      refine jx_ar (pc_q := 113) (st_q := [.int (i32 (1)), .int (i32 (m1)), .int (i32 (((2 * p) + 1))), .ref 139]) rfl rfl rfl rfl ?_
      refine jx_sub (pc_q := 114) rfl rfl ?_
      refine jr_st (pc_q := 115) (i := 72) (m := 12) (z := ((2 * p) + 1)) (y := (m1 - 1)) rfl (by decide) rfl (by decide) (by omega) (by omega) rfl ?_
      have hW77 : Wk G (uA A72 72 (((2 * p) + 1)).toNat ((m1 - 1))) := Wk_a hW73 (show (-2147483648 : Int) ≤ (m1 - 1) by omega) (show (m1 - 1) ≤ (2147483647 : Int) by omega)
      have hF78 := Fr_a (z := (m1 - 1)) (k := 72) (n := (((2 * p) + 1)).toNat) hF74 (by decide)
      obtain ⟨A76, eA76⟩ : ∃ q, q = uA A72 72 (((2 * p) + 1)).toNat ((m1 - 1)) := ⟨_, rfl⟩
      rw [← eA76]
      rw [← eA76] at hW77 hF78
      have q79 : A76 72 (((2 * p) + 1)).toNat = (m1 - 1) := by rw [eA76]; exact uA_eq
      have _q : True := trivial
      refine jx_ar (pc_q := 116) (st_q := [.int (i32 (0))]) rfl rfl rfl rfl ?_
      refine jx_ld (pc_q := 117) (l_q := jSto1 L49 3 (.int (i32 (0)))) (st_q := []) rfl rfl ?_
      obtain ⟨L80, eL80⟩ : ∃ q, q = jSto1 L49 3 (.int (i32 (0))) := ⟨_, rfl⟩
      rw [← eL80]
      have gL80_0 : jGet L80 0 = some (.ref 66) := eL80 ▸ jg_ne (by decide) gL49_0 rfl
      have gL80_1 : jGet L80 1 = some (.int (i32 (p))) := eL80 ▸ jg_ne (by decide) gL49_1 rfl
      have gL80_2 : jGet L80 2 = some (.int (i32 (((2 * p) + 1)))) := eL80 ▸ jg_ne (by decide) gL49_2 rfl
      have gL80_3 : jGet L80 3 = some (.int (i32 (0))) := eL80 ▸ jg_eq
      exact c_dispatch_at_117 (X := X) (d := d) (c0 := c0) (c1 := c1) (G := G) (A := A) (T := T) (p := p) (m0 := m0) (m1 := m1) (hd := hd) (hW := hW) (e_m0 := e_m0) (e_m1 := e_m1) (h_p := h_p) (p_0 := p_0) (p_1 := p_1) (p_2 := p_2) (p_3 := p_3) (p_4 := p_4) (p_5 := p_5) _ L80 G A76 (((2 * p) + 1)) (0) ((m1 - 1)) (A 71 ((1100 * ((2 * p) + 1))).toNat) (A76) rfl gL80_0 gL80_1 gL80_2 gL80_3 hW77 hF78 ((q79)) ((congrFun ((congrFun eA76 66).trans (uA_ne (by decide))) _).trans (q75)) (by omega) (by omega) (by omega) (by omega) (by omega) (by omega) (by omega) ((shM_0 (by omega))) ((by rw [eA76, eA72, eA66, eA62, eA58, eA54, eA50, ← e_m1]; rfl))
    · have _q := h70
      refine jx_ld (pc_q := 68) (l_q := L49) (st_q := [.ref 66]) rfl (jl_aloadn gL49_0) ?_
      refine jr_get (pc_q := 71) (i := 97) (v := .ref 133) rfl rfl (by decide) rfl rfl ?_
      refine jx_ld (pc_q := 72) (l_q := L49) (st_q := [.int (i32 (p)), .ref 133]) rfl (jl_iloadn gL49_1) ?_
      refine jx_ar (pc_q := 73) (st_q := [.int (i32 (-1)), .int (i32 (p)), .ref 133]) rfl rfl rfl rfl ?_
      refine jr_st (pc_q := 74) (i := 66) (m := 6) (z := p) (y := -1) rfl (by decide) rfl (by decide) (by omega) (by omega) rfl ?_
      have hW82 : Wk G (uA A66 66 (p).toNat (-1)) := Wk_a hW67 (show (-2147483648 : Int) ≤ -1 by omega) (show -1 ≤ (2147483647 : Int) by omega)
      have hF83 := Fr_a (z := -1) (k := 66) (n := (p).toNat) hF68 (by decide)
      obtain ⟨A81, eA81⟩ : ∃ q, q = uA A66 66 (p).toNat (-1) := ⟨_, rfl⟩
      rw [← eA81]
      rw [← eA81] at hW82 hF83
      have q84 : A81 66 (p).toNat = -1 := by rw [eA81]; exact uA_eq
      refine jx_ld (pc_q := 75) (l_q := L49) (st_q := [.ref 66]) rfl (jl_aloadn gL49_0) ?_
      refine jr_get (pc_q := 78) (i := 94) (v := .ref 130) rfl rfl (by decide) rfl rfl ?_
      refine jx_ld (pc_q := 79) (l_q := L49) (st_q := [.int (i32 (p)), .ref 130]) rfl (jl_iloadn gL49_1) ?_
      refine jx_ar (pc_q := 80) (st_q := [.int (i32 (0)), .int (i32 (p)), .ref 130]) rfl rfl rfl rfl ?_
      refine jr_st (pc_q := 81) (i := 63) (m := 6) (z := p) (y := 0) rfl (by decide) rfl (by decide) (by omega) (by omega) rfl ?_
      have hW86 : Wk G (uA A81 63 (p).toNat (0)) := Wk_a hW82 (show (-2147483648 : Int) ≤ 0 by omega) (show 0 ≤ (2147483647 : Int) by omega)
      have hF87 := Fr_a (z := 0) (k := 63) (n := (p).toNat) hF83 (by decide)
      obtain ⟨A85, eA85⟩ : ∃ q, q = uA A81 63 (p).toNat (0) := ⟨_, rfl⟩
      rw [← eA85]
      rw [← eA85] at hW86 hF87
      have q88 : A85 63 (p).toNat = 0 := by rw [eA85]; exact uA_eq
      refine jx_ld (pc_q := 82) (l_q := L49) (st_q := [.ref 66]) rfl (jl_aloadn gL49_0) ?_
      refine jr_get (pc_q := 85) (i := 95) (v := .ref 131) rfl rfl (by decide) rfl rfl ?_
      refine jx_ld (pc_q := 86) (l_q := L49) (st_q := [.int (i32 (p)), .ref 131]) rfl (jl_iloadn gL49_1) ?_
      refine jx_ar (pc_q := 87) (st_q := [.int (i32 (0)), .int (i32 (p)), .ref 131]) rfl rfl rfl rfl ?_
      refine jr_st (pc_q := 88) (i := 64) (m := 6) (z := p) (y := 0) rfl (by decide) rfl (by decide) (by omega) (by omega) rfl ?_
      have hW90 : Wk G (uA A85 64 (p).toNat (0)) := Wk_a hW86 (show (-2147483648 : Int) ≤ 0 by omega) (show 0 ≤ (2147483647 : Int) by omega)
      have hF91 := Fr_a (z := 0) (k := 64) (n := (p).toNat) hF87 (by decide)
      obtain ⟨A89, eA89⟩ : ∃ q, q = uA A85 64 (p).toNat (0) := ⟨_, rfl⟩
      rw [← eA89]
      rw [← eA89] at hW90 hF91
      have q92 : A89 64 (p).toNat = 0 := by rw [eA89]; exact uA_eq
      refine jx_rt (v := none) rfl rfl rfl rfl rfl rfl ?_
      exact ⟨_, _, rfl, rfl, hW90, hF91, (.inl ⟨by rw [show A 72 (2 * p).toNat = m0 from e_m0]; omega, by rw [show A 72 (2 * p + 1).toNat = m1 from e_m1]; omega, by rw [eA89, eA85, eA81, eA66, eA62, eA58, eA54, eA50]; rfl⟩), trivial⟩
  · have _q := h48
    refine jx_ar (pc_q := 12) (st_q := [.int (i32 (2))]) rfl rfl rfl rfl ?_
    refine jx_ld (pc_q := 13) (l_q := [(0, .ref 66), (1, .int (i32 (p)))]) (st_q := [.int (i32 (p)), .int (i32 (2))]) rfl (jl_iloadn rfl) ?_
    refine jx_mul (pc_q := 14) rfl rfl ?_
    refine jx_go (tg := 22) rfl rfl ?_
    refine jx_ld (pc_q := 23) (l_q := jSto1 [(0, .ref 66), (1, .int (i32 (p)))] 2 (.int (i32 ((2 * p))))) (st_q := []) rfl rfl ?_
    obtain ⟨L93, eL93⟩ : ∃ q, q = jSto1 [(0, .ref 66), (1, .int (i32 (p)))] 2 (.int (i32 ((2 * p)))) := ⟨_, rfl⟩
    rw [← eL93]
    have gL93_0 : jGet L93 0 = some (.ref 66) := eL93 ▸ jg_ne (by decide) (rfl : jGet [(0, .ref 66), (1, .int (i32 (p)))] 0 = some (.ref 66)) rfl
    have gL93_1 : jGet L93 1 = some (.int (i32 (p))) := eL93 ▸ jg_ne (by decide) (rfl : jGet [(0, .ref 66), (1, .int (i32 (p)))] 1 = some (.int (i32 (p)))) rfl
    have gL93_2 : jGet L93 2 = some (.int (i32 ((2 * p)))) := eL93 ▸ jg_eq
    refine jx_ld (pc_q := 24) (l_q := L93) (st_q := [.ref 66]) rfl (jl_aloadn gL93_0) ?_
    refine jr_get (pc_q := 27) (i := 91) (v := .ref 127) rfl rfl (by decide) rfl rfl ?_
    refine jx_ld (pc_q := 28) (l_q := L93) (st_q := [.int (i32 (p)), .ref 127]) rfl (jl_iloadn gL93_1) ?_
    refine jx_ar (pc_q := 29) (st_q := [.int (i32 (0)), .int (i32 (p)), .ref 127]) rfl rfl rfl rfl ?_
    refine jr_st (pc_q := 30) (i := 60) (m := 6) (z := p) (y := 0) rfl (by decide) rfl (by decide) (by omega) (by omega) rfl ?_
    have hW95 : Wk G (uA A 60 (p).toNat (0)) := Wk_a hW (show (-2147483648 : Int) ≤ 0 by omega) (show 0 ≤ (2147483647 : Int) by omega)
    have hF96 := Fr_a (z := 0) (k := 60) (n := (p).toNat) hF0 (by decide)
    obtain ⟨A94, eA94⟩ : ∃ q, q = uA A 60 (p).toNat (0) := ⟨_, rfl⟩
    rw [← eA94]
    rw [← eA94] at hW95 hF96
    have q97 : A94 60 (p).toNat = 0 := by rw [eA94]; exact uA_eq
    refine jx_ld (pc_q := 31) (l_q := L93) (st_q := [.ref 66]) rfl (jl_aloadn gL93_0) ?_
    refine jr_get (pc_q := 34) (i := 92) (v := .ref 128) rfl rfl (by decide) rfl rfl ?_
    refine jx_ld (pc_q := 35) (l_q := L93) (st_q := [.int (i32 (p)), .ref 128]) rfl (jl_iloadn gL93_1) ?_
    refine jx_ar (pc_q := 36) (st_q := [.int (i32 (0)), .int (i32 (p)), .ref 128]) rfl rfl rfl rfl ?_
    refine jr_st (pc_q := 37) (i := 61) (m := 6) (z := p) (y := 0) rfl (by decide) rfl (by decide) (by omega) (by omega) rfl ?_
    have hW99 : Wk G (uA A94 61 (p).toNat (0)) := Wk_a hW95 (show (-2147483648 : Int) ≤ 0 by omega) (show 0 ≤ (2147483647 : Int) by omega)
    have hF100 := Fr_a (z := 0) (k := 61) (n := (p).toNat) hF96 (by decide)
    obtain ⟨A98, eA98⟩ : ∃ q, q = uA A94 61 (p).toNat (0) := ⟨_, rfl⟩
    rw [← eA98]
    rw [← eA98] at hW99 hF100
    have q101 : A98 61 (p).toNat = 0 := by rw [eA98]; exact uA_eq
    refine jx_ld (pc_q := 38) (l_q := L93) (st_q := [.ref 66]) rfl (jl_aloadn gL93_0) ?_
    refine jr_get (pc_q := 41) (i := 93) (v := .ref 129) rfl rfl (by decide) rfl rfl ?_
    refine jx_ld (pc_q := 42) (l_q := L93) (st_q := [.int (i32 (p)), .ref 129]) rfl (jl_iloadn gL93_1) ?_
    refine jx_ar (pc_q := 43) (st_q := [.int (i32 (0)), .int (i32 (p)), .ref 129]) rfl rfl rfl rfl ?_
    refine jr_st (pc_q := 44) (i := 62) (m := 6) (z := p) (y := 0) rfl (by decide) rfl (by decide) (by omega) (by omega) rfl ?_
    have hW103 : Wk G (uA A98 62 (p).toNat (0)) := Wk_a hW99 (show (-2147483648 : Int) ≤ 0 by omega) (show 0 ≤ (2147483647 : Int) by omega)
    have hF104 := Fr_a (z := 0) (k := 62) (n := (p).toNat) hF100 (by decide)
    obtain ⟨A102, eA102⟩ : ∃ q, q = uA A98 62 (p).toNat (0) := ⟨_, rfl⟩
    rw [← eA102]
    rw [← eA102] at hW103 hF104
    have q105 : A102 62 (p).toNat = 0 := by rw [eA102]; exact uA_eq
    refine jx_ld (pc_q := 45) (l_q := L93) (st_q := [.ref 66]) rfl (jl_aloadn gL93_0) ?_
    refine jr_get (pc_q := 48) (i := 96) (v := .ref 132) rfl rfl (by decide) rfl rfl ?_
    refine jx_ld (pc_q := 49) (l_q := L93) (st_q := [.int (i32 (p)), .ref 132]) rfl (jl_iloadn gL93_1) ?_
    refine jx_ar (pc_q := 50) (st_q := [.int (i32 (0)), .int (i32 (p)), .ref 132]) rfl rfl rfl rfl ?_
    refine jr_st (pc_q := 51) (i := 65) (m := 6) (z := p) (y := 0) rfl (by decide) rfl (by decide) (by omega) (by omega) rfl ?_
    have hW107 : Wk G (uA A102 65 (p).toNat (0)) := Wk_a hW103 (show (-2147483648 : Int) ≤ 0 by omega) (show 0 ≤ (2147483647 : Int) by omega)
    have hF108 := Fr_a (z := 0) (k := 65) (n := (p).toNat) hF104 (by decide)
    obtain ⟨A106, eA106⟩ : ∃ q, q = uA A102 65 (p).toNat (0) := ⟨_, rfl⟩
    rw [← eA106]
    rw [← eA106] at hW107 hF108
    have q109 : A106 65 (p).toNat = 0 := by rw [eA106]; exact uA_eq
    refine jx_ld (pc_q := 52) (l_q := L93) (st_q := [.ref 66]) rfl (jl_aloadn gL93_0) ?_
    refine jr_get (pc_q := 55) (i := 101) (v := .ref 137) rfl rfl (by decide) rfl rfl ?_
    refine jx_ld (pc_q := 56) (l_q := L93) (st_q := [.int (i32 (p)), .ref 137]) rfl (jl_iloadn gL93_1) ?_
    refine jx_ar (pc_q := 57) (st_q := [.int (i32 (0)), .int (i32 (p)), .ref 137]) rfl rfl rfl rfl ?_
    refine jr_st (pc_q := 58) (i := 70) (m := 6) (z := p) (y := 0) rfl (by decide) rfl (by decide) (by omega) (by omega) rfl ?_
    have hW111 : Wk G (uA A106 70 (p).toNat (0)) := Wk_a hW107 (show (-2147483648 : Int) ≤ 0 by omega) (show 0 ≤ (2147483647 : Int) by omega)
    have hF112 := Fr_a (z := 0) (k := 70) (n := (p).toNat) hF108 (by decide)
    obtain ⟨A110, eA110⟩ : ∃ q, q = uA A106 70 (p).toNat (0) := ⟨_, rfl⟩
    rw [← eA110]
    rw [← eA110] at hW111 hF112
    have q113 : A110 70 (p).toNat = 0 := by rw [eA110]; exact uA_eq
    refine jx_ld (pc_q := 59) (l_q := L93) (st_q := [.ref 66]) rfl (jl_aloadn gL93_0) ?_
    refine jr_get (pc_q := 62) (i := 103) (v := .ref 139) rfl rfl (by decide) rfl rfl ?_
    refine jx_ld (pc_q := 63) (l_q := L93) (st_q := [.int (i32 ((2 * p))), .ref 139]) rfl (jl_iloadn gL93_2) ?_
    refine jr_ldv (pc_q := 64) (i := 72) (m := 12) (z := (2 * p)) (y := m0) rfl (by decide) rfl (by decide) (by omega) (by omega) rfl (show A110 72 ((2 * p)).toNat = m0 from (congrFun (((congrFun eA110 72).trans (uA_ne (by decide))).trans (((congrFun eA106 72).trans (uA_ne (by decide))).trans (((congrFun eA102 72).trans (uA_ne (by decide))).trans (((congrFun eA98 72).trans (uA_ne (by decide))).trans ((congrFun eA94 72).trans (uA_ne (by decide))))))) _).trans (e_m0)) ?_
    refine jx_if_ne (pc_q := 67) (tg := 89) rfl rfl rfl (Int.le_trans (by decide : (-2147483648 : Int) ≤ -2147483648) b_m0.1) (Int.le_trans b_m0.2 (by decide : (2147483647 : Int) ≤ 2147483647)) (fun h114 => ?_) (fun h114 => ?_)
    · have _q := h114
      refine jx_ld (pc_q := 90) (l_q := L93) (st_q := [.ref 66]) rfl (jl_aloadn gL93_0) ?_
      refine jr_get (pc_q := 93) (i := 97) (v := .ref 133) rfl rfl (by decide) rfl rfl ?_
      refine jx_ld (pc_q := 94) (l_q := L93) (st_q := [.int (i32 (p)), .ref 133]) rfl (jl_iloadn gL93_1) ?_
      refine jx_ld (pc_q := 95) (l_q := L93) (st_q := [.ref 66, .int (i32 (p)), .ref 133]) rfl (jl_aloadn gL93_0) ?_
      refine jr_get (pc_q := 98) (i := 102) (v := .ref 138) rfl rfl (by decide) rfl rfl ?_
      refine jx_ar (pc_q := 101) (st_q := [.int (i32 (1100)), .ref 138, .int (i32 (p)), .ref 133]) rfl rfl rfl rfl ?_
      refine jx_ld (pc_q := 102) (l_q := L93) (st_q := [.int (i32 ((2 * p))), .int (i32 (1100)), .ref 138, .int (i32 (p)), .ref 133]) rfl (jl_iloadn gL93_2) ?_
      refine jx_mul (pc_q := 103) rfl rfl ?_
      have b115 : (-2147483648 : Int) ≤ A 71 ((1100 * (2 * p))).toNat ∧ A 71 ((1100 * (2 * p))).toNat ≤ 2147483647 := hW.2 71 _
      refine jr_ldv (pc_q := 104) (i := 71) (m := 13200) (z := (1100 * (2 * p))) (y := A 71 ((1100 * (2 * p))).toNat) rfl (by decide) rfl (by decide) (by omega) (by omega) rfl (show A110 71 ((1100 * (2 * p))).toNat = A 71 ((1100 * (2 * p))).toNat from (congrFun (((congrFun eA110 71).trans (uA_ne (by decide))).trans (((congrFun eA106 71).trans (uA_ne (by decide))).trans (((congrFun eA102 71).trans (uA_ne (by decide))).trans (((congrFun eA98 71).trans (uA_ne (by decide))).trans ((congrFun eA94 71).trans (uA_ne (by decide))))))) _)) ?_
      refine jr_st (pc_q := 105) (i := 66) (m := 6) (z := p) (y := A 71 ((1100 * (2 * p))).toNat) rfl (by decide) rfl (by decide) (by omega) (by omega) rfl ?_
      have hW117 : Wk G (uA A110 66 (p).toNat (A 71 ((1100 * (2 * p))).toNat)) := Wk_a hW111 (show (-2147483648 : Int) ≤ A 71 ((1100 * (2 * p))).toNat by omega) (show A 71 ((1100 * (2 * p))).toNat ≤ (2147483647 : Int) by omega)
      have hF118 := Fr_a (z := A 71 ((1100 * (2 * p))).toNat) (k := 66) (n := (p).toNat) hF112 (by decide)
      obtain ⟨A116, eA116⟩ : ∃ q, q = uA A110 66 (p).toNat (A 71 ((1100 * (2 * p))).toNat) := ⟨_, rfl⟩
      rw [← eA116]
      rw [← eA116] at hW117 hF118
      have q119 : A116 66 (p).toNat = A 71 ((1100 * (2 * p))).toNat := by rw [eA116]; exact uA_eq
      refine jx_ld (pc_q := 106) (l_q := L93) (st_q := [.ref 66]) rfl (jl_aloadn gL93_0) ?_
      refine jr_get (pc_q := 109) (i := 103) (v := .ref 139) rfl rfl (by decide) rfl rfl ?_
      refine jx_ld (pc_q := 110) (l_q := L93) (st_q := [.int (i32 ((2 * p))), .ref 139]) rfl (jl_iloadn gL93_2) ?_
      refine jx_ar (pc_q := 111) (st_q := [.int (i32 ((2 * p))), .ref 139, .int (i32 ((2 * p))), .ref 139]) rfl rfl rfl rfl ?_
      refine jr_ldv (pc_q := 112) (i := 72) (m := 12) (z := (2 * p)) (y := m0) rfl (by decide) rfl (by decide) (by omega) (by omega) rfl (show A116 72 ((2 * p)).toNat = m0 from (congrFun (((congrFun eA116 72).trans (uA_ne (by decide))).trans (((congrFun eA110 72).trans (uA_ne (by decide))).trans (((congrFun eA106 72).trans (uA_ne (by decide))).trans (((congrFun eA102 72).trans (uA_ne (by decide))).trans (((congrFun eA98 72).trans (uA_ne (by decide))).trans ((congrFun eA94 72).trans (uA_ne (by decide)))))))) _).trans (e_m0)) ?_
      refine jx_ar (pc_q := 113) (st_q := [.int (i32 (1)), .int (i32 (m0)), .int (i32 ((2 * p))), .ref 139]) rfl rfl rfl rfl ?_
      refine jx_sub (pc_q := 114) rfl rfl ?_
      refine jr_st (pc_q := 115) (i := 72) (m := 12) (z := (2 * p)) (y := (m0 - 1)) rfl (by decide) rfl (by decide) (by omega) (by omega) rfl ?_
      have hW121 : Wk G (uA A116 72 ((2 * p)).toNat ((m0 - 1))) := Wk_a hW117 (show (-2147483648 : Int) ≤ (m0 - 1) by omega) (show (m0 - 1) ≤ (2147483647 : Int) by omega)
      have hF122 := Fr_a (z := (m0 - 1)) (k := 72) (n := ((2 * p)).toNat) hF118 (by decide)
      obtain ⟨A120, eA120⟩ : ∃ q, q = uA A116 72 ((2 * p)).toNat ((m0 - 1)) := ⟨_, rfl⟩
      rw [← eA120]
      rw [← eA120] at hW121 hF122
      have q123 : A120 72 ((2 * p)).toNat = (m0 - 1) := by rw [eA120]; exact uA_eq
      have _q : True := trivial
      refine jx_ar (pc_q := 116) (st_q := [.int (i32 (0))]) rfl rfl rfl rfl ?_
      refine jx_ld (pc_q := 117) (l_q := jSto1 L93 3 (.int (i32 (0)))) (st_q := []) rfl rfl ?_
      obtain ⟨L124, eL124⟩ : ∃ q, q = jSto1 L93 3 (.int (i32 (0))) := ⟨_, rfl⟩
      rw [← eL124]
      have gL124_0 : jGet L124 0 = some (.ref 66) := eL124 ▸ jg_ne (by decide) gL93_0 rfl
      have gL124_1 : jGet L124 1 = some (.int (i32 (p))) := eL124 ▸ jg_ne (by decide) gL93_1 rfl
      have gL124_2 : jGet L124 2 = some (.int (i32 ((2 * p)))) := eL124 ▸ jg_ne (by decide) gL93_2 rfl
      have gL124_3 : jGet L124 3 = some (.int (i32 (0))) := eL124 ▸ jg_eq
      exact c_dispatch_at_117 (X := X) (d := d) (c0 := c0) (c1 := c1) (G := G) (A := A) (T := T) (p := p) (m0 := m0) (m1 := m1) (hd := hd) (hW := hW) (e_m0 := e_m0) (e_m1 := e_m1) (h_p := h_p) (p_0 := p_0) (p_1 := p_1) (p_2 := p_2) (p_3 := p_3) (p_4 := p_4) (p_5 := p_5) _ L124 G A120 ((2 * p)) (0) ((m0 - 1)) (A 71 ((1100 * (2 * p))).toNat) (A120) rfl gL124_0 gL124_1 gL124_2 gL124_3 hW121 hF122 ((q123)) ((congrFun ((congrFun eA120 66).trans (uA_ne (by decide))) _).trans (q119)) (by omega) (by omega) (by omega) (by omega) (by omega) (by omega) (by omega) ((shM_0 (by omega))) ((by rw [eA120, eA116, eA110, eA106, eA102, eA98, eA94, ← e_m0]; rfl))
    · have _q := h114
      refine jx_ld (pc_q := 68) (l_q := L93) (st_q := [.ref 66]) rfl (jl_aloadn gL93_0) ?_
      refine jr_get (pc_q := 71) (i := 97) (v := .ref 133) rfl rfl (by decide) rfl rfl ?_
      refine jx_ld (pc_q := 72) (l_q := L93) (st_q := [.int (i32 (p)), .ref 133]) rfl (jl_iloadn gL93_1) ?_
      refine jx_ar (pc_q := 73) (st_q := [.int (i32 (-1)), .int (i32 (p)), .ref 133]) rfl rfl rfl rfl ?_
      refine jr_st (pc_q := 74) (i := 66) (m := 6) (z := p) (y := -1) rfl (by decide) rfl (by decide) (by omega) (by omega) rfl ?_
      have hW126 : Wk G (uA A110 66 (p).toNat (-1)) := Wk_a hW111 (show (-2147483648 : Int) ≤ -1 by omega) (show -1 ≤ (2147483647 : Int) by omega)
      have hF127 := Fr_a (z := -1) (k := 66) (n := (p).toNat) hF112 (by decide)
      obtain ⟨A125, eA125⟩ : ∃ q, q = uA A110 66 (p).toNat (-1) := ⟨_, rfl⟩
      rw [← eA125]
      rw [← eA125] at hW126 hF127
      have q128 : A125 66 (p).toNat = -1 := by rw [eA125]; exact uA_eq
      refine jx_ld (pc_q := 75) (l_q := L93) (st_q := [.ref 66]) rfl (jl_aloadn gL93_0) ?_
      refine jr_get (pc_q := 78) (i := 94) (v := .ref 130) rfl rfl (by decide) rfl rfl ?_
      refine jx_ld (pc_q := 79) (l_q := L93) (st_q := [.int (i32 (p)), .ref 130]) rfl (jl_iloadn gL93_1) ?_
      refine jx_ar (pc_q := 80) (st_q := [.int (i32 (0)), .int (i32 (p)), .ref 130]) rfl rfl rfl rfl ?_
      refine jr_st (pc_q := 81) (i := 63) (m := 6) (z := p) (y := 0) rfl (by decide) rfl (by decide) (by omega) (by omega) rfl ?_
      have hW130 : Wk G (uA A125 63 (p).toNat (0)) := Wk_a hW126 (show (-2147483648 : Int) ≤ 0 by omega) (show 0 ≤ (2147483647 : Int) by omega)
      have hF131 := Fr_a (z := 0) (k := 63) (n := (p).toNat) hF127 (by decide)
      obtain ⟨A129, eA129⟩ : ∃ q, q = uA A125 63 (p).toNat (0) := ⟨_, rfl⟩
      rw [← eA129]
      rw [← eA129] at hW130 hF131
      have q132 : A129 63 (p).toNat = 0 := by rw [eA129]; exact uA_eq
      refine jx_ld (pc_q := 82) (l_q := L93) (st_q := [.ref 66]) rfl (jl_aloadn gL93_0) ?_
      refine jr_get (pc_q := 85) (i := 95) (v := .ref 131) rfl rfl (by decide) rfl rfl ?_
      refine jx_ld (pc_q := 86) (l_q := L93) (st_q := [.int (i32 (p)), .ref 131]) rfl (jl_iloadn gL93_1) ?_
      refine jx_ar (pc_q := 87) (st_q := [.int (i32 (0)), .int (i32 (p)), .ref 131]) rfl rfl rfl rfl ?_
      refine jr_st (pc_q := 88) (i := 64) (m := 6) (z := p) (y := 0) rfl (by decide) rfl (by decide) (by omega) (by omega) rfl ?_
      have hW134 : Wk G (uA A129 64 (p).toNat (0)) := Wk_a hW130 (show (-2147483648 : Int) ≤ 0 by omega) (show 0 ≤ (2147483647 : Int) by omega)
      have hF135 := Fr_a (z := 0) (k := 64) (n := (p).toNat) hF131 (by decide)
      obtain ⟨A133, eA133⟩ : ∃ q, q = uA A129 64 (p).toNat (0) := ⟨_, rfl⟩
      rw [← eA133]
      rw [← eA133] at hW134 hF135
      have q136 : A133 64 (p).toNat = 0 := by rw [eA133]; exact uA_eq
      refine jx_rt (v := none) rfl rfl rfl rfl rfl rfl ?_
      exact ⟨_, _, rfl, rfl, hW134, hF135, (.inl ⟨by rw [show A 72 (2 * p).toNat = m0 from e_m0]; omega, by rw [show A 72 (2 * p + 1).toNat = m1 from e_m1]; omega, by rw [eA133, eA129, eA125, eA110, eA106, eA102, eA98, eA94]; rfl⟩), trivial⟩
